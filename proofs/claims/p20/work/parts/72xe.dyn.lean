/-! OATHS on both sides: printed by program (wip/tools/zdy.py) -/
def ban (a b : Int) : Int := (i32 a &&& i32 b).toInt
def bor (a b : Int) : Int := (i32 a ||| i32 b).toInt
def bsl (a b : Int) : Int := (i32 a <<< (i32 b &&& 31)).toInt
def bsr (a b : Int) : Int := (i32 a >>> (i32 b &&& 31)).toInt
def lan (a b : Int) : Int := (i64 a &&& i64 b).toInt
def lor (a b : Int) : Int := (i64 a ||| i64 b).toInt
def lsl (a b : Int) : Int := (i64 a <<< ((i32 b).toInt64 &&& 63)).toInt
def lsr (a b : Int) : Int := (i64 a >>> ((i32 b).toInt64 &&& 63)).toInt
def bus (a b : Int) : Int := ((i32 a).toUInt32 >>> ((i32 b).toUInt32 &&& Int32.toUInt32 31)).toInt32.toInt
def qdi (a b : Int) : Int := (i32 a / i32 b).toInt
def qre (a b : Int) : Int := (i32 a - i32 a / i32 b * i32 b).toInt
theorem w32_eq {z v : Int} (h : z = v) (h1 : -2147483648 ≤ v) (h2 : v < 2147483648) : w32 z = v := by rw [h]; exact w32_id h1 h2
theorem w64_eq {z v : Int} (h : z = v) (h1 : -9223372036854775808 ≤ v) (h2 : v < 9223372036854775808) : w64 z = v := by rw [h]; exact w64_id h1 h2
def OHM (g : cg) (k w p q t : Nat) (f s b : Int) : Prop := g 254 (99 + 8 * k) = (w : Int) ∧ g 254 (100 + 8 * k) = (p : Int) ∧ g 254 (101 + 8 * k) = (q : Int) ∧ g 254 (102 + 8 * k) = (t : Int) ∧ g 254 (103 + 8 * k) = f ∧ g 254 (104 + 8 * k) = s ∧ g 254 (105 + 8 * k) = b
def OHC (g : cg) (k w p q t : Nat) (f s b : Int) : Prop := g (29 + k) 0 = (w : Int) ∧ g (29 + k) 1 = (p : Int) ∧ g (29 + k) 2 = (q : Int) ∧ g (29 + k) 3 = (t : Int) ∧ g (29 + k) 4 = f ∧ g (29 + k) 5 = s ∧ g (29 + k) 6 = b
def PMm (g : cg) (p : Nat) (pu ch bi tw fr : Int) : Prop := g 254 (15 + 6 * p) = pu ∧ g 254 (16 + 6 * p) = ch ∧ g 254 (17 + 6 * p) = bi ∧ g 254 (18 + 6 * p) = tw ∧ g 254 (19 + 6 * p) = fr
section
set_option maxRecDepth 100000
theorem zy_25 : xg xcode 25 = some xt_25 := rfl
theorem zk_25 : zkc 1 xt_25 = true := by decide +kernel
theorem zy_26 : xg xcode 26 = some xt_26 := rfl
theorem zk_26 : zkc 1 xt_26 = true := by decide +kernel
theorem zy_76 : xg xcode 76 = some xt_76 := rfl
theorem zk_76 : zkc 1 xt_76 = true := by decide +kernel
theorem zy_81 : xg xcode 81 = some xt_81 := rfl
theorem zk_81 : zkc 1 xt_81 = true := by decide +kernel
theorem zy_84 : xg xcode 84 = some xt_84 := rfl
theorem zk_84 : zkc 1 xt_84 = true := by decide +kernel
theorem zy_86 : xg xcode 86 = some xt_86 := rfl
theorem zk_86 : zkc 1 xt_86 = true := by decide +kernel
theorem zy_87 : xg xcode 87 = some xt_87 := rfl
theorem zk_87 : zkc 1 xt_87 = true := by decide +kernel
theorem zy_88 : xg xcode 88 = some xt_88 := rfl
theorem zk_88 : zkc 1 xt_88 = true := by decide +kernel
theorem zy_89 : xg xcode 89 = some xt_89 := rfl
theorem zk_89 : zkc 1 xt_89 = true := by decide +kernel
theorem zy_90 : xg xcode 90 = some xt_90 := rfl
theorem zk_90 : zkc 1 xt_90 = true := by decide +kernel
theorem zy_91 : xg xcode 91 = some xt_91 := rfl
theorem zk_91 : zkc 0 xt_91 = true := by decide +kernel
theorem zy_92 : xg xcode 92 = some xt_92 := rfl
theorem zk_92 : zkc 1 xt_92 = true := by decide +kernel
theorem zy_93 : xg xcode 93 = some xt_93 := rfl
theorem zk_93 : zkc 0 xt_93 = true := by decide +kernel
theorem zy_94 : xg xcode 94 = some xt_94 := rfl
theorem zk_94 : zkc 1 xt_94 = true := by decide +kernel
theorem zy_95 : xg xcode 95 = some xt_95 := rfl
theorem zk_95 : zkc 1 xt_95 = true := by decide +kernel
theorem zy_96 : xg xcode 96 = some xt_96 := rfl
theorem zk_96 : zkc 1 xt_96 = true := by decide +kernel
theorem zy_97 : xg xcode 97 = some xt_97 := rfl
theorem zk_97 : zkc 1 xt_97 = true := by decide +kernel
theorem zy_99 : xg xcode 99 = some xt_99 := rfl
theorem zk_99 : zkc 1 xt_99 = true := by decide +kernel
theorem zy_100 : xg xcode 100 = some xt_100 := rfl
theorem zk_100 : zkc 1 xt_100 = true := by decide +kernel
theorem zy_101 : xg xcode 101 = some xt_101 := rfl
theorem zk_101 : zkc 1 xt_101 = true := by decide +kernel
theorem zy_103 : xg xcode 103 = some xt_103 := rfl
theorem zk_103 : zkc 1 xt_103 = true := by decide +kernel
theorem zy_104 : xg xcode 104 = some xt_104 := rfl
theorem zk_104 : zkc 1 xt_104 = true := by decide +kernel
theorem zy_105 : xg xcode 105 = some xt_105 := rfl
theorem zk_105 : zkc 0 xt_105 = true := by decide +kernel
theorem zy_106 : xg xcode 106 = some xt_106 := rfl
theorem zk_106 : zkc 1 xt_106 = true := by decide +kernel
theorem zy_109 : xg xcode 109 = some xt_109 := rfl
theorem zk_109 : zkc 1 xt_109 = true := by decide +kernel
theorem zy_161 : xg xcode 161 = some xt_161 := rfl
theorem zk_161 : zkc 1 xt_161 = true := by decide +kernel
theorem zy_199 : xg xcode 199 = some xt_199 := rfl
theorem zk_199 : zkc 1 xt_199 = true := by decide +kernel
theorem zy_200 : xg xcode 200 = some xt_200 := rfl
theorem zk_200 : zkc 1 xt_200 = true := by decide +kernel
theorem zy_201 : xg xcode 201 = some xt_201 := rfl
theorem zk_201 : zkc 1 xt_201 = true := by decide +kernel
theorem zy_202 : xg xcode 202 = some xt_202 := rfl
theorem zk_202 : zkc 1 xt_202 = true := by decide +kernel
theorem zy_203 : xg xcode 203 = some xt_203 := rfl
theorem zk_203 : zkc 1 xt_203 = true := by decide +kernel
theorem zy_204 : xg xcode 204 = some xt_204 := rfl
theorem zk_204 : zkc 1 xt_204 = true := by decide +kernel
theorem zy_205 : xg xcode 205 = some xt_205 := rfl
theorem zk_205 : zkc 1 xt_205 = true := by decide +kernel
theorem zy_206 : xg xcode 206 = some xt_206 := rfl
theorem zk_206 : zkc 1 xt_206 = true := by decide +kernel
theorem zy_208 : xg xcode 208 = some xt_208 := rfl
theorem zk_208 : zkc 1 xt_208 = true := by decide +kernel
theorem zy_209 : xg xcode 209 = some xt_209 := rfl
theorem zk_209 : zkc 1 xt_209 = true := by decide +kernel
theorem zy_211 : xg xcode 211 = some xt_211 := rfl
theorem zk_211 : zkc 1 xt_211 = true := by decide +kernel
theorem zy_212 : xg xcode 212 = some xt_212 := rfl
theorem zk_212 : zkc 1 xt_212 = true := by decide +kernel
theorem zy_213 : xg xcode 213 = some xt_213 := rfl
theorem zk_213 : zkc 1 xt_213 = true := by decide +kernel
theorem zy_214 : xg xcode 214 = some xt_214 := rfl
theorem zk_214 : zkc 1 xt_214 = true := by decide +kernel
theorem zy_215 : xg xcode 215 = some xt_215 := rfl
theorem zk_215 : zkc 1 xt_215 = true := by decide +kernel
theorem zy_216 : xg xcode 216 = some xt_216 := rfl
theorem zk_216 : zkc 1 xt_216 = true := by decide +kernel
theorem zy_217 : xg xcode 217 = some xt_217 := rfl
theorem zk_217 : zkc 1 xt_217 = true := by decide +kernel
theorem zy_218 : xg xcode 218 = some xt_218 := rfl
theorem zk_218 : zkc 1 xt_218 = true := by decide +kernel
theorem zy_219 : xg xcode 219 = some xt_219 := rfl
theorem zk_219 : zkc 1 xt_219 = true := by decide +kernel
theorem zy_220 : xg xcode 220 = some xt_220 := rfl
theorem zk_220 : zkc 1 xt_220 = true := by decide +kernel
theorem zy_221 : xg xcode 221 = some xt_221 := rfl
theorem zk_221 : zkc 1 xt_221 = true := by decide +kernel
theorem zy_222 : xg xcode 222 = some xt_222 := rfl
theorem zk_222 : zkc 1 xt_222 = true := by decide +kernel
theorem zy_223 : xg xcode 223 = some xt_223 := rfl
theorem zk_223 : zkc 1 xt_223 = true := by decide +kernel
theorem zy_224 : xg xcode 224 = some xt_224 := rfl
theorem zk_224 : zkc 1 xt_224 = true := by decide +kernel
theorem zy_225 : xg xcode 225 = some xt_225 := rfl
theorem zk_225 : zkc 1 xt_225 = true := by decide +kernel
theorem zy_226 : xg xcode 226 = some xt_226 := rfl
theorem zk_226 : zkc 1 xt_226 = true := by decide +kernel
theorem zy_228 : xg xcode 228 = some xt_228 := rfl
theorem zk_228 : zkc 0 xt_228 = true := by decide +kernel
theorem zy_229 : xg xcode 229 = some xt_229 := rfl
theorem zk_229 : zkc 0 xt_229 = true := by decide +kernel
theorem zy_230 : xg xcode 230 = some xt_230 := rfl
theorem zk_230 : zkc 1 xt_230 = true := by decide +kernel
theorem zy_231 : xg xcode 231 = some xt_231 := rfl
theorem zk_231 : zkc 1 xt_231 = true := by decide +kernel
theorem zy_234 : xg xcode 234 = some xt_234 := rfl
theorem zk_234 : zkc 1 xt_234 = true := by decide +kernel
theorem zy_235 : xg xcode 235 = some xt_235 := rfl
theorem zk_235 : zkc 1 xt_235 = true := by decide +kernel
theorem zy_236 : xg xcode 236 = some xt_236 := rfl
theorem zk_236 : zkc 1 xt_236 = true := by decide +kernel
theorem zy_303 : xg xcode 303 = some xt_303 := rfl
theorem zk_303 : zkc 1 xt_303 = true := by decide +kernel
theorem zy_304 : xg xcode 304 = some xt_304 := rfl
theorem zk_304 : zkc 1 xt_304 = true := by decide +kernel
theorem zy_305 : xg xcode 305 = some xt_305 := rfl
theorem zk_305 : zkc 1 xt_305 = true := by decide +kernel
theorem zy_306 : xg xcode 306 = some xt_306 := rfl
theorem zk_306 : zkc 1 xt_306 = true := by decide +kernel
theorem zy_307 : xg xcode 307 = some xt_307 := rfl
theorem zk_307 : zkc 1 xt_307 = true := by decide +kernel
theorem zy_308 : xg xcode 308 = some xt_308 := rfl
theorem zk_308 : zkc 1 xt_308 = true := by decide +kernel
theorem zy_309 : xg xcode 309 = some xt_309 := rfl
theorem zk_309 : zkc 1 xt_309 = true := by decide +kernel
theorem zy_310 : xg xcode 310 = some xt_310 := rfl
theorem zk_310 : zkc 1 xt_310 = true := by decide +kernel
theorem zy_311 : xg xcode 311 = some xt_311 := rfl
theorem zk_311 : zkc 1 xt_311 = true := by decide +kernel
theorem zy_312 : xg xcode 312 = some xt_312 := rfl
theorem zk_312 : zkc 1 xt_312 = true := by decide +kernel
theorem zy_313 : xg xcode 313 = some xt_313 := rfl
theorem zk_313 : zkc 1 xt_313 = true := by decide +kernel
theorem zy_314 : xg xcode 314 = some xt_314 := rfl
theorem zk_314 : zkc 1 xt_314 = true := by decide +kernel
theorem dvr_18 {g : cg} {i j : Int} (h0 : 0 ≤ i) (h1 : i < 6) (h2 : 0 ≤ j) (h3 : j < 8) : dval xh2 g (18 + 2 * i).toNat j.toNat = (0, g (18 + 2 * i).toNat j.toNat) := by
  rcases (show i = 0 ∨ i = 1 ∨ i = 2 ∨ i = 3 ∨ i = 4 ∨ i = 5 from by omega) with e | e | e | e | e | e <;> subst e <;> exact dvb (kd := 13) (m := 8) (by decide +kernel) (by decide) h2 h3
theorem dvb_93 {g : cg} {i : Int} (h0 : 0 ≤ i) (h1 : i < 8) : dval xh2 g 93 i.toNat = (0, g 93 i.toNat) := dvb (show zck 93 13 8 = true by decide +kernel) (by decide) h0 h1
theorem dvb_94 {g : cg} {i : Int} (h0 : 0 ≤ i) (h1 : i < 40) : dval xh2 g 94 i.toNat = (0, g 94 i.toNat) := dvb (show zck 94 13 40 = true by decide +kernel) (by decide) h0 h1
theorem m_bits0 {sv : Nat → Int32} {L n : Nat} {lf : dlf} {g : cg} {o : cg × Option cv} {a : Int} (h : zr sv L n 223 0 lf [] g o) (hl0 : lf 0 = (0, a)) : ∃ lf', lf' 1 = (0, 0) ∧ lf' 2 = (0, a) ∧ zr sv L n 223 4 lf' [] g o := by
  rw [zov hl0] at h
  have h := zm zy_223 h 4 (q := (4, dset (dset (dset lf 0 (0, a)) 1 (0, 0)) 2 (0, a), [], g)) rfl
  dsimp only at h
  exact ⟨_, rfl, rfl, h⟩
theorem m_bits4 {sv : Nat → Int32} {L n : Nat} {lf : dlf} {g : cg} {o : cg × Option cv} {a x : Int} (h : zr sv L (n + 1) 223 4 lf [] g o) (hl1 : lf 1 = (0, a)) (hl2 : lf 2 = (0, x)) : ((x = 0) ∧ (o = (g, some (0, a)))) ∨ ((x ≠ 0) ∧ (∃ lf', lf' 1 = (0, w32 (a + 1)) ∧ lf' 2 = (0, ban x (w32 (x - 1))) ∧ zr sv L n 223 4 lf' [] g o)) := by
  rw [zov hl1, zov hl2] at h
  have h := zm1 zy_223 h 1 (q := (cond (crel .eq x 0) 20 8, dset (dset lf 2 (0, x)) 1 (0, a), [], g)) rfl
  dsimp only at h
  rcases zif_eq h with ⟨hc1, h⟩ | ⟨hc1, h⟩
  · have h := zm zy_223 h 1 (q := (21, dset (dset lf 2 (0, x)) 1 (0, a), [(0, a)], g)) rfl
    dsimp only at h
    refine Or.inl (⟨hc1, ?_⟩)
    exact zret zy_223 h rfl rfl
  · have h := zm zy_223 h 8 (q := (4, dset (dset (dset (dset lf 2 (0, x)) 1 (0, a)) 1 (0, w32 (a + 1))) 2 (0, ban x (w32 (x - 1))), [], g)) rfl
    dsimp only at h
    refine Or.inr (⟨hc1, ?_⟩)
    exact ⟨_, rfl, rfl, h⟩
theorem m_agn0 {sv : Nat → Int32} {L n : Nat} {lf : dlf} {g : cg} {o : cg × Option cv} {W P Q T : Nat} (rW : W ≤ 5) (rP : P ≤ 5) (rQ : Q ≤ 4) (rT : T ≤ 7) (h : zr sv L n 225 0 lf [] g o) (hl0 : lf 0 = (4, 253)) (hl1 : lf 1 = (0, (W : Int))) (hl2 : lf 2 = (0, (P : Int))) (hl3 : lf 3 = (0, (Q : Int))) (hl4 : lf 4 = (0, (T : Int))) : ∃ lf', lf' 0 = (4, 253) ∧ lf' 1 = (0, (W : Int)) ∧ lf' 2 = (0, (P : Int)) ∧ lf' 3 = (0, (Q : Int)) ∧ lf' 4 = (0, (T : Int)) ∧ lf' 5 = (0, 0) ∧ lf' 6 = (0, 0) ∧ zr sv L n 225 6 lf' [] g o := by
  rw [zov hl0, zov hl1, zov hl2, zov hl3, zov hl4] at h
  have h := zm zy_225 h 4 (q := (6, dset (dset (dset (dset (dset (dset (dset lf 4 (0, (T : Int))) 3 (0, (Q : Int))) 2 (0, (P : Int))) 1 (0, (W : Int))) 0 (4, 253)) 5 (0, 0)) 6 (0, 0), [], g)) rfl
  dsimp only at h
  exact ⟨_, rfl, rfl, rfl, rfl, rfl, rfl, rfl, h⟩
theorem m_agn_s {sv : Nat → Int32} {L n : Nat} {lf : dlf} {g : cg} {o : cg × Option cv} {W P Q T w p q t k N : Nat} {f s b z : Int} (rW : W ≤ 5) (rP : P ≤ 5) (rQ : Q ≤ 4) (rT : T ≤ 7) (rw : w ≤ 5) (rp : p ≤ 5) (rq : q ≤ 4) (rt : t ≤ 7) (rk : k ≤ 15) (rN : N ≤ 16) (hN : g 254 2 = (N : Int)) (hO : OHM g k w p q t f s b) (hlt : k < N) (h : zr sv L (n + 1) 225 6 lf [] g o) (hl0 : lf 0 = (4, 253)) (hl1 : lf 1 = (0, (W : Int))) (hl2 : lf 2 = (0, (P : Int))) (hl3 : lf 3 = (0, (Q : Int))) (hl4 : lf 4 = (0, (T : Int))) (hl5 : lf 5 = (0, z)) (hl6 : lf 6 = (0, (k : Int))) : (((s ≠ 0) ∨ (s = 0 ∧ (p : Int) ≠ (P : Int)) ∨ (s = 0 ∧ (p : Int) = (P : Int) ∧ (t : Int) ≠ (T : Int)) ∨ (s = 0 ∧ (p : Int) = (P : Int) ∧ (t : Int) = (T : Int) ∧ (q : Int) = (Q : Int)) ∨ (s = 0 ∧ (p : Int) = (P : Int) ∧ (t : Int) = (T : Int) ∧ (q : Int) ≠ (Q : Int) ∧ (w : Int) = (W : Int))) ∧ (∃ lf', lf' 0 = (4, 253) ∧ lf' 1 = (0, (W : Int)) ∧ lf' 2 = (0, (P : Int)) ∧ lf' 3 = (0, (Q : Int)) ∧ lf' 4 = (0, (T : Int)) ∧ lf' 5 = (0, z) ∧ lf' 6 = (0, 1 + (k : Int)) ∧ zr sv L n 225 6 lf' [] g o)) ∨ ((s = 0 ∧ (p : Int) = (P : Int) ∧ (t : Int) = (T : Int) ∧ (q : Int) ≠ (Q : Int) ∧ (w : Int) ≠ (W : Int)) ∧ (∃ lf', lf' 0 = (4, 253) ∧ lf' 1 = (0, (W : Int)) ∧ lf' 2 = (0, (P : Int)) ∧ lf' 3 = (0, (Q : Int)) ∧ lf' 4 = (0, (T : Int)) ∧ lf' 5 = (0, bor z (bsl 1 ((w : Int)))) ∧ lf' 6 = (0, 1 + (k : Int)) ∧ zr sv L n 225 6 lf' [] g o)) := by
  rw [zov hl0, zov hl1, zov hl2, zov hl3, zov hl4, zov hl5, zov hl6] at h
  have h := zm1 zy_225 h 5 (q := (cond (crel .ge ((k : Int)) (g 254 2)) 68 17, dset (dset (dset (dset (dset (dset (dset lf 6 (0, (k : Int))) 5 (0, z)) 4 (0, (T : Int))) 3 (0, (Q : Int))) 2 (0, (P : Int))) 1 (0, (W : Int))) 0 (4, 253), [], g)) rfl
  dsimp only at h
  try rw [hN] at h
  rcases zif_ge h with ⟨hc1, h⟩ | ⟨hc1, h⟩
  · exact absurd hc1 (by omega)
  · have h := zm zy_225 h 4 (q := (23, dset (dset (dset (dset (dset (dset (dset lf 6 (0, (k : Int))) 5 (0, z)) 4 (0, (T : Int))) 3 (0, (Q : Int))) 2 (0, (P : Int))) 1 (0, (W : Int))) 0 (4, 253), [(0, (T : Int)), (0, (P : Int)), (0, (k : Int)), (4, 253)], g)) rfl
    dsimp only at h
    obtain ⟨gz2, rz3, hk, h⟩ := zcallI zy_225 h rfl rfl zy_221 zk_221
    dsimp only at hk h
    have hO4 := h
    have h := hk
    clear hk
    have h := zm zy_221 h 2 (q := (2, darg 0 [(4, 253), (0, (k : Int)), (0, (P : Int)), (0, (T : Int))], [(0, (k : Int)), (4, 253)], g)) rfl
    dsimp only at h
    obtain ⟨gz5, rz6, hk, h⟩ := zcallI zy_221 h rfl rfl zy_201 zk_201
    dsimp only at hk h
    have hO7 := h
    have h := hk
    clear hk
    have h := zm zy_201 h 3 (q := (5, darg 0 [(4, 253), (0, (k : Int))], [(0, (k : Int)), (4, 254)], g)) rfl
    dsimp only at h
    obtain ⟨gz8, rz9, hk, h⟩ := zcallI zy_201 h rfl rfl zy_199 zk_199
    dsimp only at hk h
    have hO10 := h
    have h := hk
    clear hk
    have h := zm zy_199 h 5 (q := (7, darg 0 [(0, (k : Int))], [(0, w32 (99 + (w32 (8 * ((k : Int))))))], g)) rfl
    dsimp only at h
    try rw [w32_eq (z := 8 * ((k : Int))) (v := 8 * (k : Int)) (by omega) (by omega) (by omega)] at h
    try rw [w32_eq (z := 99 + (8 * (k : Int))) (v := 99 + 8 * (k : Int)) (by omega) (by omega) (by omega)] at h
    have h := zret zy_199 h rfl rfl
    obtain ⟨e1, e2⟩ := oI h
    have h := hO10
    rw [e1, e2] at h
    clear e1 e2
    clear hO10
    have h := zm zy_201 h 2 (q := (10, darg 0 [(4, 253), (0, (k : Int))], [(0, w32 ((99 + 8 * (k : Int)) + 5)), (4, 254)], g)) rfl
    dsimp only at h
    try rw [w32_eq (z := (99 + 8 * (k : Int)) + 5) (v := 104 + 8 * (k : Int)) (by omega) (by omega) (by omega)] at h
    have h := zald zy_201 h rfl rfl (dvb_254 (i := 104 + 8 * (k : Int)) (by omega) (by omega))
    dsimp only at h
    try rw [show (104 + 8 * (k : Int)).toNat = 104 + 8 * k from by omega] at h
    try rw [hO.2.2.2.2.2.1] at h
    have h := zm zy_201 h 1 (q := (cond (crel .ne s 0) 18 14, darg 0 [(4, 253), (0, (k : Int))], [], g)) rfl
    dsimp only at h
    rcases zif_ne h with ⟨hc11, h⟩ | ⟨hc11, h⟩
    · have h := zm zy_201 h 1 (q := (19, darg 0 [(4, 253), (0, (k : Int))], [(0, 0)], g)) rfl
      dsimp only at h
      have h := zret zy_201 h rfl rfl
      obtain ⟨e1, e2⟩ := oI h
      have h := hO7
      rw [e1, e2] at h
      clear e1 e2
      clear hO7
      have h := zm zy_221 h 2 (q := (31, darg 0 [(4, 253), (0, (k : Int)), (0, (P : Int)), (0, (T : Int))], [(0, 0)], g)) rfl
      dsimp only at h
      have h := zret zy_221 h rfl rfl
      obtain ⟨e1, e2⟩ := oI h
      have h := hO4
      rw [e1, e2] at h
      clear e1 e2
      clear hO4
      have h := zm zy_225 h 3 (q := (6, dset (dset (dset (dset (dset (dset (dset (dset lf 6 (0, (k : Int))) 5 (0, z)) 4 (0, (T : Int))) 3 (0, (Q : Int))) 2 (0, (P : Int))) 1 (0, (W : Int))) 0 (4, 253)) 6 (0, w32 (((k : Int)) + 1)), [], g)) rfl
      dsimp only at h
      try rw [w32_eq (z := ((k : Int)) + 1) (v := 1 + (k : Int)) (by omega) (by omega) (by omega)] at h
      refine Or.inl (⟨Or.inl (hc11), ?_⟩)
      exact ⟨_, rfl, rfl, rfl, rfl, rfl, rfl, rfl, h⟩
    · have h := zm zy_201 h 2 (q := (19, darg 0 [(4, 253), (0, (k : Int))], [(0, 1)], g)) rfl
      dsimp only at h
      have h := zret zy_201 h rfl rfl
      obtain ⟨e1, e2⟩ := oI h
      have h := hO7
      rw [e1, e2] at h
      clear e1 e2
      clear hO7
      have h := zm zy_221 h 3 (q := (10, darg 0 [(4, 253), (0, (k : Int)), (0, (P : Int)), (0, (T : Int))], [(0, (k : Int)), (4, 253)], g)) rfl
      dsimp only at h
      obtain ⟨gz13, rz14, hk, h⟩ := zcallI zy_221 h rfl rfl zy_203 zk_203
      dsimp only at hk h
      have hO15 := h
      have h := hk
      clear hk
      have h := zm zy_203 h 3 (q := (5, darg 0 [(4, 253), (0, (k : Int))], [(0, (k : Int)), (4, 254)], g)) rfl
      dsimp only at h
      obtain ⟨gz16, rz17, hk, h⟩ := zcallI zy_203 h rfl rfl zy_199 zk_199
      dsimp only at hk h
      have hO18 := h
      have h := hk
      clear hk
      have h := zm zy_199 h 5 (q := (7, darg 0 [(0, (k : Int))], [(0, w32 (99 + (w32 (8 * ((k : Int))))))], g)) rfl
      dsimp only at h
      try rw [w32_eq (z := 8 * ((k : Int))) (v := 8 * (k : Int)) (by omega) (by omega) (by omega)] at h
      try rw [w32_eq (z := 99 + (8 * (k : Int))) (v := 99 + 8 * (k : Int)) (by omega) (by omega) (by omega)] at h
      have h := zret zy_199 h rfl rfl
      obtain ⟨e1, e2⟩ := oI h
      have h := hO18
      rw [e1, e2] at h
      clear e1 e2
      clear hO18
      have h := zm zy_203 h 2 (q := (10, darg 0 [(4, 253), (0, (k : Int))], [(0, w32 ((99 + 8 * (k : Int)) + 1)), (4, 254)], g)) rfl
      dsimp only at h
      try rw [w32_eq (z := (99 + 8 * (k : Int)) + 1) (v := 100 + 8 * (k : Int)) (by omega) (by omega) (by omega)] at h
      have h := zald zy_203 h rfl rfl (dvb_254 (i := 100 + 8 * (k : Int)) (by omega) (by omega))
      dsimp only at h
      try rw [show (100 + 8 * (k : Int)).toNat = 100 + 8 * k from by omega] at h
      try rw [hO.2.1] at h
      have h := zret zy_203 h rfl rfl
      obtain ⟨e1, e2⟩ := oI h
      have h := hO15
      rw [e1, e2] at h
      clear e1 e2
      clear hO15
      have h := zm zy_221 h 2 (q := (cond (crel .ne ((p : Int)) ((P : Int))) 30 17, darg 0 [(4, 253), (0, (k : Int)), (0, (P : Int)), (0, (T : Int))], [], g)) rfl
      dsimp only at h
      rcases zif_ne h with ⟨hc19, h⟩ | ⟨hc19, h⟩
      · have h := zm zy_221 h 1 (q := (31, darg 0 [(4, 253), (0, (k : Int)), (0, (P : Int)), (0, (T : Int))], [(0, 0)], g)) rfl
        dsimp only at h
        have h := zret zy_221 h rfl rfl
        obtain ⟨e1, e2⟩ := oI h
        have h := hO4
        rw [e1, e2] at h
        clear e1 e2
        clear hO4
        have h := zm zy_225 h 3 (q := (6, dset (dset (dset (dset (dset (dset (dset (dset lf 6 (0, (k : Int))) 5 (0, z)) 4 (0, (T : Int))) 3 (0, (Q : Int))) 2 (0, (P : Int))) 1 (0, (W : Int))) 0 (4, 253)) 6 (0, w32 (((k : Int)) + 1)), [], g)) rfl
        dsimp only at h
        try rw [w32_eq (z := ((k : Int)) + 1) (v := 1 + (k : Int)) (by omega) (by omega) (by omega)] at h
        refine Or.inl (⟨Or.inr (Or.inl (⟨hc11, hc19⟩)), ?_⟩)
        exact ⟨_, rfl, rfl, rfl, rfl, rfl, rfl, rfl, h⟩
      · have h := zm zy_221 h 2 (q := (19, darg 0 [(4, 253), (0, (k : Int)), (0, (P : Int)), (0, (T : Int))], [(0, (k : Int)), (4, 253)], g)) rfl
        dsimp only at h
        obtain ⟨gz21, rz22, hk, h⟩ := zcallI zy_221 h rfl rfl zy_204 zk_204
        dsimp only at hk h
        have hO23 := h
        have h := hk
        clear hk
        have h := zm zy_204 h 3 (q := (5, darg 0 [(4, 253), (0, (k : Int))], [(0, (k : Int)), (4, 254)], g)) rfl
        dsimp only at h
        obtain ⟨gz24, rz25, hk, h⟩ := zcallI zy_204 h rfl rfl zy_199 zk_199
        dsimp only at hk h
        have hO26 := h
        have h := hk
        clear hk
        have h := zm zy_199 h 5 (q := (7, darg 0 [(0, (k : Int))], [(0, w32 (99 + (w32 (8 * ((k : Int))))))], g)) rfl
        dsimp only at h
        try rw [w32_eq (z := 8 * ((k : Int))) (v := 8 * (k : Int)) (by omega) (by omega) (by omega)] at h
        try rw [w32_eq (z := 99 + (8 * (k : Int))) (v := 99 + 8 * (k : Int)) (by omega) (by omega) (by omega)] at h
        have h := zret zy_199 h rfl rfl
        obtain ⟨e1, e2⟩ := oI h
        have h := hO26
        rw [e1, e2] at h
        clear e1 e2
        clear hO26
        have h := zm zy_204 h 2 (q := (10, darg 0 [(4, 253), (0, (k : Int))], [(0, w32 ((99 + 8 * (k : Int)) + 3)), (4, 254)], g)) rfl
        dsimp only at h
        try rw [w32_eq (z := (99 + 8 * (k : Int)) + 3) (v := 102 + 8 * (k : Int)) (by omega) (by omega) (by omega)] at h
        have h := zald zy_204 h rfl rfl (dvb_254 (i := 102 + 8 * (k : Int)) (by omega) (by omega))
        dsimp only at h
        try rw [show (102 + 8 * (k : Int)).toNat = 102 + 8 * k from by omega] at h
        try rw [hO.2.2.2.1] at h
        have h := zret zy_204 h rfl rfl
        obtain ⟨e1, e2⟩ := oI h
        have h := hO23
        rw [e1, e2] at h
        clear e1 e2
        clear hO23
        have h := zm zy_221 h 2 (q := (cond (crel .ne ((t : Int)) ((T : Int))) 30 26, darg 0 [(4, 253), (0, (k : Int)), (0, (P : Int)), (0, (T : Int))], [], g)) rfl
        dsimp only at h
        rcases zif_ne h with ⟨hc27, h⟩ | ⟨hc27, h⟩
        · have h := zm zy_221 h 1 (q := (31, darg 0 [(4, 253), (0, (k : Int)), (0, (P : Int)), (0, (T : Int))], [(0, 0)], g)) rfl
          dsimp only at h
          have h := zret zy_221 h rfl rfl
          obtain ⟨e1, e2⟩ := oI h
          have h := hO4
          rw [e1, e2] at h
          clear e1 e2
          clear hO4
          have h := zm zy_225 h 3 (q := (6, dset (dset (dset (dset (dset (dset (dset (dset lf 6 (0, (k : Int))) 5 (0, z)) 4 (0, (T : Int))) 3 (0, (Q : Int))) 2 (0, (P : Int))) 1 (0, (W : Int))) 0 (4, 253)) 6 (0, w32 (((k : Int)) + 1)), [], g)) rfl
          dsimp only at h
          try rw [w32_eq (z := ((k : Int)) + 1) (v := 1 + (k : Int)) (by omega) (by omega) (by omega)] at h
          refine Or.inl (⟨Or.inr (Or.inr (Or.inl (⟨hc11, hc19, hc27⟩))), ?_⟩)
          exact ⟨_, rfl, rfl, rfl, rfl, rfl, rfl, rfl, h⟩
        · have h := zm zy_221 h 2 (q := (31, darg 0 [(4, 253), (0, (k : Int)), (0, (P : Int)), (0, (T : Int))], [(0, 1)], g)) rfl
          dsimp only at h
          have h := zret zy_221 h rfl rfl
          obtain ⟨e1, e2⟩ := oI h
          have h := hO4
          rw [e1, e2] at h
          clear e1 e2
          clear hO4
          have h := zm zy_225 h 3 (q := (32, dset (dset (dset (dset (dset (dset (dset lf 6 (0, (k : Int))) 5 (0, z)) 4 (0, (T : Int))) 3 (0, (Q : Int))) 2 (0, (P : Int))) 1 (0, (W : Int))) 0 (4, 253), [(0, (k : Int)), (4, 253)], g)) rfl
          dsimp only at h
          obtain ⟨gz29, rz30, hk, h⟩ := zcallI zy_225 h rfl rfl zy_206 zk_206
          dsimp only at hk h
          have hO31 := h
          have h := hk
          clear hk
          have h := zm zy_206 h 3 (q := (5, darg 0 [(4, 253), (0, (k : Int))], [(0, (k : Int)), (4, 254)], g)) rfl
          dsimp only at h
          obtain ⟨gz32, rz33, hk, h⟩ := zcallI zy_206 h rfl rfl zy_199 zk_199
          dsimp only at hk h
          have hO34 := h
          have h := hk
          clear hk
          have h := zm zy_199 h 5 (q := (7, darg 0 [(0, (k : Int))], [(0, w32 (99 + (w32 (8 * ((k : Int))))))], g)) rfl
          dsimp only at h
          try rw [w32_eq (z := 8 * ((k : Int))) (v := 8 * (k : Int)) (by omega) (by omega) (by omega)] at h
          try rw [w32_eq (z := 99 + (8 * (k : Int))) (v := 99 + 8 * (k : Int)) (by omega) (by omega) (by omega)] at h
          have h := zret zy_199 h rfl rfl
          obtain ⟨e1, e2⟩ := oI h
          have h := hO34
          rw [e1, e2] at h
          clear e1 e2
          clear hO34
          have h := zm zy_206 h 2 (q := (10, darg 0 [(4, 253), (0, (k : Int))], [(0, w32 ((99 + 8 * (k : Int)) + 2)), (4, 254)], g)) rfl
          dsimp only at h
          try rw [w32_eq (z := (99 + 8 * (k : Int)) + 2) (v := 101 + 8 * (k : Int)) (by omega) (by omega) (by omega)] at h
          have h := zald zy_206 h rfl rfl (dvb_254 (i := 101 + 8 * (k : Int)) (by omega) (by omega))
          dsimp only at h
          try rw [show (101 + 8 * (k : Int)).toNat = 101 + 8 * k from by omega] at h
          try rw [hO.2.2.1] at h
          have h := zret zy_206 h rfl rfl
          obtain ⟨e1, e2⟩ := oI h
          have h := hO31
          rw [e1, e2] at h
          clear e1 e2
          clear hO31
          have h := zm zy_225 h 2 (q := (cond (crel .eq ((q : Int)) ((Q : Int))) 62 39, dset (dset (dset (dset (dset (dset (dset lf 6 (0, (k : Int))) 5 (0, z)) 4 (0, (T : Int))) 3 (0, (Q : Int))) 2 (0, (P : Int))) 1 (0, (W : Int))) 0 (4, 253), [], g)) rfl
          dsimp only at h
          rcases zif_eq h with ⟨hc35, h⟩ | ⟨hc35, h⟩
          · have h := zm zy_225 h 2 (q := (6, dset (dset (dset (dset (dset (dset (dset (dset lf 6 (0, (k : Int))) 5 (0, z)) 4 (0, (T : Int))) 3 (0, (Q : Int))) 2 (0, (P : Int))) 1 (0, (W : Int))) 0 (4, 253)) 6 (0, w32 (((k : Int)) + 1)), [], g)) rfl
            dsimp only at h
            try rw [w32_eq (z := ((k : Int)) + 1) (v := 1 + (k : Int)) (by omega) (by omega) (by omega)] at h
            refine Or.inl (⟨Or.inr (Or.inr (Or.inr (Or.inl (⟨hc11, hc19, hc27, hc35⟩)))), ?_⟩)
            exact ⟨_, rfl, rfl, rfl, rfl, rfl, rfl, rfl, h⟩
          · have h := zm zy_225 h 2 (q := (42, dset (dset (dset (dset (dset (dset (dset lf 6 (0, (k : Int))) 5 (0, z)) 4 (0, (T : Int))) 3 (0, (Q : Int))) 2 (0, (P : Int))) 1 (0, (W : Int))) 0 (4, 253), [(0, (k : Int)), (4, 253)], g)) rfl
            dsimp only at h
            obtain ⟨gz37, rz38, hk, h⟩ := zcallI zy_225 h rfl rfl zy_211 zk_211
            dsimp only at hk h
            have hO39 := h
            have h := hk
            clear hk
            have h := zm zy_211 h 3 (q := (5, darg 0 [(4, 253), (0, (k : Int))], [(0, (k : Int)), (4, 254)], g)) rfl
            dsimp only at h
            obtain ⟨gz40, rz41, hk, h⟩ := zcallI zy_211 h rfl rfl zy_199 zk_199
            dsimp only at hk h
            have hO42 := h
            have h := hk
            clear hk
            have h := zm zy_199 h 5 (q := (7, darg 0 [(0, (k : Int))], [(0, w32 (99 + (w32 (8 * ((k : Int))))))], g)) rfl
            dsimp only at h
            try rw [w32_eq (z := 8 * ((k : Int))) (v := 8 * (k : Int)) (by omega) (by omega) (by omega)] at h
            try rw [w32_eq (z := 99 + (8 * (k : Int))) (v := 99 + 8 * (k : Int)) (by omega) (by omega) (by omega)] at h
            have h := zret zy_199 h rfl rfl
            obtain ⟨e1, e2⟩ := oI h
            have h := hO42
            rw [e1, e2] at h
            clear e1 e2
            clear hO42
            have h := zald zy_211 h rfl rfl (dvb_254 (i := 99 + 8 * (k : Int)) (by omega) (by omega))
            dsimp only at h
            try rw [show (99 + 8 * (k : Int)).toNat = 99 + 8 * k from by omega] at h
            try rw [hO.1] at h
            have h := zret zy_211 h rfl rfl
            obtain ⟨e1, e2⟩ := oI h
            have h := hO39
            rw [e1, e2] at h
            clear e1 e2
            clear hO39
            have h := zm zy_225 h 2 (q := (cond (crel .eq ((w : Int)) ((W : Int))) 62 49, dset (dset (dset (dset (dset (dset (dset lf 6 (0, (k : Int))) 5 (0, z)) 4 (0, (T : Int))) 3 (0, (Q : Int))) 2 (0, (P : Int))) 1 (0, (W : Int))) 0 (4, 253), [], g)) rfl
            dsimp only at h
            rcases zif_eq h with ⟨hc43, h⟩ | ⟨hc43, h⟩
            · have h := zm zy_225 h 2 (q := (6, dset (dset (dset (dset (dset (dset (dset (dset lf 6 (0, (k : Int))) 5 (0, z)) 4 (0, (T : Int))) 3 (0, (Q : Int))) 2 (0, (P : Int))) 1 (0, (W : Int))) 0 (4, 253)) 6 (0, w32 (((k : Int)) + 1)), [], g)) rfl
              dsimp only at h
              try rw [w32_eq (z := ((k : Int)) + 1) (v := 1 + (k : Int)) (by omega) (by omega) (by omega)] at h
              refine Or.inl (⟨Or.inr (Or.inr (Or.inr (Or.inr (⟨hc11, hc19, hc27, hc35, hc43⟩)))), ?_⟩)
              exact ⟨_, rfl, rfl, rfl, rfl, rfl, rfl, rfl, h⟩
            · have h := zm zy_225 h 4 (q := (55, dset (dset (dset (dset (dset (dset (dset lf 6 (0, (k : Int))) 5 (0, z)) 4 (0, (T : Int))) 3 (0, (Q : Int))) 2 (0, (P : Int))) 1 (0, (W : Int))) 0 (4, 253), [(0, (k : Int)), (4, 253), (0, 1), (0, z)], g)) rfl
              dsimp only at h
              obtain ⟨gz45, rz46, hk, h⟩ := zcallI zy_225 h rfl rfl zy_211 zk_211
              dsimp only at hk h
              have hO47 := h
              have h := hk
              clear hk
              have h := zm zy_211 h 3 (q := (5, darg 0 [(4, 253), (0, (k : Int))], [(0, (k : Int)), (4, 254)], g)) rfl
              dsimp only at h
              obtain ⟨gz48, rz49, hk, h⟩ := zcallI zy_211 h rfl rfl zy_199 zk_199
              dsimp only at hk h
              have hO50 := h
              have h := hk
              clear hk
              have h := zm zy_199 h 5 (q := (7, darg 0 [(0, (k : Int))], [(0, w32 (99 + (w32 (8 * ((k : Int))))))], g)) rfl
              dsimp only at h
              try rw [w32_eq (z := 8 * ((k : Int))) (v := 8 * (k : Int)) (by omega) (by omega) (by omega)] at h
              try rw [w32_eq (z := 99 + (8 * (k : Int))) (v := 99 + 8 * (k : Int)) (by omega) (by omega) (by omega)] at h
              have h := zret zy_199 h rfl rfl
              obtain ⟨e1, e2⟩ := oI h
              have h := hO50
              rw [e1, e2] at h
              clear e1 e2
              clear hO50
              have h := zald zy_211 h rfl rfl (dvb_254 (i := 99 + 8 * (k : Int)) (by omega) (by omega))
              dsimp only at h
              try rw [show (99 + 8 * (k : Int)).toNat = 99 + 8 * k from by omega] at h
              try rw [hO.1] at h
              have h := zret zy_211 h rfl rfl
              obtain ⟨e1, e2⟩ := oI h
              have h := hO47
              rw [e1, e2] at h
              clear e1 e2
              clear hO47
              have h := zm zy_225 h 5 (q := (6, dset (dset (dset (dset (dset (dset (dset (dset (dset lf 6 (0, (k : Int))) 5 (0, z)) 4 (0, (T : Int))) 3 (0, (Q : Int))) 2 (0, (P : Int))) 1 (0, (W : Int))) 0 (4, 253)) 5 (0, bor z (bsl 1 ((w : Int))))) 6 (0, w32 (((k : Int)) + 1)), [], g)) rfl
              dsimp only at h
              try rw [w32_eq (z := ((k : Int)) + 1) (v := 1 + (k : Int)) (by omega) (by omega) (by omega)] at h
              refine Or.inr (⟨⟨hc11, hc19, hc27, hc35, hc43⟩, ?_⟩)
              exact ⟨_, rfl, rfl, rfl, rfl, rfl, rfl, rfl, h⟩
theorem m_agn_e {sv : Nat → Int32} {L n : Nat} {lf : dlf} {g : cg} {o : cg × Option cv} {W P Q T k N : Nat} {z : Int} (rW : W ≤ 5) (rP : P ≤ 5) (rQ : Q ≤ 4) (rT : T ≤ 7) (rk : k ≤ 16) (rN : N ≤ 16) (hN : g 254 2 = (N : Int)) (hge : N ≤ k) (h : zr sv L (n + 1) 225 6 lf [] g o) (hl0 : lf 0 = (4, 253)) (hl1 : lf 1 = (0, (W : Int))) (hl2 : lf 2 = (0, (P : Int))) (hl3 : lf 3 = (0, (Q : Int))) (hl4 : lf 4 = (0, (T : Int))) (hl5 : lf 5 = (0, z)) (hl6 : lf 6 = (0, (k : Int))) : ∃ g_1 r_1, zr sv L n 223 0 (darg 0 [(0, z)]) [] g (g_1, some (0, r_1)) ∧ (o = (g_1, some (0, r_1))) := by
  rw [zov hl0, zov hl1, zov hl2, zov hl3, zov hl4, zov hl5, zov hl6] at h
  have h := zm1 zy_225 h 5 (q := (cond (crel .ge ((k : Int)) (g 254 2)) 68 17, dset (dset (dset (dset (dset (dset (dset lf 6 (0, (k : Int))) 5 (0, z)) 4 (0, (T : Int))) 3 (0, (Q : Int))) 2 (0, (P : Int))) 1 (0, (W : Int))) 0 (4, 253), [], g)) rfl
  dsimp only at h
  try rw [hN] at h
  rcases zif_ge h with ⟨hc1, h⟩ | ⟨hc1, h⟩
  · have h := zm zy_225 h 1 (q := (70, dset (dset (dset (dset (dset (dset (dset lf 6 (0, (k : Int))) 5 (0, z)) 4 (0, (T : Int))) 3 (0, (Q : Int))) 2 (0, (P : Int))) 1 (0, (W : Int))) 0 (4, 253), [(0, z)], g)) rfl
    dsimp only at h
    obtain ⟨g_1, r_1, hk, h⟩ := zcallI zy_225 h rfl rfl zy_223 zk_223
    dsimp only at hk h
    refine ⟨g_1, r_1, hk, ?_⟩
    exact zret zy_225 h rfl rfl
  · exact absurd hc1 (by omega)
theorem m_bkd0 {sv : Nat → Int32} {L n : Nat} {lf : dlf} {g : cg} {o : cg × Option cv} {P Q T : Nat} {u : Int} (rP : P ≤ 5) (rQ : Q ≤ 4) (rT : T ≤ 7) (h : zr sv L n 226 0 lf [] g o) (hl0 : lf 0 = (4, 253)) (hl1 : lf 1 = (0, (P : Int))) (hl2 : lf 2 = (0, (Q : Int))) (hl3 : lf 3 = (0, (T : Int))) (hl4 : lf 4 = (0, u)) : ∃ lf', lf' 0 = (4, 253) ∧ lf' 1 = (0, (P : Int)) ∧ lf' 2 = (0, (Q : Int)) ∧ lf' 3 = (0, (T : Int)) ∧ lf' 4 = (0, u) ∧ lf' 5 = (0, 0) ∧ lf' 6 = (0, 0) ∧ zr sv L n 226 6 lf' [] g o := by
  rw [zov hl0, zov hl1, zov hl2, zov hl3, zov hl4] at h
  have h := zm zy_226 h 4 (q := (6, dset (dset (dset (dset (dset (dset (dset lf 4 (0, u)) 3 (0, (T : Int))) 2 (0, (Q : Int))) 1 (0, (P : Int))) 0 (4, 253)) 5 (0, 0)) 6 (0, 0), [], g)) rfl
  dsimp only at h
  exact ⟨_, rfl, rfl, rfl, rfl, rfl, rfl, rfl, h⟩
theorem m_bkd_s {sv : Nat → Int32} {L n : Nat} {lf : dlf} {g : cg} {o : cg × Option cv} {P Q T w p q t k N : Nat} {f s b u z : Int} (rP : P ≤ 5) (rQ : Q ≤ 4) (rT : T ≤ 7) (rw : w ≤ 5) (rp : p ≤ 5) (rq : q ≤ 4) (rt : t ≤ 7) (rk : k ≤ 15) (rN : N ≤ 16) (hN : g 254 2 = (N : Int)) (hO : OHM g k w p q t f s b) (hlt : k < N) (h : zr sv L (n + 1) 226 6 lf [] g o) (hl0 : lf 0 = (4, 253)) (hl1 : lf 1 = (0, (P : Int))) (hl2 : lf 2 = (0, (Q : Int))) (hl3 : lf 3 = (0, (T : Int))) (hl4 : lf 4 = (0, u)) (hl5 : lf 5 = (0, z)) (hl6 : lf 6 = (0, (k : Int))) : (((s ≠ 0) ∨ (s = 0 ∧ (p : Int) ≠ (P : Int)) ∨ (s = 0 ∧ (p : Int) = (P : Int) ∧ (t : Int) ≠ (T : Int)) ∨ (s = 0 ∧ (p : Int) = (P : Int) ∧ (t : Int) = (T : Int) ∧ (q : Int) ≠ (Q : Int)) ∨ (s = 0 ∧ (p : Int) = (P : Int) ∧ (t : Int) = (T : Int) ∧ (q : Int) = (Q : Int) ∧ u ≠ (-1) ∧ (w : Int) ≠ u)) ∧ (∃ lf', lf' 0 = (4, 253) ∧ lf' 1 = (0, (P : Int)) ∧ lf' 2 = (0, (Q : Int)) ∧ lf' 3 = (0, (T : Int)) ∧ lf' 4 = (0, u) ∧ lf' 5 = (0, w32 (z + 0)) ∧ lf' 6 = (0, 1 + (k : Int)) ∧ zr sv L n 226 6 lf' [] g o)) ∨ (((s = 0 ∧ (p : Int) = (P : Int) ∧ (t : Int) = (T : Int) ∧ (q : Int) = (Q : Int) ∧ u = (-1)) ∨ (s = 0 ∧ (p : Int) = (P : Int) ∧ (t : Int) = (T : Int) ∧ (q : Int) = (Q : Int) ∧ u ≠ (-1) ∧ (w : Int) = u)) ∧ (∃ lf', lf' 0 = (4, 253) ∧ lf' 1 = (0, (P : Int)) ∧ lf' 2 = (0, (Q : Int)) ∧ lf' 3 = (0, (T : Int)) ∧ lf' 4 = (0, u) ∧ lf' 5 = (0, w32 (z + 1)) ∧ lf' 6 = (0, 1 + (k : Int)) ∧ zr sv L n 226 6 lf' [] g o)) := by
  rw [zov hl0, zov hl1, zov hl2, zov hl3, zov hl4, zov hl5, zov hl6] at h
  have h := zm1 zy_226 h 5 (q := (cond (crel .ge ((k : Int)) (g 254 2)) 71 17, dset (dset (dset (dset (dset (dset (dset lf 6 (0, (k : Int))) 5 (0, z)) 4 (0, u)) 3 (0, (T : Int))) 2 (0, (Q : Int))) 1 (0, (P : Int))) 0 (4, 253), [], g)) rfl
  dsimp only at h
  try rw [hN] at h
  rcases zif_ge h with ⟨hc1, h⟩ | ⟨hc1, h⟩
  · exact absurd hc1 (by omega)
  · have h := zm zy_226 h 5 (q := (24, dset (dset (dset (dset (dset (dset (dset lf 6 (0, (k : Int))) 5 (0, z)) 4 (0, u)) 3 (0, (T : Int))) 2 (0, (Q : Int))) 1 (0, (P : Int))) 0 (4, 253), [(0, (T : Int)), (0, (P : Int)), (0, (k : Int)), (4, 253), (0, z)], g)) rfl
    dsimp only at h
    obtain ⟨gz2, rz3, hk, h⟩ := zcallI zy_226 h rfl rfl zy_221 zk_221
    dsimp only at hk h
    have hO4 := h
    have h := hk
    clear hk
    have h := zm zy_221 h 2 (q := (2, darg 0 [(4, 253), (0, (k : Int)), (0, (P : Int)), (0, (T : Int))], [(0, (k : Int)), (4, 253)], g)) rfl
    dsimp only at h
    obtain ⟨gz5, rz6, hk, h⟩ := zcallI zy_221 h rfl rfl zy_201 zk_201
    dsimp only at hk h
    have hO7 := h
    have h := hk
    clear hk
    have h := zm zy_201 h 3 (q := (5, darg 0 [(4, 253), (0, (k : Int))], [(0, (k : Int)), (4, 254)], g)) rfl
    dsimp only at h
    obtain ⟨gz8, rz9, hk, h⟩ := zcallI zy_201 h rfl rfl zy_199 zk_199
    dsimp only at hk h
    have hO10 := h
    have h := hk
    clear hk
    have h := zm zy_199 h 5 (q := (7, darg 0 [(0, (k : Int))], [(0, w32 (99 + (w32 (8 * ((k : Int))))))], g)) rfl
    dsimp only at h
    try rw [w32_eq (z := 8 * ((k : Int))) (v := 8 * (k : Int)) (by omega) (by omega) (by omega)] at h
    try rw [w32_eq (z := 99 + (8 * (k : Int))) (v := 99 + 8 * (k : Int)) (by omega) (by omega) (by omega)] at h
    have h := zret zy_199 h rfl rfl
    obtain ⟨e1, e2⟩ := oI h
    have h := hO10
    rw [e1, e2] at h
    clear e1 e2
    clear hO10
    have h := zm zy_201 h 2 (q := (10, darg 0 [(4, 253), (0, (k : Int))], [(0, w32 ((99 + 8 * (k : Int)) + 5)), (4, 254)], g)) rfl
    dsimp only at h
    try rw [w32_eq (z := (99 + 8 * (k : Int)) + 5) (v := 104 + 8 * (k : Int)) (by omega) (by omega) (by omega)] at h
    have h := zald zy_201 h rfl rfl (dvb_254 (i := 104 + 8 * (k : Int)) (by omega) (by omega))
    dsimp only at h
    try rw [show (104 + 8 * (k : Int)).toNat = 104 + 8 * k from by omega] at h
    try rw [hO.2.2.2.2.2.1] at h
    have h := zm zy_201 h 1 (q := (cond (crel .ne s 0) 18 14, darg 0 [(4, 253), (0, (k : Int))], [], g)) rfl
    dsimp only at h
    rcases zif_ne h with ⟨hc11, h⟩ | ⟨hc11, h⟩
    · have h := zm zy_201 h 1 (q := (19, darg 0 [(4, 253), (0, (k : Int))], [(0, 0)], g)) rfl
      dsimp only at h
      have h := zret zy_201 h rfl rfl
      obtain ⟨e1, e2⟩ := oI h
      have h := hO7
      rw [e1, e2] at h
      clear e1 e2
      clear hO7
      have h := zm zy_221 h 2 (q := (31, darg 0 [(4, 253), (0, (k : Int)), (0, (P : Int)), (0, (T : Int))], [(0, 0)], g)) rfl
      dsimp only at h
      have h := zret zy_221 h rfl rfl
      obtain ⟨e1, e2⟩ := oI h
      have h := hO4
      rw [e1, e2] at h
      clear e1 e2
      clear hO4
      have h := zm zy_226 h 6 (q := (6, dset (dset (dset (dset (dset (dset (dset (dset (dset lf 6 (0, (k : Int))) 5 (0, z)) 4 (0, u)) 3 (0, (T : Int))) 2 (0, (Q : Int))) 1 (0, (P : Int))) 0 (4, 253)) 5 (0, w32 (z + 0))) 6 (0, w32 (((k : Int)) + 1)), [], g)) rfl
      dsimp only at h
      try rw [w32_eq (z := ((k : Int)) + 1) (v := 1 + (k : Int)) (by omega) (by omega) (by omega)] at h
      refine Or.inl (⟨Or.inl (hc11), ?_⟩)
      exact ⟨_, rfl, rfl, rfl, rfl, rfl, rfl, rfl, h⟩
    · have h := zm zy_201 h 2 (q := (19, darg 0 [(4, 253), (0, (k : Int))], [(0, 1)], g)) rfl
      dsimp only at h
      have h := zret zy_201 h rfl rfl
      obtain ⟨e1, e2⟩ := oI h
      have h := hO7
      rw [e1, e2] at h
      clear e1 e2
      clear hO7
      have h := zm zy_221 h 3 (q := (10, darg 0 [(4, 253), (0, (k : Int)), (0, (P : Int)), (0, (T : Int))], [(0, (k : Int)), (4, 253)], g)) rfl
      dsimp only at h
      obtain ⟨gz13, rz14, hk, h⟩ := zcallI zy_221 h rfl rfl zy_203 zk_203
      dsimp only at hk h
      have hO15 := h
      have h := hk
      clear hk
      have h := zm zy_203 h 3 (q := (5, darg 0 [(4, 253), (0, (k : Int))], [(0, (k : Int)), (4, 254)], g)) rfl
      dsimp only at h
      obtain ⟨gz16, rz17, hk, h⟩ := zcallI zy_203 h rfl rfl zy_199 zk_199
      dsimp only at hk h
      have hO18 := h
      have h := hk
      clear hk
      have h := zm zy_199 h 5 (q := (7, darg 0 [(0, (k : Int))], [(0, w32 (99 + (w32 (8 * ((k : Int))))))], g)) rfl
      dsimp only at h
      try rw [w32_eq (z := 8 * ((k : Int))) (v := 8 * (k : Int)) (by omega) (by omega) (by omega)] at h
      try rw [w32_eq (z := 99 + (8 * (k : Int))) (v := 99 + 8 * (k : Int)) (by omega) (by omega) (by omega)] at h
      have h := zret zy_199 h rfl rfl
      obtain ⟨e1, e2⟩ := oI h
      have h := hO18
      rw [e1, e2] at h
      clear e1 e2
      clear hO18
      have h := zm zy_203 h 2 (q := (10, darg 0 [(4, 253), (0, (k : Int))], [(0, w32 ((99 + 8 * (k : Int)) + 1)), (4, 254)], g)) rfl
      dsimp only at h
      try rw [w32_eq (z := (99 + 8 * (k : Int)) + 1) (v := 100 + 8 * (k : Int)) (by omega) (by omega) (by omega)] at h
      have h := zald zy_203 h rfl rfl (dvb_254 (i := 100 + 8 * (k : Int)) (by omega) (by omega))
      dsimp only at h
      try rw [show (100 + 8 * (k : Int)).toNat = 100 + 8 * k from by omega] at h
      try rw [hO.2.1] at h
      have h := zret zy_203 h rfl rfl
      obtain ⟨e1, e2⟩ := oI h
      have h := hO15
      rw [e1, e2] at h
      clear e1 e2
      clear hO15
      have h := zm zy_221 h 2 (q := (cond (crel .ne ((p : Int)) ((P : Int))) 30 17, darg 0 [(4, 253), (0, (k : Int)), (0, (P : Int)), (0, (T : Int))], [], g)) rfl
      dsimp only at h
      rcases zif_ne h with ⟨hc19, h⟩ | ⟨hc19, h⟩
      · have h := zm zy_221 h 1 (q := (31, darg 0 [(4, 253), (0, (k : Int)), (0, (P : Int)), (0, (T : Int))], [(0, 0)], g)) rfl
        dsimp only at h
        have h := zret zy_221 h rfl rfl
        obtain ⟨e1, e2⟩ := oI h
        have h := hO4
        rw [e1, e2] at h
        clear e1 e2
        clear hO4
        have h := zm zy_226 h 6 (q := (6, dset (dset (dset (dset (dset (dset (dset (dset (dset lf 6 (0, (k : Int))) 5 (0, z)) 4 (0, u)) 3 (0, (T : Int))) 2 (0, (Q : Int))) 1 (0, (P : Int))) 0 (4, 253)) 5 (0, w32 (z + 0))) 6 (0, w32 (((k : Int)) + 1)), [], g)) rfl
        dsimp only at h
        try rw [w32_eq (z := ((k : Int)) + 1) (v := 1 + (k : Int)) (by omega) (by omega) (by omega)] at h
        refine Or.inl (⟨Or.inr (Or.inl (⟨hc11, hc19⟩)), ?_⟩)
        exact ⟨_, rfl, rfl, rfl, rfl, rfl, rfl, rfl, h⟩
      · have h := zm zy_221 h 2 (q := (19, darg 0 [(4, 253), (0, (k : Int)), (0, (P : Int)), (0, (T : Int))], [(0, (k : Int)), (4, 253)], g)) rfl
        dsimp only at h
        obtain ⟨gz21, rz22, hk, h⟩ := zcallI zy_221 h rfl rfl zy_204 zk_204
        dsimp only at hk h
        have hO23 := h
        have h := hk
        clear hk
        have h := zm zy_204 h 3 (q := (5, darg 0 [(4, 253), (0, (k : Int))], [(0, (k : Int)), (4, 254)], g)) rfl
        dsimp only at h
        obtain ⟨gz24, rz25, hk, h⟩ := zcallI zy_204 h rfl rfl zy_199 zk_199
        dsimp only at hk h
        have hO26 := h
        have h := hk
        clear hk
        have h := zm zy_199 h 5 (q := (7, darg 0 [(0, (k : Int))], [(0, w32 (99 + (w32 (8 * ((k : Int))))))], g)) rfl
        dsimp only at h
        try rw [w32_eq (z := 8 * ((k : Int))) (v := 8 * (k : Int)) (by omega) (by omega) (by omega)] at h
        try rw [w32_eq (z := 99 + (8 * (k : Int))) (v := 99 + 8 * (k : Int)) (by omega) (by omega) (by omega)] at h
        have h := zret zy_199 h rfl rfl
        obtain ⟨e1, e2⟩ := oI h
        have h := hO26
        rw [e1, e2] at h
        clear e1 e2
        clear hO26
        have h := zm zy_204 h 2 (q := (10, darg 0 [(4, 253), (0, (k : Int))], [(0, w32 ((99 + 8 * (k : Int)) + 3)), (4, 254)], g)) rfl
        dsimp only at h
        try rw [w32_eq (z := (99 + 8 * (k : Int)) + 3) (v := 102 + 8 * (k : Int)) (by omega) (by omega) (by omega)] at h
        have h := zald zy_204 h rfl rfl (dvb_254 (i := 102 + 8 * (k : Int)) (by omega) (by omega))
        dsimp only at h
        try rw [show (102 + 8 * (k : Int)).toNat = 102 + 8 * k from by omega] at h
        try rw [hO.2.2.2.1] at h
        have h := zret zy_204 h rfl rfl
        obtain ⟨e1, e2⟩ := oI h
        have h := hO23
        rw [e1, e2] at h
        clear e1 e2
        clear hO23
        have h := zm zy_221 h 2 (q := (cond (crel .ne ((t : Int)) ((T : Int))) 30 26, darg 0 [(4, 253), (0, (k : Int)), (0, (P : Int)), (0, (T : Int))], [], g)) rfl
        dsimp only at h
        rcases zif_ne h with ⟨hc27, h⟩ | ⟨hc27, h⟩
        · have h := zm zy_221 h 1 (q := (31, darg 0 [(4, 253), (0, (k : Int)), (0, (P : Int)), (0, (T : Int))], [(0, 0)], g)) rfl
          dsimp only at h
          have h := zret zy_221 h rfl rfl
          obtain ⟨e1, e2⟩ := oI h
          have h := hO4
          rw [e1, e2] at h
          clear e1 e2
          clear hO4
          have h := zm zy_226 h 6 (q := (6, dset (dset (dset (dset (dset (dset (dset (dset (dset lf 6 (0, (k : Int))) 5 (0, z)) 4 (0, u)) 3 (0, (T : Int))) 2 (0, (Q : Int))) 1 (0, (P : Int))) 0 (4, 253)) 5 (0, w32 (z + 0))) 6 (0, w32 (((k : Int)) + 1)), [], g)) rfl
          dsimp only at h
          try rw [w32_eq (z := ((k : Int)) + 1) (v := 1 + (k : Int)) (by omega) (by omega) (by omega)] at h
          refine Or.inl (⟨Or.inr (Or.inr (Or.inl (⟨hc11, hc19, hc27⟩))), ?_⟩)
          exact ⟨_, rfl, rfl, rfl, rfl, rfl, rfl, rfl, h⟩
        · have h := zm zy_221 h 2 (q := (31, darg 0 [(4, 253), (0, (k : Int)), (0, (P : Int)), (0, (T : Int))], [(0, 1)], g)) rfl
          dsimp only at h
          have h := zret zy_221 h rfl rfl
          obtain ⟨e1, e2⟩ := oI h
          have h := hO4
          rw [e1, e2] at h
          clear e1 e2
          clear hO4
          have h := zm zy_226 h 3 (q := (33, dset (dset (dset (dset (dset (dset (dset lf 6 (0, (k : Int))) 5 (0, z)) 4 (0, u)) 3 (0, (T : Int))) 2 (0, (Q : Int))) 1 (0, (P : Int))) 0 (4, 253), [(0, (k : Int)), (4, 253), (0, z)], g)) rfl
          dsimp only at h
          obtain ⟨gz29, rz30, hk, h⟩ := zcallI zy_226 h rfl rfl zy_206 zk_206
          dsimp only at hk h
          have hO31 := h
          have h := hk
          clear hk
          have h := zm zy_206 h 3 (q := (5, darg 0 [(4, 253), (0, (k : Int))], [(0, (k : Int)), (4, 254)], g)) rfl
          dsimp only at h
          obtain ⟨gz32, rz33, hk, h⟩ := zcallI zy_206 h rfl rfl zy_199 zk_199
          dsimp only at hk h
          have hO34 := h
          have h := hk
          clear hk
          have h := zm zy_199 h 5 (q := (7, darg 0 [(0, (k : Int))], [(0, w32 (99 + (w32 (8 * ((k : Int))))))], g)) rfl
          dsimp only at h
          try rw [w32_eq (z := 8 * ((k : Int))) (v := 8 * (k : Int)) (by omega) (by omega) (by omega)] at h
          try rw [w32_eq (z := 99 + (8 * (k : Int))) (v := 99 + 8 * (k : Int)) (by omega) (by omega) (by omega)] at h
          have h := zret zy_199 h rfl rfl
          obtain ⟨e1, e2⟩ := oI h
          have h := hO34
          rw [e1, e2] at h
          clear e1 e2
          clear hO34
          have h := zm zy_206 h 2 (q := (10, darg 0 [(4, 253), (0, (k : Int))], [(0, w32 ((99 + 8 * (k : Int)) + 2)), (4, 254)], g)) rfl
          dsimp only at h
          try rw [w32_eq (z := (99 + 8 * (k : Int)) + 2) (v := 101 + 8 * (k : Int)) (by omega) (by omega) (by omega)] at h
          have h := zald zy_206 h rfl rfl (dvb_254 (i := 101 + 8 * (k : Int)) (by omega) (by omega))
          dsimp only at h
          try rw [show (101 + 8 * (k : Int)).toNat = 101 + 8 * k from by omega] at h
          try rw [hO.2.2.1] at h
          have h := zret zy_206 h rfl rfl
          obtain ⟨e1, e2⟩ := oI h
          have h := hO31
          rw [e1, e2] at h
          clear e1 e2
          clear hO31
          have h := zm zy_226 h 2 (q := (cond (crel .ne ((q : Int)) ((Q : Int))) 61 40, dset (dset (dset (dset (dset (dset (dset lf 6 (0, (k : Int))) 5 (0, z)) 4 (0, u)) 3 (0, (T : Int))) 2 (0, (Q : Int))) 1 (0, (P : Int))) 0 (4, 253), [(0, z)], g)) rfl
          dsimp only at h
          rcases zif_ne h with ⟨hc35, h⟩ | ⟨hc35, h⟩
          · have h := zm zy_226 h 5 (q := (6, dset (dset (dset (dset (dset (dset (dset (dset (dset lf 6 (0, (k : Int))) 5 (0, z)) 4 (0, u)) 3 (0, (T : Int))) 2 (0, (Q : Int))) 1 (0, (P : Int))) 0 (4, 253)) 5 (0, w32 (z + 0))) 6 (0, w32 (((k : Int)) + 1)), [], g)) rfl
            dsimp only at h
            try rw [w32_eq (z := ((k : Int)) + 1) (v := 1 + (k : Int)) (by omega) (by omega) (by omega)] at h
            refine Or.inl (⟨Or.inr (Or.inr (Or.inr (Or.inl (⟨hc11, hc19, hc27, hc35⟩)))), ?_⟩)
            exact ⟨_, rfl, rfl, rfl, rfl, rfl, rfl, rfl, h⟩
          · have h := zm zy_226 h 3 (q := (cond (crel .eq u ((-1))) 57 46, dset (dset (dset (dset (dset (dset (dset lf 6 (0, (k : Int))) 5 (0, z)) 4 (0, u)) 3 (0, (T : Int))) 2 (0, (Q : Int))) 1 (0, (P : Int))) 0 (4, 253), [(0, z)], g)) rfl
            dsimp only at h
            rcases zif_eq h with ⟨hc37, h⟩ | ⟨hc37, h⟩
            · have h := zm zy_226 h 6 (q := (6, dset (dset (dset (dset (dset (dset (dset (dset (dset lf 6 (0, (k : Int))) 5 (0, z)) 4 (0, u)) 3 (0, (T : Int))) 2 (0, (Q : Int))) 1 (0, (P : Int))) 0 (4, 253)) 5 (0, w32 (z + 1))) 6 (0, w32 (((k : Int)) + 1)), [], g)) rfl
              dsimp only at h
              try rw [w32_eq (z := ((k : Int)) + 1) (v := 1 + (k : Int)) (by omega) (by omega) (by omega)] at h
              refine Or.inr (⟨Or.inl (⟨hc11, hc19, hc27, hc35, hc37⟩), ?_⟩)
              exact ⟨_, rfl, rfl, rfl, rfl, rfl, rfl, rfl, h⟩
            · have h := zm zy_226 h 2 (q := (49, dset (dset (dset (dset (dset (dset (dset lf 6 (0, (k : Int))) 5 (0, z)) 4 (0, u)) 3 (0, (T : Int))) 2 (0, (Q : Int))) 1 (0, (P : Int))) 0 (4, 253), [(0, (k : Int)), (4, 253), (0, z)], g)) rfl
              dsimp only at h
              obtain ⟨gz39, rz40, hk, h⟩ := zcallI zy_226 h rfl rfl zy_211 zk_211
              dsimp only at hk h
              have hO41 := h
              have h := hk
              clear hk
              have h := zm zy_211 h 3 (q := (5, darg 0 [(4, 253), (0, (k : Int))], [(0, (k : Int)), (4, 254)], g)) rfl
              dsimp only at h
              obtain ⟨gz42, rz43, hk, h⟩ := zcallI zy_211 h rfl rfl zy_199 zk_199
              dsimp only at hk h
              have hO44 := h
              have h := hk
              clear hk
              have h := zm zy_199 h 5 (q := (7, darg 0 [(0, (k : Int))], [(0, w32 (99 + (w32 (8 * ((k : Int))))))], g)) rfl
              dsimp only at h
              try rw [w32_eq (z := 8 * ((k : Int))) (v := 8 * (k : Int)) (by omega) (by omega) (by omega)] at h
              try rw [w32_eq (z := 99 + (8 * (k : Int))) (v := 99 + 8 * (k : Int)) (by omega) (by omega) (by omega)] at h
              have h := zret zy_199 h rfl rfl
              obtain ⟨e1, e2⟩ := oI h
              have h := hO44
              rw [e1, e2] at h
              clear e1 e2
              clear hO44
              have h := zald zy_211 h rfl rfl (dvb_254 (i := 99 + 8 * (k : Int)) (by omega) (by omega))
              dsimp only at h
              try rw [show (99 + 8 * (k : Int)).toNat = 99 + 8 * k from by omega] at h
              try rw [hO.1] at h
              have h := zret zy_211 h rfl rfl
              obtain ⟨e1, e2⟩ := oI h
              have h := hO41
              rw [e1, e2] at h
              clear e1 e2
              clear hO41
              have h := zm zy_226 h 2 (q := (cond (crel .ne ((w : Int)) u) 61 57, dset (dset (dset (dset (dset (dset (dset lf 6 (0, (k : Int))) 5 (0, z)) 4 (0, u)) 3 (0, (T : Int))) 2 (0, (Q : Int))) 1 (0, (P : Int))) 0 (4, 253), [(0, z)], g)) rfl
              dsimp only at h
              rcases zif_ne h with ⟨hc45, h⟩ | ⟨hc45, h⟩
              · have h := zm zy_226 h 5 (q := (6, dset (dset (dset (dset (dset (dset (dset (dset (dset lf 6 (0, (k : Int))) 5 (0, z)) 4 (0, u)) 3 (0, (T : Int))) 2 (0, (Q : Int))) 1 (0, (P : Int))) 0 (4, 253)) 5 (0, w32 (z + 0))) 6 (0, w32 (((k : Int)) + 1)), [], g)) rfl
                dsimp only at h
                try rw [w32_eq (z := ((k : Int)) + 1) (v := 1 + (k : Int)) (by omega) (by omega) (by omega)] at h
                refine Or.inl (⟨Or.inr (Or.inr (Or.inr (Or.inr (⟨hc11, hc19, hc27, hc35, hc37, hc45⟩)))), ?_⟩)
                exact ⟨_, rfl, rfl, rfl, rfl, rfl, rfl, rfl, h⟩
              · have h := zm zy_226 h 6 (q := (6, dset (dset (dset (dset (dset (dset (dset (dset (dset lf 6 (0, (k : Int))) 5 (0, z)) 4 (0, u)) 3 (0, (T : Int))) 2 (0, (Q : Int))) 1 (0, (P : Int))) 0 (4, 253)) 5 (0, w32 (z + 1))) 6 (0, w32 (((k : Int)) + 1)), [], g)) rfl
                dsimp only at h
                try rw [w32_eq (z := ((k : Int)) + 1) (v := 1 + (k : Int)) (by omega) (by omega) (by omega)] at h
                refine Or.inr (⟨Or.inr (⟨hc11, hc19, hc27, hc35, hc37, hc45⟩), ?_⟩)
                exact ⟨_, rfl, rfl, rfl, rfl, rfl, rfl, rfl, h⟩
theorem m_bkd_e {sv : Nat → Int32} {L n : Nat} {lf : dlf} {g : cg} {o : cg × Option cv} {P Q T k N : Nat} {u z : Int} (rP : P ≤ 5) (rQ : Q ≤ 4) (rT : T ≤ 7) (rk : k ≤ 16) (rN : N ≤ 16) (hN : g 254 2 = (N : Int)) (hge : N ≤ k) (h : zr sv L (n + 1) 226 6 lf [] g o) (hl0 : lf 0 = (4, 253)) (hl1 : lf 1 = (0, (P : Int))) (hl2 : lf 2 = (0, (Q : Int))) (hl3 : lf 3 = (0, (T : Int))) (hl4 : lf 4 = (0, u)) (hl5 : lf 5 = (0, z)) (hl6 : lf 6 = (0, (k : Int))) : o = (g, some (0, z)) := by
  rw [zov hl0, zov hl1, zov hl2, zov hl3, zov hl4, zov hl5, zov hl6] at h
  have h := zm1 zy_226 h 5 (q := (cond (crel .ge ((k : Int)) (g 254 2)) 71 17, dset (dset (dset (dset (dset (dset (dset lf 6 (0, (k : Int))) 5 (0, z)) 4 (0, u)) 3 (0, (T : Int))) 2 (0, (Q : Int))) 1 (0, (P : Int))) 0 (4, 253), [], g)) rfl
  dsimp only at h
  try rw [hN] at h
  rcases zif_ge h with ⟨hc1, h⟩ | ⟨hc1, h⟩
  · have h := zm zy_226 h 1 (q := (73, dset (dset (dset (dset (dset (dset (dset lf 6 (0, (k : Int))) 5 (0, z)) 4 (0, u)) 3 (0, (T : Int))) 2 (0, (Q : Int))) 1 (0, (P : Int))) 0 (4, 253), [(0, z)], g)) rfl
    dsimp only at h
    exact zret zy_226 h rfl rfl
  · exact absurd hc1 (by omega)
theorem m_fee {sv : Nat → Int32} {L n : Nat} {lf : dlf} {g : cg} {o : cg × Option cv} {W P Q T : Nat} {pu ch bi tw fr v : Int} (rW : W ≤ 5) (rP : P ≤ 5) (rQ : Q ≤ 4) (rT : T ≤ 7) (hP : PMm g W pu ch bi tw fr) (hv : g 254 (51 + 8 * P + T) = v) (h : zr sv L n 224 0 lf [] g o) (hl0 : lf 0 = (4, 253)) (hl1 : lf 1 = (0, (W : Int))) (hl2 : lf 2 = (0, (P : Int))) (hl3 : lf 3 = (0, (Q : Int))) (hl4 : lf 4 = (0, (T : Int))) : (((v = (Q : Int)) ∨ (v ≠ (Q : Int) ∧ bi = 1)) ∧ (o = (g, some (0, 0)))) ∨ ((v ≠ (Q : Int) ∧ bi ≠ 1) ∧ (∃ g_1 r_1, zr sv L n 225 0 (darg 0 [(4, 253), (0, (W : Int)), (0, (P : Int)), (0, (Q : Int)), (0, (T : Int))]) [] g (g_1, some (0, r_1)) ∧ (((g_1 254 (18 + 6 * W) = (-1)) ∧ (o = (g_1, some (0, w32 ((g 254 3) + (w32 ((g 254 4) * r_1))))))) ∨ ((g_1 254 (18 + 6 * W) ≠ (-1)) ∧ (∃ g_2 r_2, zr sv L n 226 0 (darg 0 [(4, 253), (0, (P : Int)), (0, (Q : Int)), (0, (T : Int)), (0, g_1 254 (18 + 6 * W))]) [] g_1 (g_2, some (0, r_2)) ∧ (((r_2 ≤ 0) ∧ (o = (g_2, some (0, w32 ((g 254 3) + (w32 ((g 254 4) * r_1))))))) ∨ ((0 < r_2) ∧ (o = (g_2, some (0, qdi (w32 ((w32 ((g 254 3) + (w32 ((g 254 4) * r_1)))) + 1)) 2)))))))))) := by
  rw [zov hl0, zov hl1, zov hl2, zov hl3, zov hl4] at h
  have h := zm zy_224 h 1 (q := (1, dset (dset (dset (dset (dset lf 4 (0, (T : Int))) 3 (0, (Q : Int))) 2 (0, (P : Int))) 1 (0, (W : Int))) 0 (4, 253), [(0, (W : Int))], g)) rfl
  dsimp only at h
  obtain ⟨gz1, rz2, hk, h⟩ := zcallI zy_224 h rfl rfl zy_209 zk_209
  dsimp only at hk h
  have hO3 := h
  have h := hk
  clear hk
  have h := zm zy_209 h 5 (q := (7, darg 0 [(0, (W : Int))], [(0, w32 (15 + (w32 (6 * ((W : Int))))))], g)) rfl
  dsimp only at h
  try rw [w32_eq (z := 6 * ((W : Int))) (v := 6 * (W : Int)) (by omega) (by omega) (by omega)] at h
  try rw [w32_eq (z := 15 + (6 * (W : Int))) (v := 15 + 6 * (W : Int)) (by omega) (by omega) (by omega)] at h
  have h := zret zy_209 h rfl rfl
  obtain ⟨e1, e2⟩ := oI h
  have h := hO3
  rw [e1, e2] at h
  clear e1 e2
  clear hO3
  have h := zm zy_224 h 4 (q := (10, dset (dset (dset (dset (dset (dset lf 4 (0, (T : Int))) 3 (0, (Q : Int))) 2 (0, (P : Int))) 1 (0, (W : Int))) 0 (4, 253)) 5 (0, 15 + 6 * (W : Int)), [(0, (T : Int)), (0, (P : Int)), (4, 253)], g)) rfl
  dsimp only at h
  obtain ⟨gz4, rz5, hk, h⟩ := zcallI zy_224 h rfl rfl zy_205 zk_205
  dsimp only at hk h
  have hO6 := h
  have h := hk
  clear hk
  have h := zm zy_205 h 9 (q := (13, darg 0 [(4, 253), (0, (P : Int)), (0, (T : Int))], [(0, w32 ((w32 (51 + (w32 (8 * ((P : Int)))))) + ((T : Int)))), (4, 254)], g)) rfl
  dsimp only at h
  try rw [w32_eq (z := 8 * ((P : Int))) (v := 8 * (P : Int)) (by omega) (by omega) (by omega)] at h
  try rw [w32_eq (z := 51 + (8 * (P : Int))) (v := 51 + 8 * (P : Int)) (by omega) (by omega) (by omega)] at h
  try rw [w32_eq (z := (51 + 8 * (P : Int)) + ((T : Int))) (v := 51 + 8 * (P : Int) + (T : Int)) (by omega) (by omega) (by omega)] at h
  have h := zald zy_205 h rfl rfl (dvb_254 (i := 51 + 8 * (P : Int) + (T : Int)) (by omega) (by omega))
  dsimp only at h
  try rw [show (51 + 8 * (P : Int) + (T : Int)).toNat = 51 + 8 * P + T from by omega] at h
  try rw [hv] at h
  have h := zret zy_205 h rfl rfl
  obtain ⟨e1, e2⟩ := oI h
  have h := hO6
  rw [e1, e2] at h
  clear e1 e2
  clear hO6
  have h := zm zy_224 h 2 (q := (cond (crel .eq v ((Q : Int))) 30 17, dset (dset (dset (dset (dset (dset lf 4 (0, (T : Int))) 3 (0, (Q : Int))) 2 (0, (P : Int))) 1 (0, (W : Int))) 0 (4, 253)) 5 (0, 15 + 6 * (W : Int)), [], g)) rfl
  dsimp only at h
  rcases zif_eq h with ⟨hc7, h⟩ | ⟨hc7, h⟩
  · have h := zm zy_224 h 1 (q := (31, dset (dset (dset (dset (dset (dset lf 4 (0, (T : Int))) 3 (0, (Q : Int))) 2 (0, (P : Int))) 1 (0, (W : Int))) 0 (4, 253)) 5 (0, 15 + 6 * (W : Int)), [(0, 0)], g)) rfl
    dsimp only at h
    refine Or.inl (⟨Or.inl (hc7), ?_⟩)
    exact zret zy_224 h rfl rfl
  · have h := zm zy_224 h 5 (q := (25, dset (dset (dset (dset (dset (dset lf 4 (0, (T : Int))) 3 (0, (Q : Int))) 2 (0, (P : Int))) 1 (0, (W : Int))) 0 (4, 253)) 5 (0, 15 + 6 * (W : Int)), [(0, w32 ((15 + 6 * (W : Int)) + 2)), (4, 254)], g)) rfl
    dsimp only at h
    try rw [w32_eq (z := (15 + 6 * (W : Int)) + 2) (v := 17 + 6 * (W : Int)) (by omega) (by omega) (by omega)] at h
    have h := zald zy_224 h rfl rfl (dvb_254 (i := 17 + 6 * (W : Int)) (by omega) (by omega))
    dsimp only at h
    try rw [show (17 + 6 * (W : Int)).toNat = 17 + 6 * W from by omega] at h
    try rw [hP.2.2.1] at h
    have h := zm zy_224 h 2 (q := (cond (crel .ne bi 1) 32 30, dset (dset (dset (dset (dset (dset lf 4 (0, (T : Int))) 3 (0, (Q : Int))) 2 (0, (P : Int))) 1 (0, (W : Int))) 0 (4, 253)) 5 (0, 15 + 6 * (W : Int)), [], g)) rfl
    dsimp only at h
    rcases zif_ne h with ⟨hc8, h⟩ | ⟨hc8, h⟩
    · have h := zm zy_224 h 13 (q := (50, dset (dset (dset (dset (dset (dset lf 4 (0, (T : Int))) 3 (0, (Q : Int))) 2 (0, (P : Int))) 1 (0, (W : Int))) 0 (4, 253)) 5 (0, 15 + 6 * (W : Int)), [(0, (T : Int)), (0, (Q : Int)), (0, (P : Int)), (0, (W : Int)), (4, 253), (0, g 254 4), (0, g 254 3)], g)) rfl
      dsimp only at h
      obtain ⟨g_1, r_1, hk, h⟩ := zcallI zy_224 h rfl rfl zy_225 zk_225
      dsimp only at hk h
      refine Or.inr (⟨⟨hc7, hc8⟩, ?_⟩)
      refine ⟨g_1, r_1, hk, ?_⟩
      have h := zm zy_224 h 8 (q := (65, dset (dset (dset (dset (dset (dset (dset lf 4 (0, (T : Int))) 3 (0, (Q : Int))) 2 (0, (P : Int))) 1 (0, (W : Int))) 0 (4, 253)) 5 (0, 15 + 6 * (W : Int))) 6 (0, w32 ((g 254 3) + (w32 ((g 254 4) * r_1)))), [(0, w32 ((15 + 6 * (W : Int)) + 3)), (4, 254)], g_1)) rfl
      dsimp only at h
      try rw [w32_eq (z := (15 + 6 * (W : Int)) + 3) (v := 18 + 6 * (W : Int)) (by omega) (by omega) (by omega)] at h
      have h := zald zy_224 h rfl rfl (dvb_254 (i := 18 + 6 * (W : Int)) (by omega) (by omega))
      dsimp only at h
      try rw [show (18 + 6 * (W : Int)).toNat = 18 + 6 * W from by omega] at h
      have h := zm zy_224 h 2 (q := (cond (crel .eq (g_1 254 (18 + 6 * W)) ((-1))) 99 70, dset (dset (dset (dset (dset (dset (dset lf 4 (0, (T : Int))) 3 (0, (Q : Int))) 2 (0, (P : Int))) 1 (0, (W : Int))) 0 (4, 253)) 5 (0, 15 + 6 * (W : Int))) 6 (0, w32 ((g 254 3) + (w32 ((g 254 4) * r_1)))), [], g_1)) rfl
      dsimp only at h
      rcases zif_eq h with ⟨hc9, h⟩ | ⟨hc9, h⟩
      · have h := zm zy_224 h 1 (q := (101, dset (dset (dset (dset (dset (dset (dset lf 4 (0, (T : Int))) 3 (0, (Q : Int))) 2 (0, (P : Int))) 1 (0, (W : Int))) 0 (4, 253)) 5 (0, 15 + 6 * (W : Int))) 6 (0, w32 ((g 254 3) + (w32 ((g 254 4) * r_1)))), [(0, w32 ((g 254 3) + (w32 ((g 254 4) * r_1))))], g_1)) rfl
        dsimp only at h
        refine Or.inl (⟨hc9, ?_⟩)
        exact zret zy_224 h rfl rfl
      · have h := zm zy_224 h 9 (q := (83, dset (dset (dset (dset (dset (dset (dset lf 4 (0, (T : Int))) 3 (0, (Q : Int))) 2 (0, (P : Int))) 1 (0, (W : Int))) 0 (4, 253)) 5 (0, 15 + 6 * (W : Int))) 6 (0, w32 ((g 254 3) + (w32 ((g 254 4) * r_1)))), [(0, w32 ((15 + 6 * (W : Int)) + 3)), (4, 254), (0, (T : Int)), (0, (Q : Int)), (0, (P : Int)), (4, 253)], g_1)) rfl
        dsimp only at h
        try rw [w32_eq (z := (15 + 6 * (W : Int)) + 3) (v := 18 + 6 * (W : Int)) (by omega) (by omega) (by omega)] at h
        have h := zald zy_224 h rfl rfl (dvb_254 (i := 18 + 6 * (W : Int)) (by omega) (by omega))
        dsimp only at h
        try rw [show (18 + 6 * (W : Int)).toNat = 18 + 6 * W from by omega] at h
        obtain ⟨g_2, r_2, hk, h⟩ := zcallI zy_224 h rfl rfl zy_226 zk_226
        dsimp only at hk h
        refine Or.inr (⟨hc9, ?_⟩)
        refine ⟨g_2, r_2, hk, ?_⟩
        have h := zm zy_224 h 1 (q := (cond (crel .le r_2 0) 99 90, dset (dset (dset (dset (dset (dset (dset lf 4 (0, (T : Int))) 3 (0, (Q : Int))) 2 (0, (P : Int))) 1 (0, (W : Int))) 0 (4, 253)) 5 (0, 15 + 6 * (W : Int))) 6 (0, w32 ((g 254 3) + (w32 ((g 254 4) * r_1)))), [], g_2)) rfl
        dsimp only at h
        rcases zif_le h with ⟨hc10, h⟩ | ⟨hc10, h⟩
        · have h := zm zy_224 h 1 (q := (101, dset (dset (dset (dset (dset (dset (dset lf 4 (0, (T : Int))) 3 (0, (Q : Int))) 2 (0, (P : Int))) 1 (0, (W : Int))) 0 (4, 253)) 5 (0, 15 + 6 * (W : Int))) 6 (0, w32 ((g 254 3) + (w32 ((g 254 4) * r_1)))), [(0, w32 ((g 254 3) + (w32 ((g 254 4) * r_1))))], g_2)) rfl
          dsimp only at h
          refine Or.inl (⟨hc10, ?_⟩)
          exact zret zy_224 h rfl rfl
        · have h := zm zy_224 h 6 (q := (101, dset (dset (dset (dset (dset (dset (dset lf 4 (0, (T : Int))) 3 (0, (Q : Int))) 2 (0, (P : Int))) 1 (0, (W : Int))) 0 (4, 253)) 5 (0, 15 + 6 * (W : Int))) 6 (0, w32 ((g 254 3) + (w32 ((g 254 4) * r_1)))), [(0, qdi (w32 ((w32 ((g 254 3) + (w32 ((g 254 4) * r_1)))) + 1)) 2)], g_2)) rfl
          dsimp only at h
          refine Or.inr (⟨hc10, ?_⟩)
          exact zret zy_224 h rfl rfl
    · have h := zm zy_224 h 1 (q := (31, dset (dset (dset (dset (dset (dset lf 4 (0, (T : Int))) 3 (0, (Q : Int))) 2 (0, (P : Int))) 1 (0, (W : Int))) 0 (4, 253)) 5 (0, 15 + 6 * (W : Int)), [(0, 0)], g)) rfl
      dsimp only at h
      refine Or.inl (⟨Or.inr (⟨hc7, hc8⟩), ?_⟩)
      exact zret zy_224 h rfl rfl
theorem m_dbt0 {sv : Nat → Int32} {L n : Nat} {lf : dlf} {g : cg} {o : cg × Option cv} {P : Nat} (rP : P ≤ 5) (h : zr sv L n 222 0 lf [] g o) (hl0 : lf 0 = (4, 253)) (hl1 : lf 1 = (0, (P : Int))) : ∃ lf', lf' 0 = (4, 253) ∧ lf' 1 = (0, (P : Int)) ∧ lf' 2 = (0, 0) ∧ lf' 3 = (0, 0) ∧ zr sv L n 222 4 lf' [] g o := by
  rw [zov hl0, zov hl1] at h
  have h := zm zy_222 h 4 (q := (4, dset (dset (dset (dset lf 1 (0, (P : Int))) 0 (4, 253)) 2 (0, 0)) 3 (0, 0), [], g)) rfl
  dsimp only at h
  exact ⟨_, rfl, rfl, rfl, rfl, h⟩
theorem m_dbt4 {sv : Nat → Int32} {L n : Nat} {lf : dlf} {g : cg} {o : cg × Option cv} {P : Nat} {z y : Int} (rP : P ≤ 5) (h : zr sv L (n + 1) 222 4 lf [] g o) (hl0 : lf 0 = (4, 253)) (hl1 : lf 1 = (0, (P : Int))) (hl2 : lf 2 = (0, z)) (hl3 : lf 3 = (0, y)) : ((8 ≤ y) ∧ (o = (g, some (0, z)))) ∨ ((y < 8) ∧ (∃ lf', lf' 0 = (4, 253) ∧ lf' 1 = (0, (P : Int)) ∧ lf' 2 = (0, z) ∧ lf' 3 = (0, y) ∧ lf' 4 = (0, 0) ∧ lf' 5 = (0, 0) ∧ zr sv L n 222 16 lf' [] g o)) := by
  rw [zov hl0, zov hl1, zov hl2, zov hl3] at h
  have h := zm1 zy_222 h 2 (q := (cond (crel .ge y 8) 84 10, dset (dset (dset (dset lf 3 (0, y)) 2 (0, z)) 1 (0, (P : Int))) 0 (4, 253), [], g)) rfl
  dsimp only at h
  rcases zif_ge h with ⟨hc1, h⟩ | ⟨hc1, h⟩
  · have h := zm zy_222 h 1 (q := (85, dset (dset (dset (dset lf 3 (0, y)) 2 (0, z)) 1 (0, (P : Int))) 0 (4, 253), [(0, z)], g)) rfl
    dsimp only at h
    refine Or.inl (⟨hc1, ?_⟩)
    exact zret zy_222 h rfl rfl
  · have h := zm zy_222 h 4 (q := (16, dset (dset (dset (dset (dset (dset lf 3 (0, y)) 2 (0, z)) 1 (0, (P : Int))) 0 (4, 253)) 4 (0, 0)) 5 (0, 0), [], g)) rfl
    dsimp only at h
    refine Or.inr (⟨hc1, ?_⟩)
    exact ⟨_, rfl, rfl, rfl, rfl, rfl, rfl, h⟩
theorem m_dbt16_s {sv : Nat → Int32} {L n : Nat} {lf : dlf} {g : cg} {o : cg × Option cv} {P T w p q t k N : Nat} {f s b z u : Int} (rP : P ≤ 5) (rT : T ≤ 7) (rw : w ≤ 5) (rp : p ≤ 5) (rq : q ≤ 4) (rt : t ≤ 7) (rk : k ≤ 15) (rN : N ≤ 16) (hN : g 254 2 = (N : Int)) (hO : OHM g k w p q t f s b) (hlt : k < N) (h : zr sv L (n + 1) 222 16 lf [] g o) (hl0 : lf 0 = (4, 253)) (hl1 : lf 1 = (0, (P : Int))) (hl2 : lf 2 = (0, z)) (hl3 : lf 3 = (0, (T : Int))) (hl4 : lf 4 = (0, u)) (hl5 : lf 5 = (0, (k : Int))) : (((s ≠ 0) ∨ (s = 0 ∧ (p : Int) ≠ (P : Int)) ∨ (s = 0 ∧ (p : Int) = (P : Int) ∧ (t : Int) ≠ (T : Int))) ∧ (∃ lf', lf' 0 = (4, 253) ∧ lf' 1 = (0, (P : Int)) ∧ lf' 2 = (0, z) ∧ lf' 3 = (0, (T : Int)) ∧ lf' 4 = (0, bor u 0) ∧ lf' 5 = (0, 1 + (k : Int)) ∧ zr sv L n 222 16 lf' [] g o)) ∨ ((s = 0 ∧ (p : Int) = (P : Int) ∧ (t : Int) = (T : Int)) ∧ (∃ lf', lf' 0 = (4, 253) ∧ lf' 1 = (0, (P : Int)) ∧ lf' 2 = (0, z) ∧ lf' 3 = (0, (T : Int)) ∧ lf' 4 = (0, bor u (bsl 1 ((q : Int)))) ∧ lf' 5 = (0, 1 + (k : Int)) ∧ zr sv L n 222 16 lf' [] g o)) := by
  rw [zov hl0, zov hl1, zov hl2, zov hl3, zov hl4, zov hl5] at h
  have h := zm1 zy_222 h 5 (q := (cond (crel .ge ((k : Int)) (g 254 2)) 61 27, dset (dset (dset (dset (dset (dset lf 5 (0, (k : Int))) 4 (0, u)) 3 (0, (T : Int))) 2 (0, z)) 1 (0, (P : Int))) 0 (4, 253), [], g)) rfl
  dsimp only at h
  try rw [hN] at h
  rcases zif_ge h with ⟨hc1, h⟩ | ⟨hc1, h⟩
  · exact absurd hc1 (by omega)
  · have h := zm zy_222 h 5 (q := (34, dset (dset (dset (dset (dset (dset lf 5 (0, (k : Int))) 4 (0, u)) 3 (0, (T : Int))) 2 (0, z)) 1 (0, (P : Int))) 0 (4, 253), [(0, (T : Int)), (0, (P : Int)), (0, (k : Int)), (4, 253), (0, u)], g)) rfl
    dsimp only at h
    obtain ⟨gz2, rz3, hk, h⟩ := zcallI zy_222 h rfl rfl zy_221 zk_221
    dsimp only at hk h
    have hO4 := h
    have h := hk
    clear hk
    have h := zm zy_221 h 2 (q := (2, darg 0 [(4, 253), (0, (k : Int)), (0, (P : Int)), (0, (T : Int))], [(0, (k : Int)), (4, 253)], g)) rfl
    dsimp only at h
    obtain ⟨gz5, rz6, hk, h⟩ := zcallI zy_221 h rfl rfl zy_201 zk_201
    dsimp only at hk h
    have hO7 := h
    have h := hk
    clear hk
    have h := zm zy_201 h 3 (q := (5, darg 0 [(4, 253), (0, (k : Int))], [(0, (k : Int)), (4, 254)], g)) rfl
    dsimp only at h
    obtain ⟨gz8, rz9, hk, h⟩ := zcallI zy_201 h rfl rfl zy_199 zk_199
    dsimp only at hk h
    have hO10 := h
    have h := hk
    clear hk
    have h := zm zy_199 h 5 (q := (7, darg 0 [(0, (k : Int))], [(0, w32 (99 + (w32 (8 * ((k : Int))))))], g)) rfl
    dsimp only at h
    try rw [w32_eq (z := 8 * ((k : Int))) (v := 8 * (k : Int)) (by omega) (by omega) (by omega)] at h
    try rw [w32_eq (z := 99 + (8 * (k : Int))) (v := 99 + 8 * (k : Int)) (by omega) (by omega) (by omega)] at h
    have h := zret zy_199 h rfl rfl
    obtain ⟨e1, e2⟩ := oI h
    have h := hO10
    rw [e1, e2] at h
    clear e1 e2
    clear hO10
    have h := zm zy_201 h 2 (q := (10, darg 0 [(4, 253), (0, (k : Int))], [(0, w32 ((99 + 8 * (k : Int)) + 5)), (4, 254)], g)) rfl
    dsimp only at h
    try rw [w32_eq (z := (99 + 8 * (k : Int)) + 5) (v := 104 + 8 * (k : Int)) (by omega) (by omega) (by omega)] at h
    have h := zald zy_201 h rfl rfl (dvb_254 (i := 104 + 8 * (k : Int)) (by omega) (by omega))
    dsimp only at h
    try rw [show (104 + 8 * (k : Int)).toNat = 104 + 8 * k from by omega] at h
    try rw [hO.2.2.2.2.2.1] at h
    have h := zm zy_201 h 1 (q := (cond (crel .ne s 0) 18 14, darg 0 [(4, 253), (0, (k : Int))], [], g)) rfl
    dsimp only at h
    rcases zif_ne h with ⟨hc11, h⟩ | ⟨hc11, h⟩
    · have h := zm zy_201 h 1 (q := (19, darg 0 [(4, 253), (0, (k : Int))], [(0, 0)], g)) rfl
      dsimp only at h
      have h := zret zy_201 h rfl rfl
      obtain ⟨e1, e2⟩ := oI h
      have h := hO7
      rw [e1, e2] at h
      clear e1 e2
      clear hO7
      have h := zm zy_221 h 2 (q := (31, darg 0 [(4, 253), (0, (k : Int)), (0, (P : Int)), (0, (T : Int))], [(0, 0)], g)) rfl
      dsimp only at h
      have h := zret zy_221 h rfl rfl
      obtain ⟨e1, e2⟩ := oI h
      have h := hO4
      rw [e1, e2] at h
      clear e1 e2
      clear hO4
      have h := zm zy_222 h 6 (q := (16, dset (dset (dset (dset (dset (dset (dset (dset lf 5 (0, (k : Int))) 4 (0, u)) 3 (0, (T : Int))) 2 (0, z)) 1 (0, (P : Int))) 0 (4, 253)) 4 (0, bor u 0)) 5 (0, w32 (((k : Int)) + 1)), [], g)) rfl
      dsimp only at h
      try rw [w32_eq (z := ((k : Int)) + 1) (v := 1 + (k : Int)) (by omega) (by omega) (by omega)] at h
      refine Or.inl (⟨Or.inl (hc11), ?_⟩)
      exact ⟨_, rfl, rfl, rfl, rfl, rfl, rfl, h⟩
    · have h := zm zy_201 h 2 (q := (19, darg 0 [(4, 253), (0, (k : Int))], [(0, 1)], g)) rfl
      dsimp only at h
      have h := zret zy_201 h rfl rfl
      obtain ⟨e1, e2⟩ := oI h
      have h := hO7
      rw [e1, e2] at h
      clear e1 e2
      clear hO7
      have h := zm zy_221 h 3 (q := (10, darg 0 [(4, 253), (0, (k : Int)), (0, (P : Int)), (0, (T : Int))], [(0, (k : Int)), (4, 253)], g)) rfl
      dsimp only at h
      obtain ⟨gz13, rz14, hk, h⟩ := zcallI zy_221 h rfl rfl zy_203 zk_203
      dsimp only at hk h
      have hO15 := h
      have h := hk
      clear hk
      have h := zm zy_203 h 3 (q := (5, darg 0 [(4, 253), (0, (k : Int))], [(0, (k : Int)), (4, 254)], g)) rfl
      dsimp only at h
      obtain ⟨gz16, rz17, hk, h⟩ := zcallI zy_203 h rfl rfl zy_199 zk_199
      dsimp only at hk h
      have hO18 := h
      have h := hk
      clear hk
      have h := zm zy_199 h 5 (q := (7, darg 0 [(0, (k : Int))], [(0, w32 (99 + (w32 (8 * ((k : Int))))))], g)) rfl
      dsimp only at h
      try rw [w32_eq (z := 8 * ((k : Int))) (v := 8 * (k : Int)) (by omega) (by omega) (by omega)] at h
      try rw [w32_eq (z := 99 + (8 * (k : Int))) (v := 99 + 8 * (k : Int)) (by omega) (by omega) (by omega)] at h
      have h := zret zy_199 h rfl rfl
      obtain ⟨e1, e2⟩ := oI h
      have h := hO18
      rw [e1, e2] at h
      clear e1 e2
      clear hO18
      have h := zm zy_203 h 2 (q := (10, darg 0 [(4, 253), (0, (k : Int))], [(0, w32 ((99 + 8 * (k : Int)) + 1)), (4, 254)], g)) rfl
      dsimp only at h
      try rw [w32_eq (z := (99 + 8 * (k : Int)) + 1) (v := 100 + 8 * (k : Int)) (by omega) (by omega) (by omega)] at h
      have h := zald zy_203 h rfl rfl (dvb_254 (i := 100 + 8 * (k : Int)) (by omega) (by omega))
      dsimp only at h
      try rw [show (100 + 8 * (k : Int)).toNat = 100 + 8 * k from by omega] at h
      try rw [hO.2.1] at h
      have h := zret zy_203 h rfl rfl
      obtain ⟨e1, e2⟩ := oI h
      have h := hO15
      rw [e1, e2] at h
      clear e1 e2
      clear hO15
      have h := zm zy_221 h 2 (q := (cond (crel .ne ((p : Int)) ((P : Int))) 30 17, darg 0 [(4, 253), (0, (k : Int)), (0, (P : Int)), (0, (T : Int))], [], g)) rfl
      dsimp only at h
      rcases zif_ne h with ⟨hc19, h⟩ | ⟨hc19, h⟩
      · have h := zm zy_221 h 1 (q := (31, darg 0 [(4, 253), (0, (k : Int)), (0, (P : Int)), (0, (T : Int))], [(0, 0)], g)) rfl
        dsimp only at h
        have h := zret zy_221 h rfl rfl
        obtain ⟨e1, e2⟩ := oI h
        have h := hO4
        rw [e1, e2] at h
        clear e1 e2
        clear hO4
        have h := zm zy_222 h 6 (q := (16, dset (dset (dset (dset (dset (dset (dset (dset lf 5 (0, (k : Int))) 4 (0, u)) 3 (0, (T : Int))) 2 (0, z)) 1 (0, (P : Int))) 0 (4, 253)) 4 (0, bor u 0)) 5 (0, w32 (((k : Int)) + 1)), [], g)) rfl
        dsimp only at h
        try rw [w32_eq (z := ((k : Int)) + 1) (v := 1 + (k : Int)) (by omega) (by omega) (by omega)] at h
        refine Or.inl (⟨Or.inr (Or.inl (⟨hc11, hc19⟩)), ?_⟩)
        exact ⟨_, rfl, rfl, rfl, rfl, rfl, rfl, h⟩
      · have h := zm zy_221 h 2 (q := (19, darg 0 [(4, 253), (0, (k : Int)), (0, (P : Int)), (0, (T : Int))], [(0, (k : Int)), (4, 253)], g)) rfl
        dsimp only at h
        obtain ⟨gz21, rz22, hk, h⟩ := zcallI zy_221 h rfl rfl zy_204 zk_204
        dsimp only at hk h
        have hO23 := h
        have h := hk
        clear hk
        have h := zm zy_204 h 3 (q := (5, darg 0 [(4, 253), (0, (k : Int))], [(0, (k : Int)), (4, 254)], g)) rfl
        dsimp only at h
        obtain ⟨gz24, rz25, hk, h⟩ := zcallI zy_204 h rfl rfl zy_199 zk_199
        dsimp only at hk h
        have hO26 := h
        have h := hk
        clear hk
        have h := zm zy_199 h 5 (q := (7, darg 0 [(0, (k : Int))], [(0, w32 (99 + (w32 (8 * ((k : Int))))))], g)) rfl
        dsimp only at h
        try rw [w32_eq (z := 8 * ((k : Int))) (v := 8 * (k : Int)) (by omega) (by omega) (by omega)] at h
        try rw [w32_eq (z := 99 + (8 * (k : Int))) (v := 99 + 8 * (k : Int)) (by omega) (by omega) (by omega)] at h
        have h := zret zy_199 h rfl rfl
        obtain ⟨e1, e2⟩ := oI h
        have h := hO26
        rw [e1, e2] at h
        clear e1 e2
        clear hO26
        have h := zm zy_204 h 2 (q := (10, darg 0 [(4, 253), (0, (k : Int))], [(0, w32 ((99 + 8 * (k : Int)) + 3)), (4, 254)], g)) rfl
        dsimp only at h
        try rw [w32_eq (z := (99 + 8 * (k : Int)) + 3) (v := 102 + 8 * (k : Int)) (by omega) (by omega) (by omega)] at h
        have h := zald zy_204 h rfl rfl (dvb_254 (i := 102 + 8 * (k : Int)) (by omega) (by omega))
        dsimp only at h
        try rw [show (102 + 8 * (k : Int)).toNat = 102 + 8 * k from by omega] at h
        try rw [hO.2.2.2.1] at h
        have h := zret zy_204 h rfl rfl
        obtain ⟨e1, e2⟩ := oI h
        have h := hO23
        rw [e1, e2] at h
        clear e1 e2
        clear hO23
        have h := zm zy_221 h 2 (q := (cond (crel .ne ((t : Int)) ((T : Int))) 30 26, darg 0 [(4, 253), (0, (k : Int)), (0, (P : Int)), (0, (T : Int))], [], g)) rfl
        dsimp only at h
        rcases zif_ne h with ⟨hc27, h⟩ | ⟨hc27, h⟩
        · have h := zm zy_221 h 1 (q := (31, darg 0 [(4, 253), (0, (k : Int)), (0, (P : Int)), (0, (T : Int))], [(0, 0)], g)) rfl
          dsimp only at h
          have h := zret zy_221 h rfl rfl
          obtain ⟨e1, e2⟩ := oI h
          have h := hO4
          rw [e1, e2] at h
          clear e1 e2
          clear hO4
          have h := zm zy_222 h 6 (q := (16, dset (dset (dset (dset (dset (dset (dset (dset lf 5 (0, (k : Int))) 4 (0, u)) 3 (0, (T : Int))) 2 (0, z)) 1 (0, (P : Int))) 0 (4, 253)) 4 (0, bor u 0)) 5 (0, w32 (((k : Int)) + 1)), [], g)) rfl
          dsimp only at h
          try rw [w32_eq (z := ((k : Int)) + 1) (v := 1 + (k : Int)) (by omega) (by omega) (by omega)] at h
          refine Or.inl (⟨Or.inr (Or.inr (⟨hc11, hc19, hc27⟩)), ?_⟩)
          exact ⟨_, rfl, rfl, rfl, rfl, rfl, rfl, h⟩
        · have h := zm zy_221 h 2 (q := (31, darg 0 [(4, 253), (0, (k : Int)), (0, (P : Int)), (0, (T : Int))], [(0, 1)], g)) rfl
          dsimp only at h
          have h := zret zy_221 h rfl rfl
          obtain ⟨e1, e2⟩ := oI h
          have h := hO4
          rw [e1, e2] at h
          clear e1 e2
          clear hO4
          have h := zm zy_222 h 4 (q := (44, dset (dset (dset (dset (dset (dset lf 5 (0, (k : Int))) 4 (0, u)) 3 (0, (T : Int))) 2 (0, z)) 1 (0, (P : Int))) 0 (4, 253), [(0, (k : Int)), (4, 253), (0, 1), (0, u)], g)) rfl
          dsimp only at h
          obtain ⟨gz29, rz30, hk, h⟩ := zcallI zy_222 h rfl rfl zy_206 zk_206
          dsimp only at hk h
          have hO31 := h
          have h := hk
          clear hk
          have h := zm zy_206 h 3 (q := (5, darg 0 [(4, 253), (0, (k : Int))], [(0, (k : Int)), (4, 254)], g)) rfl
          dsimp only at h
          obtain ⟨gz32, rz33, hk, h⟩ := zcallI zy_206 h rfl rfl zy_199 zk_199
          dsimp only at hk h
          have hO34 := h
          have h := hk
          clear hk
          have h := zm zy_199 h 5 (q := (7, darg 0 [(0, (k : Int))], [(0, w32 (99 + (w32 (8 * ((k : Int))))))], g)) rfl
          dsimp only at h
          try rw [w32_eq (z := 8 * ((k : Int))) (v := 8 * (k : Int)) (by omega) (by omega) (by omega)] at h
          try rw [w32_eq (z := 99 + (8 * (k : Int))) (v := 99 + 8 * (k : Int)) (by omega) (by omega) (by omega)] at h
          have h := zret zy_199 h rfl rfl
          obtain ⟨e1, e2⟩ := oI h
          have h := hO34
          rw [e1, e2] at h
          clear e1 e2
          clear hO34
          have h := zm zy_206 h 2 (q := (10, darg 0 [(4, 253), (0, (k : Int))], [(0, w32 ((99 + 8 * (k : Int)) + 2)), (4, 254)], g)) rfl
          dsimp only at h
          try rw [w32_eq (z := (99 + 8 * (k : Int)) + 2) (v := 101 + 8 * (k : Int)) (by omega) (by omega) (by omega)] at h
          have h := zald zy_206 h rfl rfl (dvb_254 (i := 101 + 8 * (k : Int)) (by omega) (by omega))
          dsimp only at h
          try rw [show (101 + 8 * (k : Int)).toNat = 101 + 8 * k from by omega] at h
          try rw [hO.2.2.1] at h
          have h := zret zy_206 h rfl rfl
          obtain ⟨e1, e2⟩ := oI h
          have h := hO31
          rw [e1, e2] at h
          clear e1 e2
          clear hO31
          have h := zm zy_222 h 6 (q := (16, dset (dset (dset (dset (dset (dset (dset (dset lf 5 (0, (k : Int))) 4 (0, u)) 3 (0, (T : Int))) 2 (0, z)) 1 (0, (P : Int))) 0 (4, 253)) 4 (0, bor u (bsl 1 ((q : Int))))) 5 (0, w32 (((k : Int)) + 1)), [], g)) rfl
          dsimp only at h
          try rw [w32_eq (z := ((k : Int)) + 1) (v := 1 + (k : Int)) (by omega) (by omega) (by omega)] at h
          refine Or.inr (⟨⟨hc11, hc19, hc27⟩, ?_⟩)
          exact ⟨_, rfl, rfl, rfl, rfl, rfl, rfl, h⟩
theorem m_dbt16_e {sv : Nat → Int32} {L n : Nat} {lf : dlf} {g : cg} {o : cg × Option cv} {P T k N : Nat} {z u : Int} (rP : P ≤ 5) (rT : T ≤ 7) (rk : k ≤ 16) (rN : N ≤ 16) (hN : g 254 2 = (N : Int)) (hge : N ≤ k) (h : zr sv L (n + 1) 222 16 lf [] g o) (hl0 : lf 0 = (4, 253)) (hl1 : lf 1 = (0, (P : Int))) (hl2 : lf 2 = (0, z)) (hl3 : lf 3 = (0, (T : Int))) (hl4 : lf 4 = (0, u)) (hl5 : lf 5 = (0, (k : Int))) : ∃ g_1 r_1, zr sv L n 223 0 (darg 0 [(0, u)]) [] g (g_1, some (0, r_1)) ∧ (((r_1 ≤ 1) ∧ (∃ lf', lf' 0 = (4, 253) ∧ lf' 1 = (0, (P : Int)) ∧ lf' 2 = (0, w32 (z + 0)) ∧ lf' 3 = (0, 1 + (T : Int)) ∧ zr sv L n 222 4 lf' [] g_1 o)) ∨ ((1 < r_1) ∧ (∃ lf', lf' 0 = (4, 253) ∧ lf' 1 = (0, (P : Int)) ∧ lf' 2 = (0, w32 (z + 1)) ∧ lf' 3 = (0, 1 + (T : Int)) ∧ zr sv L n 222 4 lf' [] g_1 o))) := by
  rw [zov hl0, zov hl1, zov hl2, zov hl3, zov hl4, zov hl5] at h
  have h := zm1 zy_222 h 5 (q := (cond (crel .ge ((k : Int)) (g 254 2)) 61 27, dset (dset (dset (dset (dset (dset lf 5 (0, (k : Int))) 4 (0, u)) 3 (0, (T : Int))) 2 (0, z)) 1 (0, (P : Int))) 0 (4, 253), [], g)) rfl
  dsimp only at h
  try rw [hN] at h
  rcases zif_ge h with ⟨hc1, h⟩ | ⟨hc1, h⟩
  · have h := zm zy_222 h 2 (q := (64, dset (dset (dset (dset (dset (dset lf 5 (0, (k : Int))) 4 (0, u)) 3 (0, (T : Int))) 2 (0, z)) 1 (0, (P : Int))) 0 (4, 253), [(0, u), (0, z)], g)) rfl
    dsimp only at h
    obtain ⟨g_1, r_1, hk, h⟩ := zcallI zy_222 h rfl rfl zy_223 zk_223
    dsimp only at hk h
    refine ⟨g_1, r_1, hk, ?_⟩
    have h := zm zy_222 h 2 (q := (cond (crel .le r_1 1) 75 71, dset (dset (dset (dset (dset (dset lf 5 (0, (k : Int))) 4 (0, u)) 3 (0, (T : Int))) 2 (0, z)) 1 (0, (P : Int))) 0 (4, 253), [(0, z)], g_1)) rfl
    dsimp only at h
    rcases zif_le h with ⟨hc2, h⟩ | ⟨hc2, h⟩
    · have h := zm zy_222 h 5 (q := (4, dset (dset (dset (dset (dset (dset (dset (dset lf 5 (0, (k : Int))) 4 (0, u)) 3 (0, (T : Int))) 2 (0, z)) 1 (0, (P : Int))) 0 (4, 253)) 2 (0, w32 (z + 0))) 3 (0, w32 (((T : Int)) + 1)), [], g_1)) rfl
      dsimp only at h
      try rw [w32_eq (z := ((T : Int)) + 1) (v := 1 + (T : Int)) (by omega) (by omega) (by omega)] at h
      refine Or.inl (⟨hc2, ?_⟩)
      exact ⟨_, rfl, rfl, rfl, rfl, h⟩
    · have h := zm zy_222 h 6 (q := (4, dset (dset (dset (dset (dset (dset (dset (dset lf 5 (0, (k : Int))) 4 (0, u)) 3 (0, (T : Int))) 2 (0, z)) 1 (0, (P : Int))) 0 (4, 253)) 2 (0, w32 (z + 1))) 3 (0, w32 (((T : Int)) + 1)), [], g_1)) rfl
      dsimp only at h
      try rw [w32_eq (z := ((T : Int)) + 1) (v := 1 + (T : Int)) (by omega) (by omega) (by omega)] at h
      refine Or.inr (⟨hc2, ?_⟩)
      exact ⟨_, rfl, rfl, rfl, rfl, h⟩
  · exact absurd hc1 (by omega)
theorem m_why0 {sv : Nat → Int32} {L n : Nat} {lf : dlf} {g : cg} {o : cg × Option cv} {W P Q T N : Nat} (rW : W ≤ 5) (rP : P ≤ 5) (rQ : Q ≤ 4) (rT : T ≤ 7) (rN : N ≤ 16) (hN : g 254 2 = (N : Int)) (h : zr sv L n 220 0 lf [] g o) (hl0 : lf 0 = (4, 253)) (hl1 : lf 1 = (0, (W : Int))) (hl2 : lf 2 = (0, (P : Int))) (hl3 : lf 3 = (0, (Q : Int))) (hl4 : lf 4 = (0, (T : Int))) : (((N : Int) ≠ 16) ∧ (∃ lf', lf' 0 = (4, 253) ∧ lf' 1 = (0, (W : Int)) ∧ lf' 2 = (0, (P : Int)) ∧ lf' 3 = (0, (Q : Int)) ∧ lf' 4 = (0, (T : Int)) ∧ lf' 5 = (0, 0) ∧ zr sv L n 220 16 lf' [] g o)) ∨ (((N : Int) = 16) ∧ (o = (g, some (0, 1)))) := by
  rw [zov hl0, zov hl1, zov hl2, zov hl3, zov hl4] at h
  have h := zm zy_220 h 6 (q := (cond (crel .ne (g 254 2) 16) 13 11, dset (dset (dset (dset (dset lf 4 (0, (T : Int))) 3 (0, (Q : Int))) 2 (0, (P : Int))) 1 (0, (W : Int))) 0 (4, 253), [], g)) rfl
  dsimp only at h
  try rw [hN] at h
  rcases zif_ne h with ⟨hc1, h⟩ | ⟨hc1, h⟩
  · have h := zm zy_220 h 2 (q := (16, dset (dset (dset (dset (dset (dset lf 4 (0, (T : Int))) 3 (0, (Q : Int))) 2 (0, (P : Int))) 1 (0, (W : Int))) 0 (4, 253)) 5 (0, 0), [], g)) rfl
    dsimp only at h
    refine Or.inl (⟨hc1, ?_⟩)
    exact ⟨_, rfl, rfl, rfl, rfl, rfl, rfl, h⟩
  · have h := zm zy_220 h 1 (q := (12, dset (dset (dset (dset (dset lf 4 (0, (T : Int))) 3 (0, (Q : Int))) 2 (0, (P : Int))) 1 (0, (W : Int))) 0 (4, 253), [(0, 1)], g)) rfl
    dsimp only at h
    refine Or.inr (⟨hc1, ?_⟩)
    exact zret zy_220 h rfl rfl
theorem m_why16e {sv : Nat → Int32} {L n : Nat} {lf : dlf} {g : cg} {o : cg × Option cv} {W P Q T k N : Nat} {v : Int} (rW : W ≤ 5) (rP : P ≤ 5) (rQ : Q ≤ 4) (rT : T ≤ 7) (rk : k ≤ 16) (rN : N ≤ 16) (hN : g 254 2 = (N : Int)) (hv : g 254 (51 + 8 * P + T) = v) (hge : N ≤ k) (h : zr sv L (n + 1) 220 16 lf [] g o) (hl0 : lf 0 = (4, 253)) (hl1 : lf 1 = (0, (W : Int))) (hl2 : lf 2 = (0, (P : Int))) (hl3 : lf 3 = (0, (Q : Int))) (hl4 : lf 4 = (0, (T : Int))) (hl5 : lf 5 = (0, (k : Int))) : ((v = (Q : Int)) ∧ (∃ g_1 r_1, zr sv L n 224 0 (darg 0 [(4, 253), (0, (W : Int)), (0, (P : Int)), (0, (Q : Int)), (0, (T : Int))]) [] g (g_1, some (0, r_1)) ∧ (((r_1 ≤ g_1 254 (15 + 6 * W)) ∧ (o = (g_1, some (0, 0)))) ∨ ((g_1 254 (15 + 6 * W) < r_1) ∧ (o = (g_1, some (0, 5))))))) ∨ ((v ≠ (Q : Int) ∧ v = (-1)) ∧ (∃ lf', lf' 0 = (4, 253) ∧ lf' 1 = (0, (W : Int)) ∧ lf' 2 = (0, (P : Int)) ∧ lf' 3 = (0, (Q : Int)) ∧ lf' 4 = (0, (T : Int)) ∧ lf' 5 = (0, 0) ∧ zr sv L n 220 92 lf' [] g o)) ∨ ((v ≠ (Q : Int) ∧ v ≠ (-1)) ∧ (∃ g_1 r_1, zr sv L n 222 0 (darg 0 [(4, 253), (0, (P : Int))]) [] g (g_1, some (0, r_1)) ∧ (((r_1 ≠ 0) ∧ (∃ lf', lf' 0 = (4, 253) ∧ lf' 1 = (0, (W : Int)) ∧ lf' 2 = (0, (P : Int)) ∧ lf' 3 = (0, (Q : Int)) ∧ lf' 4 = (0, (T : Int)) ∧ lf' 5 = (0, 0) ∧ zr sv L n 220 92 lf' [] g_1 o)) ∨ ((r_1 = 0) ∧ (o = (g_1, some (0, 3))))))) := by
  rw [zov hl0, zov hl1, zov hl2, zov hl3, zov hl4, zov hl5] at h
  have h := zm1 zy_220 h 5 (q := (cond (crel .ge ((k : Int)) (g 254 2)) 57 27, dset (dset (dset (dset (dset (dset lf 5 (0, (k : Int))) 4 (0, (T : Int))) 3 (0, (Q : Int))) 2 (0, (P : Int))) 1 (0, (W : Int))) 0 (4, 253), [], g)) rfl
  dsimp only at h
  try rw [hN] at h
  rcases zif_ge h with ⟨hc1, h⟩ | ⟨hc1, h⟩
  · have h := zm zy_220 h 3 (q := (61, dset (dset (dset (dset (dset (dset lf 5 (0, (k : Int))) 4 (0, (T : Int))) 3 (0, (Q : Int))) 2 (0, (P : Int))) 1 (0, (W : Int))) 0 (4, 253), [(0, (T : Int)), (0, (P : Int)), (4, 253)], g)) rfl
    dsimp only at h
    obtain ⟨gz2, rz3, hk, h⟩ := zcallI zy_220 h rfl rfl zy_205 zk_205
    dsimp only at hk h
    have hO4 := h
    have h := hk
    clear hk
    have h := zm zy_205 h 9 (q := (13, darg 0 [(4, 253), (0, (P : Int)), (0, (T : Int))], [(0, w32 ((w32 (51 + (w32 (8 * ((P : Int)))))) + ((T : Int)))), (4, 254)], g)) rfl
    dsimp only at h
    try rw [w32_eq (z := 8 * ((P : Int))) (v := 8 * (P : Int)) (by omega) (by omega) (by omega)] at h
    try rw [w32_eq (z := 51 + (8 * (P : Int))) (v := 51 + 8 * (P : Int)) (by omega) (by omega) (by omega)] at h
    try rw [w32_eq (z := (51 + 8 * (P : Int)) + ((T : Int))) (v := 51 + 8 * (P : Int) + (T : Int)) (by omega) (by omega) (by omega)] at h
    have h := zald zy_205 h rfl rfl (dvb_254 (i := 51 + 8 * (P : Int) + (T : Int)) (by omega) (by omega))
    dsimp only at h
    try rw [show (51 + 8 * (P : Int) + (T : Int)).toNat = 51 + 8 * P + T from by omega] at h
    try rw [hv] at h
    have h := zret zy_205 h rfl rfl
    obtain ⟨e1, e2⟩ := oI h
    have h := hO4
    rw [e1, e2] at h
    clear e1 e2
    clear hO4
    have h := zm zy_220 h 2 (q := (cond (crel .eq v ((Q : Int))) 144 68, dset (dset (dset (dset (dset (dset lf 5 (0, (k : Int))) 4 (0, (T : Int))) 3 (0, (Q : Int))) 2 (0, (P : Int))) 1 (0, (W : Int))) 0 (4, 253), [], g)) rfl
    dsimp only at h
    rcases zif_eq h with ⟨hc5, h⟩ | ⟨hc5, h⟩
    · have h := zm zy_220 h 5 (q := (150, dset (dset (dset (dset (dset (dset lf 5 (0, (k : Int))) 4 (0, (T : Int))) 3 (0, (Q : Int))) 2 (0, (P : Int))) 1 (0, (W : Int))) 0 (4, 253), [(0, (T : Int)), (0, (Q : Int)), (0, (P : Int)), (0, (W : Int)), (4, 253)], g)) rfl
      dsimp only at h
      obtain ⟨g_1, r_1, hk, h⟩ := zcallI zy_220 h rfl rfl zy_224 zk_224
      dsimp only at hk h
      refine Or.inl (⟨hc5, ?_⟩)
      refine ⟨g_1, r_1, hk, ?_⟩
      have h := zm zy_220 h 3 (q := (158, dset (dset (dset (dset (dset (dset lf 5 (0, (k : Int))) 4 (0, (T : Int))) 3 (0, (Q : Int))) 2 (0, (P : Int))) 1 (0, (W : Int))) 0 (4, 253), [(0, (W : Int)), (4, 254), (0, r_1)], g_1)) rfl
      dsimp only at h
      obtain ⟨gz6, rz7, hk, h⟩ := zcallI zy_220 h rfl rfl zy_209 zk_209
      dsimp only at hk h
      have hO8 := h
      have h := hk
      clear hk
      have h := zm zy_209 h 5 (q := (7, darg 0 [(0, (W : Int))], [(0, w32 (15 + (w32 (6 * ((W : Int))))))], g_1)) rfl
      dsimp only at h
      try rw [w32_eq (z := 6 * ((W : Int))) (v := 6 * (W : Int)) (by omega) (by omega) (by omega)] at h
      try rw [w32_eq (z := 15 + (6 * (W : Int))) (v := 15 + 6 * (W : Int)) (by omega) (by omega) (by omega)] at h
      have h := zret zy_209 h rfl rfl
      obtain ⟨e1, e2⟩ := oI h
      have h := hO8
      rw [e1, e2] at h
      clear e1 e2
      clear hO8
      have h := zald zy_220 h rfl rfl (dvb_254 (i := 15 + 6 * (W : Int)) (by omega) (by omega))
      dsimp only at h
      try rw [show (15 + 6 * (W : Int)).toNat = 15 + 6 * W from by omega] at h
      have h := zm zy_220 h 1 (q := (cond (crel .le r_1 (g_1 254 (15 + 6 * W))) 169 165, dset (dset (dset (dset (dset (dset lf 5 (0, (k : Int))) 4 (0, (T : Int))) 3 (0, (Q : Int))) 2 (0, (P : Int))) 1 (0, (W : Int))) 0 (4, 253), [], g_1)) rfl
      dsimp only at h
      rcases zif_le h with ⟨hc9, h⟩ | ⟨hc9, h⟩
      · have h := zm zy_220 h 1 (q := (170, dset (dset (dset (dset (dset (dset lf 5 (0, (k : Int))) 4 (0, (T : Int))) 3 (0, (Q : Int))) 2 (0, (P : Int))) 1 (0, (W : Int))) 0 (4, 253), [(0, 0)], g_1)) rfl
        dsimp only at h
        refine Or.inl (⟨hc9, ?_⟩)
        exact zret zy_220 h rfl rfl
      · have h := zm zy_220 h 2 (q := (170, dset (dset (dset (dset (dset (dset lf 5 (0, (k : Int))) 4 (0, (T : Int))) 3 (0, (Q : Int))) 2 (0, (P : Int))) 1 (0, (W : Int))) 0 (4, 253), [(0, 5)], g_1)) rfl
        dsimp only at h
        refine Or.inr (⟨hc9, ?_⟩)
        exact zret zy_220 h rfl rfl
    · have h := zm zy_220 h 3 (q := (72, dset (dset (dset (dset (dset (dset lf 5 (0, (k : Int))) 4 (0, (T : Int))) 3 (0, (Q : Int))) 2 (0, (P : Int))) 1 (0, (W : Int))) 0 (4, 253), [(0, (T : Int)), (0, (P : Int)), (4, 253)], g)) rfl
      dsimp only at h
      obtain ⟨gz10, rz11, hk, h⟩ := zcallI zy_220 h rfl rfl zy_205 zk_205
      dsimp only at hk h
      have hO12 := h
      have h := hk
      clear hk
      have h := zm zy_205 h 9 (q := (13, darg 0 [(4, 253), (0, (P : Int)), (0, (T : Int))], [(0, w32 ((w32 (51 + (w32 (8 * ((P : Int)))))) + ((T : Int)))), (4, 254)], g)) rfl
      dsimp only at h
      try rw [w32_eq (z := 8 * ((P : Int))) (v := 8 * (P : Int)) (by omega) (by omega) (by omega)] at h
      try rw [w32_eq (z := 51 + (8 * (P : Int))) (v := 51 + 8 * (P : Int)) (by omega) (by omega) (by omega)] at h
      try rw [w32_eq (z := (51 + 8 * (P : Int)) + ((T : Int))) (v := 51 + 8 * (P : Int) + (T : Int)) (by omega) (by omega) (by omega)] at h
      have h := zald zy_205 h rfl rfl (dvb_254 (i := 51 + 8 * (P : Int) + (T : Int)) (by omega) (by omega))
      dsimp only at h
      try rw [show (51 + 8 * (P : Int) + (T : Int)).toNat = 51 + 8 * P + T from by omega] at h
      try rw [hv] at h
      have h := zret zy_205 h rfl rfl
      obtain ⟨e1, e2⟩ := oI h
      have h := hO12
      rw [e1, e2] at h
      clear e1 e2
      clear hO12
      have h := zm zy_220 h 2 (q := (cond (crel .eq v ((-1))) 89 79, dset (dset (dset (dset (dset (dset lf 5 (0, (k : Int))) 4 (0, (T : Int))) 3 (0, (Q : Int))) 2 (0, (P : Int))) 1 (0, (W : Int))) 0 (4, 253), [], g)) rfl
      dsimp only at h
      rcases zif_eq h with ⟨hc13, h⟩ | ⟨hc13, h⟩
      · have h := zm zy_220 h 2 (q := (92, dset (dset (dset (dset (dset (dset (dset lf 5 (0, (k : Int))) 4 (0, (T : Int))) 3 (0, (Q : Int))) 2 (0, (P : Int))) 1 (0, (W : Int))) 0 (4, 253)) 5 (0, 0), [], g)) rfl
        dsimp only at h
        refine Or.inr (Or.inl (⟨⟨hc5, hc13⟩, ?_⟩))
        exact ⟨_, rfl, rfl, rfl, rfl, rfl, rfl, h⟩
      · have h := zm zy_220 h 2 (q := (81, dset (dset (dset (dset (dset (dset lf 5 (0, (k : Int))) 4 (0, (T : Int))) 3 (0, (Q : Int))) 2 (0, (P : Int))) 1 (0, (W : Int))) 0 (4, 253), [(0, (P : Int)), (4, 253)], g)) rfl
        dsimp only at h
        obtain ⟨g_1, r_1, hk, h⟩ := zcallI zy_220 h rfl rfl zy_222 zk_222
        dsimp only at hk h
        refine Or.inr (Or.inr (⟨⟨hc5, hc13⟩, ?_⟩))
        refine ⟨g_1, r_1, hk, ?_⟩
        have h := zm zy_220 h 1 (q := (cond (crel .ne r_1 0) 89 87, dset (dset (dset (dset (dset (dset lf 5 (0, (k : Int))) 4 (0, (T : Int))) 3 (0, (Q : Int))) 2 (0, (P : Int))) 1 (0, (W : Int))) 0 (4, 253), [], g_1)) rfl
        dsimp only at h
        rcases zif_ne h with ⟨hc15, h⟩ | ⟨hc15, h⟩
        · have h := zm zy_220 h 2 (q := (92, dset (dset (dset (dset (dset (dset (dset lf 5 (0, (k : Int))) 4 (0, (T : Int))) 3 (0, (Q : Int))) 2 (0, (P : Int))) 1 (0, (W : Int))) 0 (4, 253)) 5 (0, 0), [], g_1)) rfl
          dsimp only at h
          refine Or.inl (⟨hc15, ?_⟩)
          exact ⟨_, rfl, rfl, rfl, rfl, rfl, rfl, h⟩
        · have h := zm zy_220 h 1 (q := (88, dset (dset (dset (dset (dset (dset lf 5 (0, (k : Int))) 4 (0, (T : Int))) 3 (0, (Q : Int))) 2 (0, (P : Int))) 1 (0, (W : Int))) 0 (4, 253), [(0, 3)], g_1)) rfl
          dsimp only at h
          refine Or.inr (⟨hc15, ?_⟩)
          exact zret zy_220 h rfl rfl
  · exact absurd hc1 (by omega)
theorem m_why16s {sv : Nat → Int32} {L n : Nat} {lf : dlf} {g : cg} {o : cg × Option cv} {W P Q T w p q t k N : Nat} {f s b : Int} (rW : W ≤ 5) (rP : P ≤ 5) (rQ : Q ≤ 4) (rT : T ≤ 7) (rw : w ≤ 5) (rp : p ≤ 5) (rq : q ≤ 4) (rt : t ≤ 7) (rk : k ≤ 15) (rN : N ≤ 16) (hN : g 254 2 = (N : Int)) (hO : OHM g k w p q t f s b) (hlt : k < N) (h : zr sv L (n + 1) 220 16 lf [] g o) (hl0 : lf 0 = (4, 253)) (hl1 : lf 1 = (0, (W : Int))) (hl2 : lf 2 = (0, (P : Int))) (hl3 : lf 3 = (0, (Q : Int))) (hl4 : lf 4 = (0, (T : Int))) (hl5 : lf 5 = (0, (k : Int))) : (((s ≠ 0) ∨ (s = 0 ∧ (p : Int) ≠ (P : Int)) ∨ (s = 0 ∧ (p : Int) = (P : Int) ∧ (t : Int) ≠ (T : Int)) ∨ (s = 0 ∧ (p : Int) = (P : Int) ∧ (t : Int) = (T : Int) ∧ (w : Int) ≠ (W : Int))) ∧ (∃ lf', lf' 0 = (4, 253) ∧ lf' 1 = (0, (W : Int)) ∧ lf' 2 = (0, (P : Int)) ∧ lf' 3 = (0, (Q : Int)) ∧ lf' 4 = (0, (T : Int)) ∧ lf' 5 = (0, 1 + (k : Int)) ∧ zr sv L n 220 16 lf' [] g o)) ∨ ((s = 0 ∧ (p : Int) = (P : Int) ∧ (t : Int) = (T : Int) ∧ (w : Int) = (W : Int)) ∧ (o = (g, some (0, 2)))) := by
  rw [zov hl0, zov hl1, zov hl2, zov hl3, zov hl4, zov hl5] at h
  have h := zm1 zy_220 h 5 (q := (cond (crel .ge ((k : Int)) (g 254 2)) 57 27, dset (dset (dset (dset (dset (dset lf 5 (0, (k : Int))) 4 (0, (T : Int))) 3 (0, (Q : Int))) 2 (0, (P : Int))) 1 (0, (W : Int))) 0 (4, 253), [], g)) rfl
  dsimp only at h
  try rw [hN] at h
  rcases zif_ge h with ⟨hc1, h⟩ | ⟨hc1, h⟩
  · exact absurd hc1 (by omega)
  · have h := zm zy_220 h 4 (q := (33, dset (dset (dset (dset (dset (dset lf 5 (0, (k : Int))) 4 (0, (T : Int))) 3 (0, (Q : Int))) 2 (0, (P : Int))) 1 (0, (W : Int))) 0 (4, 253), [(0, (T : Int)), (0, (P : Int)), (0, (k : Int)), (4, 253)], g)) rfl
    dsimp only at h
    obtain ⟨gz2, rz3, hk, h⟩ := zcallI zy_220 h rfl rfl zy_221 zk_221
    dsimp only at hk h
    have hO4 := h
    have h := hk
    clear hk
    have h := zm zy_221 h 2 (q := (2, darg 0 [(4, 253), (0, (k : Int)), (0, (P : Int)), (0, (T : Int))], [(0, (k : Int)), (4, 253)], g)) rfl
    dsimp only at h
    obtain ⟨gz5, rz6, hk, h⟩ := zcallI zy_221 h rfl rfl zy_201 zk_201
    dsimp only at hk h
    have hO7 := h
    have h := hk
    clear hk
    have h := zm zy_201 h 3 (q := (5, darg 0 [(4, 253), (0, (k : Int))], [(0, (k : Int)), (4, 254)], g)) rfl
    dsimp only at h
    obtain ⟨gz8, rz9, hk, h⟩ := zcallI zy_201 h rfl rfl zy_199 zk_199
    dsimp only at hk h
    have hO10 := h
    have h := hk
    clear hk
    have h := zm zy_199 h 5 (q := (7, darg 0 [(0, (k : Int))], [(0, w32 (99 + (w32 (8 * ((k : Int))))))], g)) rfl
    dsimp only at h
    try rw [w32_eq (z := 8 * ((k : Int))) (v := 8 * (k : Int)) (by omega) (by omega) (by omega)] at h
    try rw [w32_eq (z := 99 + (8 * (k : Int))) (v := 99 + 8 * (k : Int)) (by omega) (by omega) (by omega)] at h
    have h := zret zy_199 h rfl rfl
    obtain ⟨e1, e2⟩ := oI h
    have h := hO10
    rw [e1, e2] at h
    clear e1 e2
    clear hO10
    have h := zm zy_201 h 2 (q := (10, darg 0 [(4, 253), (0, (k : Int))], [(0, w32 ((99 + 8 * (k : Int)) + 5)), (4, 254)], g)) rfl
    dsimp only at h
    try rw [w32_eq (z := (99 + 8 * (k : Int)) + 5) (v := 104 + 8 * (k : Int)) (by omega) (by omega) (by omega)] at h
    have h := zald zy_201 h rfl rfl (dvb_254 (i := 104 + 8 * (k : Int)) (by omega) (by omega))
    dsimp only at h
    try rw [show (104 + 8 * (k : Int)).toNat = 104 + 8 * k from by omega] at h
    try rw [hO.2.2.2.2.2.1] at h
    have h := zm zy_201 h 1 (q := (cond (crel .ne s 0) 18 14, darg 0 [(4, 253), (0, (k : Int))], [], g)) rfl
    dsimp only at h
    rcases zif_ne h with ⟨hc11, h⟩ | ⟨hc11, h⟩
    · have h := zm zy_201 h 1 (q := (19, darg 0 [(4, 253), (0, (k : Int))], [(0, 0)], g)) rfl
      dsimp only at h
      have h := zret zy_201 h rfl rfl
      obtain ⟨e1, e2⟩ := oI h
      have h := hO7
      rw [e1, e2] at h
      clear e1 e2
      clear hO7
      have h := zm zy_221 h 2 (q := (31, darg 0 [(4, 253), (0, (k : Int)), (0, (P : Int)), (0, (T : Int))], [(0, 0)], g)) rfl
      dsimp only at h
      have h := zret zy_221 h rfl rfl
      obtain ⟨e1, e2⟩ := oI h
      have h := hO4
      rw [e1, e2] at h
      clear e1 e2
      clear hO4
      have h := zm zy_220 h 3 (q := (16, dset (dset (dset (dset (dset (dset (dset lf 5 (0, (k : Int))) 4 (0, (T : Int))) 3 (0, (Q : Int))) 2 (0, (P : Int))) 1 (0, (W : Int))) 0 (4, 253)) 5 (0, w32 (((k : Int)) + 1)), [], g)) rfl
      dsimp only at h
      try rw [w32_eq (z := ((k : Int)) + 1) (v := 1 + (k : Int)) (by omega) (by omega) (by omega)] at h
      refine Or.inl (⟨Or.inl (hc11), ?_⟩)
      exact ⟨_, rfl, rfl, rfl, rfl, rfl, rfl, h⟩
    · have h := zm zy_201 h 2 (q := (19, darg 0 [(4, 253), (0, (k : Int))], [(0, 1)], g)) rfl
      dsimp only at h
      have h := zret zy_201 h rfl rfl
      obtain ⟨e1, e2⟩ := oI h
      have h := hO7
      rw [e1, e2] at h
      clear e1 e2
      clear hO7
      have h := zm zy_221 h 3 (q := (10, darg 0 [(4, 253), (0, (k : Int)), (0, (P : Int)), (0, (T : Int))], [(0, (k : Int)), (4, 253)], g)) rfl
      dsimp only at h
      obtain ⟨gz13, rz14, hk, h⟩ := zcallI zy_221 h rfl rfl zy_203 zk_203
      dsimp only at hk h
      have hO15 := h
      have h := hk
      clear hk
      have h := zm zy_203 h 3 (q := (5, darg 0 [(4, 253), (0, (k : Int))], [(0, (k : Int)), (4, 254)], g)) rfl
      dsimp only at h
      obtain ⟨gz16, rz17, hk, h⟩ := zcallI zy_203 h rfl rfl zy_199 zk_199
      dsimp only at hk h
      have hO18 := h
      have h := hk
      clear hk
      have h := zm zy_199 h 5 (q := (7, darg 0 [(0, (k : Int))], [(0, w32 (99 + (w32 (8 * ((k : Int))))))], g)) rfl
      dsimp only at h
      try rw [w32_eq (z := 8 * ((k : Int))) (v := 8 * (k : Int)) (by omega) (by omega) (by omega)] at h
      try rw [w32_eq (z := 99 + (8 * (k : Int))) (v := 99 + 8 * (k : Int)) (by omega) (by omega) (by omega)] at h
      have h := zret zy_199 h rfl rfl
      obtain ⟨e1, e2⟩ := oI h
      have h := hO18
      rw [e1, e2] at h
      clear e1 e2
      clear hO18
      have h := zm zy_203 h 2 (q := (10, darg 0 [(4, 253), (0, (k : Int))], [(0, w32 ((99 + 8 * (k : Int)) + 1)), (4, 254)], g)) rfl
      dsimp only at h
      try rw [w32_eq (z := (99 + 8 * (k : Int)) + 1) (v := 100 + 8 * (k : Int)) (by omega) (by omega) (by omega)] at h
      have h := zald zy_203 h rfl rfl (dvb_254 (i := 100 + 8 * (k : Int)) (by omega) (by omega))
      dsimp only at h
      try rw [show (100 + 8 * (k : Int)).toNat = 100 + 8 * k from by omega] at h
      try rw [hO.2.1] at h
      have h := zret zy_203 h rfl rfl
      obtain ⟨e1, e2⟩ := oI h
      have h := hO15
      rw [e1, e2] at h
      clear e1 e2
      clear hO15
      have h := zm zy_221 h 2 (q := (cond (crel .ne ((p : Int)) ((P : Int))) 30 17, darg 0 [(4, 253), (0, (k : Int)), (0, (P : Int)), (0, (T : Int))], [], g)) rfl
      dsimp only at h
      rcases zif_ne h with ⟨hc19, h⟩ | ⟨hc19, h⟩
      · have h := zm zy_221 h 1 (q := (31, darg 0 [(4, 253), (0, (k : Int)), (0, (P : Int)), (0, (T : Int))], [(0, 0)], g)) rfl
        dsimp only at h
        have h := zret zy_221 h rfl rfl
        obtain ⟨e1, e2⟩ := oI h
        have h := hO4
        rw [e1, e2] at h
        clear e1 e2
        clear hO4
        have h := zm zy_220 h 3 (q := (16, dset (dset (dset (dset (dset (dset (dset lf 5 (0, (k : Int))) 4 (0, (T : Int))) 3 (0, (Q : Int))) 2 (0, (P : Int))) 1 (0, (W : Int))) 0 (4, 253)) 5 (0, w32 (((k : Int)) + 1)), [], g)) rfl
        dsimp only at h
        try rw [w32_eq (z := ((k : Int)) + 1) (v := 1 + (k : Int)) (by omega) (by omega) (by omega)] at h
        refine Or.inl (⟨Or.inr (Or.inl (⟨hc11, hc19⟩)), ?_⟩)
        exact ⟨_, rfl, rfl, rfl, rfl, rfl, rfl, h⟩
      · have h := zm zy_221 h 2 (q := (19, darg 0 [(4, 253), (0, (k : Int)), (0, (P : Int)), (0, (T : Int))], [(0, (k : Int)), (4, 253)], g)) rfl
        dsimp only at h
        obtain ⟨gz21, rz22, hk, h⟩ := zcallI zy_221 h rfl rfl zy_204 zk_204
        dsimp only at hk h
        have hO23 := h
        have h := hk
        clear hk
        have h := zm zy_204 h 3 (q := (5, darg 0 [(4, 253), (0, (k : Int))], [(0, (k : Int)), (4, 254)], g)) rfl
        dsimp only at h
        obtain ⟨gz24, rz25, hk, h⟩ := zcallI zy_204 h rfl rfl zy_199 zk_199
        dsimp only at hk h
        have hO26 := h
        have h := hk
        clear hk
        have h := zm zy_199 h 5 (q := (7, darg 0 [(0, (k : Int))], [(0, w32 (99 + (w32 (8 * ((k : Int))))))], g)) rfl
        dsimp only at h
        try rw [w32_eq (z := 8 * ((k : Int))) (v := 8 * (k : Int)) (by omega) (by omega) (by omega)] at h
        try rw [w32_eq (z := 99 + (8 * (k : Int))) (v := 99 + 8 * (k : Int)) (by omega) (by omega) (by omega)] at h
        have h := zret zy_199 h rfl rfl
        obtain ⟨e1, e2⟩ := oI h
        have h := hO26
        rw [e1, e2] at h
        clear e1 e2
        clear hO26
        have h := zm zy_204 h 2 (q := (10, darg 0 [(4, 253), (0, (k : Int))], [(0, w32 ((99 + 8 * (k : Int)) + 3)), (4, 254)], g)) rfl
        dsimp only at h
        try rw [w32_eq (z := (99 + 8 * (k : Int)) + 3) (v := 102 + 8 * (k : Int)) (by omega) (by omega) (by omega)] at h
        have h := zald zy_204 h rfl rfl (dvb_254 (i := 102 + 8 * (k : Int)) (by omega) (by omega))
        dsimp only at h
        try rw [show (102 + 8 * (k : Int)).toNat = 102 + 8 * k from by omega] at h
        try rw [hO.2.2.2.1] at h
        have h := zret zy_204 h rfl rfl
        obtain ⟨e1, e2⟩ := oI h
        have h := hO23
        rw [e1, e2] at h
        clear e1 e2
        clear hO23
        have h := zm zy_221 h 2 (q := (cond (crel .ne ((t : Int)) ((T : Int))) 30 26, darg 0 [(4, 253), (0, (k : Int)), (0, (P : Int)), (0, (T : Int))], [], g)) rfl
        dsimp only at h
        rcases zif_ne h with ⟨hc27, h⟩ | ⟨hc27, h⟩
        · have h := zm zy_221 h 1 (q := (31, darg 0 [(4, 253), (0, (k : Int)), (0, (P : Int)), (0, (T : Int))], [(0, 0)], g)) rfl
          dsimp only at h
          have h := zret zy_221 h rfl rfl
          obtain ⟨e1, e2⟩ := oI h
          have h := hO4
          rw [e1, e2] at h
          clear e1 e2
          clear hO4
          have h := zm zy_220 h 3 (q := (16, dset (dset (dset (dset (dset (dset (dset lf 5 (0, (k : Int))) 4 (0, (T : Int))) 3 (0, (Q : Int))) 2 (0, (P : Int))) 1 (0, (W : Int))) 0 (4, 253)) 5 (0, w32 (((k : Int)) + 1)), [], g)) rfl
          dsimp only at h
          try rw [w32_eq (z := ((k : Int)) + 1) (v := 1 + (k : Int)) (by omega) (by omega) (by omega)] at h
          refine Or.inl (⟨Or.inr (Or.inr (Or.inl (⟨hc11, hc19, hc27⟩))), ?_⟩)
          exact ⟨_, rfl, rfl, rfl, rfl, rfl, rfl, h⟩
        · have h := zm zy_221 h 2 (q := (31, darg 0 [(4, 253), (0, (k : Int)), (0, (P : Int)), (0, (T : Int))], [(0, 1)], g)) rfl
          dsimp only at h
          have h := zret zy_221 h rfl rfl
          obtain ⟨e1, e2⟩ := oI h
          have h := hO4
          rw [e1, e2] at h
          clear e1 e2
          clear hO4
          have h := zm zy_220 h 3 (q := (42, dset (dset (dset (dset (dset (dset lf 5 (0, (k : Int))) 4 (0, (T : Int))) 3 (0, (Q : Int))) 2 (0, (P : Int))) 1 (0, (W : Int))) 0 (4, 253), [(0, (k : Int)), (4, 253)], g)) rfl
          dsimp only at h
          obtain ⟨gz29, rz30, hk, h⟩ := zcallI zy_220 h rfl rfl zy_211 zk_211
          dsimp only at hk h
          have hO31 := h
          have h := hk
          clear hk
          have h := zm zy_211 h 3 (q := (5, darg 0 [(4, 253), (0, (k : Int))], [(0, (k : Int)), (4, 254)], g)) rfl
          dsimp only at h
          obtain ⟨gz32, rz33, hk, h⟩ := zcallI zy_211 h rfl rfl zy_199 zk_199
          dsimp only at hk h
          have hO34 := h
          have h := hk
          clear hk
          have h := zm zy_199 h 5 (q := (7, darg 0 [(0, (k : Int))], [(0, w32 (99 + (w32 (8 * ((k : Int))))))], g)) rfl
          dsimp only at h
          try rw [w32_eq (z := 8 * ((k : Int))) (v := 8 * (k : Int)) (by omega) (by omega) (by omega)] at h
          try rw [w32_eq (z := 99 + (8 * (k : Int))) (v := 99 + 8 * (k : Int)) (by omega) (by omega) (by omega)] at h
          have h := zret zy_199 h rfl rfl
          obtain ⟨e1, e2⟩ := oI h
          have h := hO34
          rw [e1, e2] at h
          clear e1 e2
          clear hO34
          have h := zald zy_211 h rfl rfl (dvb_254 (i := 99 + 8 * (k : Int)) (by omega) (by omega))
          dsimp only at h
          try rw [show (99 + 8 * (k : Int)).toNat = 99 + 8 * k from by omega] at h
          try rw [hO.1] at h
          have h := zret zy_211 h rfl rfl
          obtain ⟨e1, e2⟩ := oI h
          have h := hO31
          rw [e1, e2] at h
          clear e1 e2
          clear hO31
          have h := zm zy_220 h 2 (q := (cond (crel .ne ((w : Int)) ((W : Int))) 51 49, dset (dset (dset (dset (dset (dset lf 5 (0, (k : Int))) 4 (0, (T : Int))) 3 (0, (Q : Int))) 2 (0, (P : Int))) 1 (0, (W : Int))) 0 (4, 253), [], g)) rfl
          dsimp only at h
          rcases zif_ne h with ⟨hc35, h⟩ | ⟨hc35, h⟩
          · have h := zm zy_220 h 2 (q := (16, dset (dset (dset (dset (dset (dset (dset lf 5 (0, (k : Int))) 4 (0, (T : Int))) 3 (0, (Q : Int))) 2 (0, (P : Int))) 1 (0, (W : Int))) 0 (4, 253)) 5 (0, w32 (((k : Int)) + 1)), [], g)) rfl
            dsimp only at h
            try rw [w32_eq (z := ((k : Int)) + 1) (v := 1 + (k : Int)) (by omega) (by omega) (by omega)] at h
            refine Or.inl (⟨Or.inr (Or.inr (Or.inr (⟨hc11, hc19, hc27, hc35⟩))), ?_⟩)
            exact ⟨_, rfl, rfl, rfl, rfl, rfl, rfl, h⟩
          · have h := zm zy_220 h 1 (q := (50, dset (dset (dset (dset (dset (dset lf 5 (0, (k : Int))) 4 (0, (T : Int))) 3 (0, (Q : Int))) 2 (0, (P : Int))) 1 (0, (W : Int))) 0 (4, 253), [(0, 2)], g)) rfl
            dsimp only at h
            refine Or.inr (⟨⟨hc11, hc19, hc27, hc35⟩, ?_⟩)
            exact zret zy_220 h rfl rfl
theorem m_why92s {sv : Nat → Int32} {L n : Nat} {lf : dlf} {g : cg} {o : cg × Option cv} {W P Q T w p q t k N : Nat} {f s b v fr : Int} (rW : W ≤ 5) (rP : P ≤ 5) (rQ : Q ≤ 4) (rT : T ≤ 7) (rw : w ≤ 5) (rp : p ≤ 5) (rq : q ≤ 4) (rt : t ≤ 7) (rk : k ≤ 15) (rN : N ≤ 16) (hN : g 254 2 = (N : Int)) (hO : OHM g k w p q t f s b) (hv : g 254 (51 + 8 * p + t) = v) (hfr : g 254 (19 + 6 * W) = fr) (hlt : k < N) (h : zr sv L (n + 1) 220 92 lf [] g o) (hl0 : lf 0 = (4, 253)) (hl1 : lf 1 = (0, (W : Int))) (hl2 : lf 2 = (0, (P : Int))) (hl3 : lf 3 = (0, (Q : Int))) (hl4 : lf 4 = (0, (T : Int))) (hl5 : lf 5 = (0, (k : Int))) : (((s ≠ 0) ∨ (s = 0 ∧ v ≠ (q : Int) ∧ (p : Int) ≠ (P : Int)) ∨ (s = 0 ∧ v ≠ (q : Int) ∧ (p : Int) = (P : Int) ∧ ban (bsr fr ((w : Int))) 1 ≠ 1) ∨ (s = 0 ∧ v = (q : Int))) ∧ (∃ lf', lf' 0 = (4, 253) ∧ lf' 1 = (0, (W : Int)) ∧ lf' 2 = (0, (P : Int)) ∧ lf' 3 = (0, (Q : Int)) ∧ lf' 4 = (0, (T : Int)) ∧ lf' 5 = (0, 1 + (k : Int)) ∧ zr sv L n 220 92 lf' [] g o)) ∨ ((s = 0 ∧ v ≠ (q : Int) ∧ (p : Int) = (P : Int) ∧ ban (bsr fr ((w : Int))) 1 = 1) ∧ (o = (g, some (0, 4)))) := by
  rw [zov hl0, zov hl1, zov hl2, zov hl3, zov hl4, zov hl5] at h
  have h := zm1 zy_220 h 5 (q := (cond (crel .ge ((k : Int)) (g 254 2)) 144 103, dset (dset (dset (dset (dset (dset lf 5 (0, (k : Int))) 4 (0, (T : Int))) 3 (0, (Q : Int))) 2 (0, (P : Int))) 1 (0, (W : Int))) 0 (4, 253), [], g)) rfl
  dsimp only at h
  try rw [hN] at h
  rcases zif_ge h with ⟨hc1, h⟩ | ⟨hc1, h⟩
  · exact absurd hc1 (by omega)
  · have h := zm zy_220 h 2 (q := (106, dset (dset (dset (dset (dset (dset lf 5 (0, (k : Int))) 4 (0, (T : Int))) 3 (0, (Q : Int))) 2 (0, (P : Int))) 1 (0, (W : Int))) 0 (4, 253), [(0, (k : Int)), (4, 253)], g)) rfl
    dsimp only at h
    obtain ⟨gz2, rz3, hk, h⟩ := zcallI zy_220 h rfl rfl zy_200 zk_200
    dsimp only at hk h
    have hO4 := h
    have h := hk
    clear hk
    have h := zm zy_200 h 2 (q := (2, darg 0 [(4, 253), (0, (k : Int))], [(0, (k : Int)), (4, 253)], g)) rfl
    dsimp only at h
    obtain ⟨gz5, rz6, hk, h⟩ := zcallI zy_200 h rfl rfl zy_201 zk_201
    dsimp only at hk h
    have hO7 := h
    have h := hk
    clear hk
    have h := zm zy_201 h 3 (q := (5, darg 0 [(4, 253), (0, (k : Int))], [(0, (k : Int)), (4, 254)], g)) rfl
    dsimp only at h
    obtain ⟨gz8, rz9, hk, h⟩ := zcallI zy_201 h rfl rfl zy_199 zk_199
    dsimp only at hk h
    have hO10 := h
    have h := hk
    clear hk
    have h := zm zy_199 h 5 (q := (7, darg 0 [(0, (k : Int))], [(0, w32 (99 + (w32 (8 * ((k : Int))))))], g)) rfl
    dsimp only at h
    try rw [w32_eq (z := 8 * ((k : Int))) (v := 8 * (k : Int)) (by omega) (by omega) (by omega)] at h
    try rw [w32_eq (z := 99 + (8 * (k : Int))) (v := 99 + 8 * (k : Int)) (by omega) (by omega) (by omega)] at h
    have h := zret zy_199 h rfl rfl
    obtain ⟨e1, e2⟩ := oI h
    have h := hO10
    rw [e1, e2] at h
    clear e1 e2
    clear hO10
    have h := zm zy_201 h 2 (q := (10, darg 0 [(4, 253), (0, (k : Int))], [(0, w32 ((99 + 8 * (k : Int)) + 5)), (4, 254)], g)) rfl
    dsimp only at h
    try rw [w32_eq (z := (99 + 8 * (k : Int)) + 5) (v := 104 + 8 * (k : Int)) (by omega) (by omega) (by omega)] at h
    have h := zald zy_201 h rfl rfl (dvb_254 (i := 104 + 8 * (k : Int)) (by omega) (by omega))
    dsimp only at h
    try rw [show (104 + 8 * (k : Int)).toNat = 104 + 8 * k from by omega] at h
    try rw [hO.2.2.2.2.2.1] at h
    have h := zm zy_201 h 1 (q := (cond (crel .ne s 0) 18 14, darg 0 [(4, 253), (0, (k : Int))], [], g)) rfl
    dsimp only at h
    rcases zif_ne h with ⟨hc11, h⟩ | ⟨hc11, h⟩
    · have h := zm zy_201 h 1 (q := (19, darg 0 [(4, 253), (0, (k : Int))], [(0, 0)], g)) rfl
      dsimp only at h
      have h := zret zy_201 h rfl rfl
      obtain ⟨e1, e2⟩ := oI h
      have h := hO7
      rw [e1, e2] at h
      clear e1 e2
      clear hO7
      have h := zm zy_200 h 2 (q := (21, darg 0 [(4, 253), (0, (k : Int))], [(0, 0)], g)) rfl
      dsimp only at h
      have h := zret zy_200 h rfl rfl
      obtain ⟨e1, e2⟩ := oI h
      have h := hO4
      rw [e1, e2] at h
      clear e1 e2
      clear hO4
      have h := zm zy_220 h 3 (q := (92, dset (dset (dset (dset (dset (dset (dset lf 5 (0, (k : Int))) 4 (0, (T : Int))) 3 (0, (Q : Int))) 2 (0, (P : Int))) 1 (0, (W : Int))) 0 (4, 253)) 5 (0, w32 (((k : Int)) + 1)), [], g)) rfl
      dsimp only at h
      try rw [w32_eq (z := ((k : Int)) + 1) (v := 1 + (k : Int)) (by omega) (by omega) (by omega)] at h
      refine Or.inl (⟨Or.inl (hc11), ?_⟩)
      exact ⟨_, rfl, rfl, rfl, rfl, rfl, rfl, h⟩
    · have h := zm zy_201 h 2 (q := (19, darg 0 [(4, 253), (0, (k : Int))], [(0, 1)], g)) rfl
      dsimp only at h
      have h := zret zy_201 h rfl rfl
      obtain ⟨e1, e2⟩ := oI h
      have h := hO7
      rw [e1, e2] at h
      clear e1 e2
      clear hO7
      have h := zm zy_200 h 3 (q := (10, darg 0 [(4, 253), (0, (k : Int))], [(0, (k : Int)), (4, 253)], g)) rfl
      dsimp only at h
      obtain ⟨gz13, rz14, hk, h⟩ := zcallI zy_200 h rfl rfl zy_202 zk_202
      dsimp only at hk h
      have hO15 := h
      have h := hk
      clear hk
      have h := zm zy_202 h 3 (q := (3, darg 0 [(4, 253), (0, (k : Int))], [(0, (k : Int)), (4, 253), (4, 253)], g)) rfl
      dsimp only at h
      obtain ⟨gz16, rz17, hk, h⟩ := zcallI zy_202 h rfl rfl zy_203 zk_203
      dsimp only at hk h
      have hO18 := h
      have h := hk
      clear hk
      have h := zm zy_203 h 3 (q := (5, darg 0 [(4, 253), (0, (k : Int))], [(0, (k : Int)), (4, 254)], g)) rfl
      dsimp only at h
      obtain ⟨gz19, rz20, hk, h⟩ := zcallI zy_203 h rfl rfl zy_199 zk_199
      dsimp only at hk h
      have hO21 := h
      have h := hk
      clear hk
      have h := zm zy_199 h 5 (q := (7, darg 0 [(0, (k : Int))], [(0, w32 (99 + (w32 (8 * ((k : Int))))))], g)) rfl
      dsimp only at h
      try rw [w32_eq (z := 8 * ((k : Int))) (v := 8 * (k : Int)) (by omega) (by omega) (by omega)] at h
      try rw [w32_eq (z := 99 + (8 * (k : Int))) (v := 99 + 8 * (k : Int)) (by omega) (by omega) (by omega)] at h
      have h := zret zy_199 h rfl rfl
      obtain ⟨e1, e2⟩ := oI h
      have h := hO21
      rw [e1, e2] at h
      clear e1 e2
      clear hO21
      have h := zm zy_203 h 2 (q := (10, darg 0 [(4, 253), (0, (k : Int))], [(0, w32 ((99 + 8 * (k : Int)) + 1)), (4, 254)], g)) rfl
      dsimp only at h
      try rw [w32_eq (z := (99 + 8 * (k : Int)) + 1) (v := 100 + 8 * (k : Int)) (by omega) (by omega) (by omega)] at h
      have h := zald zy_203 h rfl rfl (dvb_254 (i := 100 + 8 * (k : Int)) (by omega) (by omega))
      dsimp only at h
      try rw [show (100 + 8 * (k : Int)).toNat = 100 + 8 * k from by omega] at h
      try rw [hO.2.1] at h
      have h := zret zy_203 h rfl rfl
      obtain ⟨e1, e2⟩ := oI h
      have h := hO18
      rw [e1, e2] at h
      clear e1 e2
      clear hO18
      have h := zm zy_202 h 2 (q := (8, darg 0 [(4, 253), (0, (k : Int))], [(0, (k : Int)), (4, 253), (0, (p : Int)), (4, 253)], g)) rfl
      dsimp only at h
      obtain ⟨gz22, rz23, hk, h⟩ := zcallI zy_202 h rfl rfl zy_204 zk_204
      dsimp only at hk h
      have hO24 := h
      have h := hk
      clear hk
      have h := zm zy_204 h 3 (q := (5, darg 0 [(4, 253), (0, (k : Int))], [(0, (k : Int)), (4, 254)], g)) rfl
      dsimp only at h
      obtain ⟨gz25, rz26, hk, h⟩ := zcallI zy_204 h rfl rfl zy_199 zk_199
      dsimp only at hk h
      have hO27 := h
      have h := hk
      clear hk
      have h := zm zy_199 h 5 (q := (7, darg 0 [(0, (k : Int))], [(0, w32 (99 + (w32 (8 * ((k : Int))))))], g)) rfl
      dsimp only at h
      try rw [w32_eq (z := 8 * ((k : Int))) (v := 8 * (k : Int)) (by omega) (by omega) (by omega)] at h
      try rw [w32_eq (z := 99 + (8 * (k : Int))) (v := 99 + 8 * (k : Int)) (by omega) (by omega) (by omega)] at h
      have h := zret zy_199 h rfl rfl
      obtain ⟨e1, e2⟩ := oI h
      have h := hO27
      rw [e1, e2] at h
      clear e1 e2
      clear hO27
      have h := zm zy_204 h 2 (q := (10, darg 0 [(4, 253), (0, (k : Int))], [(0, w32 ((99 + 8 * (k : Int)) + 3)), (4, 254)], g)) rfl
      dsimp only at h
      try rw [w32_eq (z := (99 + 8 * (k : Int)) + 3) (v := 102 + 8 * (k : Int)) (by omega) (by omega) (by omega)] at h
      have h := zald zy_204 h rfl rfl (dvb_254 (i := 102 + 8 * (k : Int)) (by omega) (by omega))
      dsimp only at h
      try rw [show (102 + 8 * (k : Int)).toNat = 102 + 8 * k from by omega] at h
      try rw [hO.2.2.2.1] at h
      have h := zret zy_204 h rfl rfl
      obtain ⟨e1, e2⟩ := oI h
      have h := hO24
      rw [e1, e2] at h
      clear e1 e2
      clear hO24
      obtain ⟨gz28, rz29, hk, h⟩ := zcallI zy_202 h rfl rfl zy_205 zk_205
      dsimp only at hk h
      have hO30 := h
      have h := hk
      clear hk
      have h := zm zy_205 h 9 (q := (13, darg 0 [(4, 253), (0, (p : Int)), (0, (t : Int))], [(0, w32 ((w32 (51 + (w32 (8 * ((p : Int)))))) + ((t : Int)))), (4, 254)], g)) rfl
      dsimp only at h
      try rw [w32_eq (z := 8 * ((p : Int))) (v := 8 * (p : Int)) (by omega) (by omega) (by omega)] at h
      try rw [w32_eq (z := 51 + (8 * (p : Int))) (v := 51 + 8 * (p : Int)) (by omega) (by omega) (by omega)] at h
      try rw [w32_eq (z := (51 + 8 * (p : Int)) + ((t : Int))) (v := 51 + 8 * (p : Int) + (t : Int)) (by omega) (by omega) (by omega)] at h
      have h := zald zy_205 h rfl rfl (dvb_254 (i := 51 + 8 * (p : Int) + (t : Int)) (by omega) (by omega))
      dsimp only at h
      try rw [show (51 + 8 * (p : Int) + (t : Int)).toNat = 51 + 8 * p + t from by omega] at h
      try rw [hv] at h
      have h := zret zy_205 h rfl rfl
      obtain ⟨e1, e2⟩ := oI h
      have h := hO30
      rw [e1, e2] at h
      clear e1 e2
      clear hO30
      have h := zm zy_202 h 2 (q := (16, darg 0 [(4, 253), (0, (k : Int))], [(0, (k : Int)), (4, 253), (0, v)], g)) rfl
      dsimp only at h
      obtain ⟨gz31, rz32, hk, h⟩ := zcallI zy_202 h rfl rfl zy_206 zk_206
      dsimp only at hk h
      have hO33 := h
      have h := hk
      clear hk
      have h := zm zy_206 h 3 (q := (5, darg 0 [(4, 253), (0, (k : Int))], [(0, (k : Int)), (4, 254)], g)) rfl
      dsimp only at h
      obtain ⟨gz34, rz35, hk, h⟩ := zcallI zy_206 h rfl rfl zy_199 zk_199
      dsimp only at hk h
      have hO36 := h
      have h := hk
      clear hk
      have h := zm zy_199 h 5 (q := (7, darg 0 [(0, (k : Int))], [(0, w32 (99 + (w32 (8 * ((k : Int))))))], g)) rfl
      dsimp only at h
      try rw [w32_eq (z := 8 * ((k : Int))) (v := 8 * (k : Int)) (by omega) (by omega) (by omega)] at h
      try rw [w32_eq (z := 99 + (8 * (k : Int))) (v := 99 + 8 * (k : Int)) (by omega) (by omega) (by omega)] at h
      have h := zret zy_199 h rfl rfl
      obtain ⟨e1, e2⟩ := oI h
      have h := hO36
      rw [e1, e2] at h
      clear e1 e2
      clear hO36
      have h := zm zy_206 h 2 (q := (10, darg 0 [(4, 253), (0, (k : Int))], [(0, w32 ((99 + 8 * (k : Int)) + 2)), (4, 254)], g)) rfl
      dsimp only at h
      try rw [w32_eq (z := (99 + 8 * (k : Int)) + 2) (v := 101 + 8 * (k : Int)) (by omega) (by omega) (by omega)] at h
      have h := zald zy_206 h rfl rfl (dvb_254 (i := 101 + 8 * (k : Int)) (by omega) (by omega))
      dsimp only at h
      try rw [show (101 + 8 * (k : Int)).toNat = 101 + 8 * k from by omega] at h
      try rw [hO.2.2.1] at h
      have h := zret zy_206 h rfl rfl
      obtain ⟨e1, e2⟩ := oI h
      have h := hO33
      rw [e1, e2] at h
      clear e1 e2
      clear hO33
      have h := zm zy_202 h 1 (q := (cond (crel .ne v ((q : Int))) 26 22, darg 0 [(4, 253), (0, (k : Int))], [], g)) rfl
      dsimp only at h
      rcases zif_ne h with ⟨hc37, h⟩ | ⟨hc37, h⟩
      · have h := zm zy_202 h 1 (q := (27, darg 0 [(4, 253), (0, (k : Int))], [(0, 0)], g)) rfl
        dsimp only at h
        have h := zret zy_202 h rfl rfl
        obtain ⟨e1, e2⟩ := oI h
        have h := hO15
        rw [e1, e2] at h
        clear e1 e2
        clear hO15
        have h := zm zy_200 h 3 (q := (21, darg 0 [(4, 253), (0, (k : Int))], [(0, 1)], g)) rfl
        dsimp only at h
        have h := zret zy_200 h rfl rfl
        obtain ⟨e1, e2⟩ := oI h
        have h := hO4
        rw [e1, e2] at h
        clear e1 e2
        clear hO4
        have h := zm zy_220 h 3 (q := (115, dset (dset (dset (dset (dset (dset lf 5 (0, (k : Int))) 4 (0, (T : Int))) 3 (0, (Q : Int))) 2 (0, (P : Int))) 1 (0, (W : Int))) 0 (4, 253), [(0, (k : Int)), (4, 253)], g)) rfl
        dsimp only at h
        obtain ⟨gz38, rz39, hk, h⟩ := zcallI zy_220 h rfl rfl zy_203 zk_203
        dsimp only at hk h
        have hO40 := h
        have h := hk
        clear hk
        have h := zm zy_203 h 3 (q := (5, darg 0 [(4, 253), (0, (k : Int))], [(0, (k : Int)), (4, 254)], g)) rfl
        dsimp only at h
        obtain ⟨gz41, rz42, hk, h⟩ := zcallI zy_203 h rfl rfl zy_199 zk_199
        dsimp only at hk h
        have hO43 := h
        have h := hk
        clear hk
        have h := zm zy_199 h 5 (q := (7, darg 0 [(0, (k : Int))], [(0, w32 (99 + (w32 (8 * ((k : Int))))))], g)) rfl
        dsimp only at h
        try rw [w32_eq (z := 8 * ((k : Int))) (v := 8 * (k : Int)) (by omega) (by omega) (by omega)] at h
        try rw [w32_eq (z := 99 + (8 * (k : Int))) (v := 99 + 8 * (k : Int)) (by omega) (by omega) (by omega)] at h
        have h := zret zy_199 h rfl rfl
        obtain ⟨e1, e2⟩ := oI h
        have h := hO43
        rw [e1, e2] at h
        clear e1 e2
        clear hO43
        have h := zm zy_203 h 2 (q := (10, darg 0 [(4, 253), (0, (k : Int))], [(0, w32 ((99 + 8 * (k : Int)) + 1)), (4, 254)], g)) rfl
        dsimp only at h
        try rw [w32_eq (z := (99 + 8 * (k : Int)) + 1) (v := 100 + 8 * (k : Int)) (by omega) (by omega) (by omega)] at h
        have h := zald zy_203 h rfl rfl (dvb_254 (i := 100 + 8 * (k : Int)) (by omega) (by omega))
        dsimp only at h
        try rw [show (100 + 8 * (k : Int)).toNat = 100 + 8 * k from by omega] at h
        try rw [hO.2.1] at h
        have h := zret zy_203 h rfl rfl
        obtain ⟨e1, e2⟩ := oI h
        have h := hO40
        rw [e1, e2] at h
        clear e1 e2
        clear hO40
        have h := zm zy_220 h 2 (q := (cond (crel .ne ((p : Int)) ((P : Int))) 138 122, dset (dset (dset (dset (dset (dset lf 5 (0, (k : Int))) 4 (0, (T : Int))) 3 (0, (Q : Int))) 2 (0, (P : Int))) 1 (0, (W : Int))) 0 (4, 253), [], g)) rfl
        dsimp only at h
        rcases zif_ne h with ⟨hc44, h⟩ | ⟨hc44, h⟩
        · have h := zm zy_220 h 2 (q := (92, dset (dset (dset (dset (dset (dset (dset lf 5 (0, (k : Int))) 4 (0, (T : Int))) 3 (0, (Q : Int))) 2 (0, (P : Int))) 1 (0, (W : Int))) 0 (4, 253)) 5 (0, w32 (((k : Int)) + 1)), [], g)) rfl
          dsimp only at h
          try rw [w32_eq (z := ((k : Int)) + 1) (v := 1 + (k : Int)) (by omega) (by omega) (by omega)] at h
          refine Or.inl (⟨Or.inr (Or.inl (⟨hc11, hc37, hc44⟩)), ?_⟩)
          exact ⟨_, rfl, rfl, rfl, rfl, rfl, rfl, h⟩
        · have h := zm zy_220 h 4 (q := (127, dset (dset (dset (dset (dset (dset lf 5 (0, (k : Int))) 4 (0, (T : Int))) 3 (0, (Q : Int))) 2 (0, (P : Int))) 1 (0, (W : Int))) 0 (4, 253), [(0, (k : Int)), (4, 253), (0, (W : Int)), (4, 253)], g)) rfl
          dsimp only at h
          obtain ⟨gz46, rz47, hk, h⟩ := zcallI zy_220 h rfl rfl zy_211 zk_211
          dsimp only at hk h
          have hO48 := h
          have h := hk
          clear hk
          have h := zm zy_211 h 3 (q := (5, darg 0 [(4, 253), (0, (k : Int))], [(0, (k : Int)), (4, 254)], g)) rfl
          dsimp only at h
          obtain ⟨gz49, rz50, hk, h⟩ := zcallI zy_211 h rfl rfl zy_199 zk_199
          dsimp only at hk h
          have hO51 := h
          have h := hk
          clear hk
          have h := zm zy_199 h 5 (q := (7, darg 0 [(0, (k : Int))], [(0, w32 (99 + (w32 (8 * ((k : Int))))))], g)) rfl
          dsimp only at h
          try rw [w32_eq (z := 8 * ((k : Int))) (v := 8 * (k : Int)) (by omega) (by omega) (by omega)] at h
          try rw [w32_eq (z := 99 + (8 * (k : Int))) (v := 99 + 8 * (k : Int)) (by omega) (by omega) (by omega)] at h
          have h := zret zy_199 h rfl rfl
          obtain ⟨e1, e2⟩ := oI h
          have h := hO51
          rw [e1, e2] at h
          clear e1 e2
          clear hO51
          have h := zald zy_211 h rfl rfl (dvb_254 (i := 99 + 8 * (k : Int)) (by omega) (by omega))
          dsimp only at h
          try rw [show (99 + 8 * (k : Int)).toNat = 99 + 8 * k from by omega] at h
          try rw [hO.1] at h
          have h := zret zy_211 h rfl rfl
          obtain ⟨e1, e2⟩ := oI h
          have h := hO48
          rw [e1, e2] at h
          clear e1 e2
          clear hO48
          obtain ⟨gz52, rz53, hk, h⟩ := zcallI zy_220 h rfl rfl zy_214 zk_214
          dsimp only at hk h
          have hO54 := h
          have h := hk
          clear hk
          have h := zm zy_214 h 4 (q := (6, darg 0 [(4, 253), (0, (W : Int)), (0, (w : Int))], [(0, (W : Int)), (4, 254), (4, 253)], g)) rfl
          dsimp only at h
          obtain ⟨gz55, rz56, hk, h⟩ := zcallI zy_214 h rfl rfl zy_209 zk_209
          dsimp only at hk h
          have hO57 := h
          have h := hk
          clear hk
          have h := zm zy_209 h 5 (q := (7, darg 0 [(0, (W : Int))], [(0, w32 (15 + (w32 (6 * ((W : Int))))))], g)) rfl
          dsimp only at h
          try rw [w32_eq (z := 6 * ((W : Int))) (v := 6 * (W : Int)) (by omega) (by omega) (by omega)] at h
          try rw [w32_eq (z := 15 + (6 * (W : Int))) (v := 15 + 6 * (W : Int)) (by omega) (by omega) (by omega)] at h
          have h := zret zy_209 h rfl rfl
          obtain ⟨e1, e2⟩ := oI h
          have h := hO57
          rw [e1, e2] at h
          clear e1 e2
          clear hO57
          have h := zm zy_214 h 2 (q := (11, darg 0 [(4, 253), (0, (W : Int)), (0, (w : Int))], [(0, w32 ((15 + 6 * (W : Int)) + 4)), (4, 254), (4, 253)], g)) rfl
          dsimp only at h
          try rw [w32_eq (z := (15 + 6 * (W : Int)) + 4) (v := 19 + 6 * (W : Int)) (by omega) (by omega) (by omega)] at h
          have h := zald zy_214 h rfl rfl (dvb_254 (i := 19 + 6 * (W : Int)) (by omega) (by omega))
          dsimp only at h
          try rw [show (19 + 6 * (W : Int)).toNat = 19 + 6 * W from by omega] at h
          try rw [hfr] at h
          have h := zm zy_214 h 1 (q := (13, darg 0 [(4, 253), (0, (W : Int)), (0, (w : Int))], [(0, (w : Int)), (0, fr), (4, 253)], g)) rfl
          dsimp only at h
          obtain ⟨gz58, rz59, hk, h⟩ := zcallI zy_214 h rfl rfl zy_215 zk_215
          dsimp only at hk h
          have hO60 := h
          have h := hk
          clear hk
          have h := zm zy_215 h 7 (q := (cond (crel .ne (ban (bsr fr ((w : Int))) 1) 1) 13 9, darg 0 [(4, 253), (0, fr), (0, (w : Int))], [], g)) rfl
          dsimp only at h
          rcases zif_ne h with ⟨hc61, h⟩ | ⟨hc61, h⟩
          · have h := zm zy_215 h 1 (q := (14, darg 0 [(4, 253), (0, fr), (0, (w : Int))], [(0, 0)], g)) rfl
            dsimp only at h
            have h := zret zy_215 h rfl rfl
            obtain ⟨e1, e2⟩ := oI h
            have h := hO60
            rw [e1, e2] at h
            clear e1 e2
            clear hO60
            have h := zret zy_214 h rfl rfl
            obtain ⟨e1, e2⟩ := oI h
            have h := hO54
            rw [e1, e2] at h
            clear e1 e2
            clear hO54
            have h := zm zy_220 h 3 (q := (92, dset (dset (dset (dset (dset (dset (dset lf 5 (0, (k : Int))) 4 (0, (T : Int))) 3 (0, (Q : Int))) 2 (0, (P : Int))) 1 (0, (W : Int))) 0 (4, 253)) 5 (0, w32 (((k : Int)) + 1)), [], g)) rfl
            dsimp only at h
            try rw [w32_eq (z := ((k : Int)) + 1) (v := 1 + (k : Int)) (by omega) (by omega) (by omega)] at h
            refine Or.inl (⟨Or.inr (Or.inr (Or.inl (⟨hc11, hc37, hc44, hc61⟩))), ?_⟩)
            exact ⟨_, rfl, rfl, rfl, rfl, rfl, rfl, h⟩
          · have h := zm zy_215 h 2 (q := (14, darg 0 [(4, 253), (0, fr), (0, (w : Int))], [(0, 1)], g)) rfl
            dsimp only at h
            have h := zret zy_215 h rfl rfl
            obtain ⟨e1, e2⟩ := oI h
            have h := hO60
            rw [e1, e2] at h
            clear e1 e2
            clear hO60
            have h := zret zy_214 h rfl rfl
            obtain ⟨e1, e2⟩ := oI h
            have h := hO54
            rw [e1, e2] at h
            clear e1 e2
            clear hO54
            have h := zm zy_220 h 2 (q := (137, dset (dset (dset (dset (dset (dset lf 5 (0, (k : Int))) 4 (0, (T : Int))) 3 (0, (Q : Int))) 2 (0, (P : Int))) 1 (0, (W : Int))) 0 (4, 253), [(0, 4)], g)) rfl
            dsimp only at h
            refine Or.inr (⟨⟨hc11, hc37, hc44, hc61⟩, ?_⟩)
            exact zret zy_220 h rfl rfl
      · have h := zm zy_202 h 2 (q := (27, darg 0 [(4, 253), (0, (k : Int))], [(0, 1)], g)) rfl
        dsimp only at h
        have h := zret zy_202 h rfl rfl
        obtain ⟨e1, e2⟩ := oI h
        have h := hO15
        rw [e1, e2] at h
        clear e1 e2
        clear hO15
        have h := zm zy_200 h 2 (q := (21, darg 0 [(4, 253), (0, (k : Int))], [(0, 0)], g)) rfl
        dsimp only at h
        have h := zret zy_200 h rfl rfl
        obtain ⟨e1, e2⟩ := oI h
        have h := hO4
        rw [e1, e2] at h
        clear e1 e2
        clear hO4
        have h := zm zy_220 h 3 (q := (92, dset (dset (dset (dset (dset (dset (dset lf 5 (0, (k : Int))) 4 (0, (T : Int))) 3 (0, (Q : Int))) 2 (0, (P : Int))) 1 (0, (W : Int))) 0 (4, 253)) 5 (0, w32 (((k : Int)) + 1)), [], g)) rfl
        dsimp only at h
        try rw [w32_eq (z := ((k : Int)) + 1) (v := 1 + (k : Int)) (by omega) (by omega) (by omega)] at h
        refine Or.inl (⟨Or.inr (Or.inr (Or.inr (⟨hc11, hc37⟩))), ?_⟩)
        exact ⟨_, rfl, rfl, rfl, rfl, rfl, rfl, h⟩
theorem m_why92e {sv : Nat → Int32} {L n : Nat} {lf : dlf} {g : cg} {o : cg × Option cv} {W P Q T k N : Nat} {pu : Int} (rW : W ≤ 5) (rP : P ≤ 5) (rQ : Q ≤ 4) (rT : T ≤ 7) (rk : k ≤ 16) (rN : N ≤ 16) (hN : g 254 2 = (N : Int)) (hpu : g 254 (15 + 6 * W) = pu) (hge : N ≤ k) (h : zr sv L (n + 1) 220 92 lf [] g o) (hl0 : lf 0 = (4, 253)) (hl1 : lf 1 = (0, (W : Int))) (hl2 : lf 2 = (0, (P : Int))) (hl3 : lf 3 = (0, (Q : Int))) (hl4 : lf 4 = (0, (T : Int))) (hl5 : lf 5 = (0, (k : Int))) : ∃ g_1 r_1, zr sv L n 224 0 (darg 0 [(4, 253), (0, (W : Int)), (0, (P : Int)), (0, (Q : Int)), (0, (T : Int))]) [] g (g_1, some (0, r_1)) ∧ (((r_1 ≤ g_1 254 (15 + 6 * W)) ∧ (o = (g_1, some (0, 0)))) ∨ ((g_1 254 (15 + 6 * W) < r_1) ∧ (o = (g_1, some (0, 5))))) := by
  rw [zov hl0, zov hl1, zov hl2, zov hl3, zov hl4, zov hl5] at h
  have h := zm1 zy_220 h 5 (q := (cond (crel .ge ((k : Int)) (g 254 2)) 144 103, dset (dset (dset (dset (dset (dset lf 5 (0, (k : Int))) 4 (0, (T : Int))) 3 (0, (Q : Int))) 2 (0, (P : Int))) 1 (0, (W : Int))) 0 (4, 253), [], g)) rfl
  dsimp only at h
  try rw [hN] at h
  rcases zif_ge h with ⟨hc1, h⟩ | ⟨hc1, h⟩
  · have h := zm zy_220 h 5 (q := (150, dset (dset (dset (dset (dset (dset lf 5 (0, (k : Int))) 4 (0, (T : Int))) 3 (0, (Q : Int))) 2 (0, (P : Int))) 1 (0, (W : Int))) 0 (4, 253), [(0, (T : Int)), (0, (Q : Int)), (0, (P : Int)), (0, (W : Int)), (4, 253)], g)) rfl
    dsimp only at h
    obtain ⟨g_1, r_1, hk, h⟩ := zcallI zy_220 h rfl rfl zy_224 zk_224
    dsimp only at hk h
    refine ⟨g_1, r_1, hk, ?_⟩
    have h := zm zy_220 h 3 (q := (158, dset (dset (dset (dset (dset (dset lf 5 (0, (k : Int))) 4 (0, (T : Int))) 3 (0, (Q : Int))) 2 (0, (P : Int))) 1 (0, (W : Int))) 0 (4, 253), [(0, (W : Int)), (4, 254), (0, r_1)], g_1)) rfl
    dsimp only at h
    obtain ⟨gz2, rz3, hk, h⟩ := zcallI zy_220 h rfl rfl zy_209 zk_209
    dsimp only at hk h
    have hO4 := h
    have h := hk
    clear hk
    have h := zm zy_209 h 5 (q := (7, darg 0 [(0, (W : Int))], [(0, w32 (15 + (w32 (6 * ((W : Int))))))], g_1)) rfl
    dsimp only at h
    try rw [w32_eq (z := 6 * ((W : Int))) (v := 6 * (W : Int)) (by omega) (by omega) (by omega)] at h
    try rw [w32_eq (z := 15 + (6 * (W : Int))) (v := 15 + 6 * (W : Int)) (by omega) (by omega) (by omega)] at h
    have h := zret zy_209 h rfl rfl
    obtain ⟨e1, e2⟩ := oI h
    have h := hO4
    rw [e1, e2] at h
    clear e1 e2
    clear hO4
    have h := zald zy_220 h rfl rfl (dvb_254 (i := 15 + 6 * (W : Int)) (by omega) (by omega))
    dsimp only at h
    try rw [show (15 + 6 * (W : Int)).toNat = 15 + 6 * W from by omega] at h
    have h := zm zy_220 h 1 (q := (cond (crel .le r_1 (g_1 254 (15 + 6 * W))) 169 165, dset (dset (dset (dset (dset (dset lf 5 (0, (k : Int))) 4 (0, (T : Int))) 3 (0, (Q : Int))) 2 (0, (P : Int))) 1 (0, (W : Int))) 0 (4, 253), [], g_1)) rfl
    dsimp only at h
    rcases zif_le h with ⟨hc5, h⟩ | ⟨hc5, h⟩
    · have h := zm zy_220 h 1 (q := (170, dset (dset (dset (dset (dset (dset lf 5 (0, (k : Int))) 4 (0, (T : Int))) 3 (0, (Q : Int))) 2 (0, (P : Int))) 1 (0, (W : Int))) 0 (4, 253), [(0, 0)], g_1)) rfl
      dsimp only at h
      refine Or.inl (⟨hc5, ?_⟩)
      exact zret zy_220 h rfl rfl
    · have h := zm zy_220 h 2 (q := (170, dset (dset (dset (dset (dset (dset lf 5 (0, (k : Int))) 4 (0, (T : Int))) 3 (0, (Q : Int))) 2 (0, (P : Int))) 1 (0, (W : Int))) 0 (4, 253), [(0, 5)], g_1)) rfl
      dsimp only at h
      refine Or.inr (⟨hc5, ?_⟩)
      exact zret zy_220 h rfl rfl
  · exact absurd hc1 (by omega)
theorem m_swr0 {sv : Nat → Int32} {L n : Nat} {lf : dlf} {g : cg} {o : cg × Option cv} {W P Q T N : Nat} (rW : W ≤ 5) (rP : P ≤ 5) (rQ : Q ≤ 4) (rT : T ≤ 7) (rN : N ≤ 15) (hN : g 254 2 = (N : Int)) (h : zr sv L n 228 0 lf [] g o) (hl0 : lf 0 = (4, 253)) (hl1 : lf 1 = (0, (W : Int))) (hl2 : lf 2 = (0, (P : Int))) (hl3 : lf 3 = (0, (Q : Int))) (hl4 : lf 4 = (0, (T : Int))) : ∃ g_1 r_1, zr sv L n 224 0 (darg 0 [(4, 253), (0, (W : Int)), (0, (P : Int)), (0, (Q : Int)), (0, (T : Int))]) [] g (g_1, some (0, r_1)) ∧ (∃ lf', lf' 0 = (4, 253) ∧ lf' 1 = (0, (W : Int)) ∧ lf' 2 = (0, (P : Int)) ∧ lf' 3 = (0, (Q : Int)) ∧ lf' 4 = (0, (T : Int)) ∧ lf' 5 = (0, (N : Int)) ∧ lf' 6 = (0, 99 + 8 * (N : Int)) ∧ lf' 7 = (0, r_1) ∧ zr sv L n 228 26 lf' [] g_1 o) := by
  rw [zov hl0, zov hl1, zov hl2, zov hl3, zov hl4] at h
  have h := zm zy_228 h 6 (q := (10, dset (dset (dset (dset (dset (dset lf 4 (0, (T : Int))) 3 (0, (Q : Int))) 2 (0, (P : Int))) 1 (0, (W : Int))) 0 (4, 253)) 5 (0, g 254 2), [(0, g 254 2)], g)) rfl
  dsimp only at h
  try rw [hN] at h
  obtain ⟨gz1, rz2, hk, h⟩ := zcallI zy_228 h rfl rfl zy_199 zk_199
  dsimp only at hk h
  have hO3 := h
  have h := hk
  clear hk
  have h := zm zy_199 h 5 (q := (7, darg 0 [(0, (N : Int))], [(0, w32 (99 + (w32 (8 * ((N : Int))))))], g)) rfl
  dsimp only at h
  try rw [w32_eq (z := 8 * ((N : Int))) (v := 8 * (N : Int)) (by omega) (by omega) (by omega)] at h
  try rw [w32_eq (z := 99 + (8 * (N : Int))) (v := 99 + 8 * (N : Int)) (by omega) (by omega) (by omega)] at h
  have h := zret zy_199 h rfl rfl
  obtain ⟨e1, e2⟩ := oI h
  have h := hO3
  rw [e1, e2] at h
  clear e1 e2
  clear hO3
  have h := zm zy_228 h 6 (q := (21, dset (dset (dset (dset (dset (dset (dset lf 4 (0, (T : Int))) 3 (0, (Q : Int))) 2 (0, (P : Int))) 1 (0, (W : Int))) 0 (4, 253)) 5 (0, (N : Int))) 6 (0, 99 + 8 * (N : Int)), [(0, (T : Int)), (0, (Q : Int)), (0, (P : Int)), (0, (W : Int)), (4, 253)], g)) rfl
  dsimp only at h
  obtain ⟨g_1, r_1, hk, h⟩ := zcallI zy_228 h rfl rfl zy_224 zk_224
  dsimp only at hk h
  refine ⟨g_1, r_1, hk, ?_⟩
  have h := zm zy_228 h 1 (q := (26, dset (dset (dset (dset (dset (dset (dset (dset lf 4 (0, (T : Int))) 3 (0, (Q : Int))) 2 (0, (P : Int))) 1 (0, (W : Int))) 0 (4, 253)) 5 (0, (N : Int))) 6 (0, 99 + 8 * (N : Int))) 7 (0, r_1), [], g_1)) rfl
  dsimp only at h
  exact ⟨_, rfl, rfl, rfl, rfl, rfl, rfl, rfl, rfl, h⟩
theorem m_swr26 {sv : Nat → Int32} {L n : Nat} {lf : dlf} {g : cg} {o : cg × Option cv} {W P Q T N : Nat} {fe pu ch bi tw fr : Int} (rW : W ≤ 5) (rP : P ≤ 5) (rQ : Q ≤ 4) (rT : T ≤ 7) (rN : N ≤ 15) (hN : g 254 2 = (N : Int)) (hP : PMm g W pu ch bi tw fr) (h : zr sv L n 228 26 lf [] g o) (hl0 : lf 0 = (4, 253)) (hl1 : lf 1 = (0, (W : Int))) (hl2 : lf 2 = (0, (P : Int))) (hl3 : lf 3 = (0, (Q : Int))) (hl4 : lf 4 = (0, (T : Int))) (hl5 : lf 5 = (0, (N : Int))) (hl6 : lf 6 = (0, 99 + 8 * (N : Int))) (hl7 : lf 7 = (0, fe)) : ((ch ≠ 1) ∧ (∃ lf', lf' 0 = (4, 253) ∧ lf' 2 = (0, (P : Int)) ∧ lf' 4 = (0, (T : Int)) ∧ lf' 5 = (0, (N : Int)) ∧ zr sv L n 228 202 lf' [] (cup (cup (cup (cup (cup (cup (cup (cup (cup (cup g 254 (99 + 8 * N) ((W : Int))) 254 (100 + 8 * N) ((P : Int))) 254 (101 + 8 * N) ((Q : Int))) 254 (102 + 8 * N) ((T : Int))) 254 (103 + 8 * N) fe) 254 (104 + 8 * N) 0) 254 (105 + 8 * N) 0) 254 (15 + 6 * W) (w32 (pu - fe))) 254 6 (w32 ((g 254 6) + fe))) 254 2 (1 + (N : Int))) o)) ∨ ((ch = 1) ∧ (∃ lf', lf' 0 = (4, 253) ∧ lf' 1 = (0, (W : Int)) ∧ lf' 2 = (0, (P : Int)) ∧ lf' 3 = (0, (Q : Int)) ∧ lf' 4 = (0, (T : Int)) ∧ lf' 5 = (0, (N : Int)) ∧ lf' 8 = (0, 0) ∧ zr sv L n 228 151 lf' [] (cup (cup (cup (cup (cup (cup (cup (cup (cup (cup g 254 (99 + 8 * N) ((W : Int))) 254 (100 + 8 * N) ((P : Int))) 254 (101 + 8 * N) ((Q : Int))) 254 (102 + 8 * N) ((T : Int))) 254 (103 + 8 * N) fe) 254 (104 + 8 * N) 0) 254 (105 + 8 * N) 0) 254 (15 + 6 * W) (w32 (pu - fe))) 254 6 (w32 ((g 254 6) + fe))) 254 2 (1 + (N : Int))) o)) := by
  rw [zov hl0, zov hl1, zov hl2, zov hl3, zov hl4, zov hl5, zov hl6, zov hl7] at h
  have h := zm zy_228 h 50 (q := (102, dset (dset (dset (dset (dset (dset (dset (dset lf 7 (0, fe)) 6 (0, 99 + 8 * (N : Int))) 5 (0, (N : Int))) 4 (0, (T : Int))) 3 (0, (Q : Int))) 2 (0, (P : Int))) 1 (0, (W : Int))) 0 (4, 253), [(0, (W : Int)), (4, 254)], cup (cup (cup (cup (cup (cup (cup g 254 ((99 + 8 * (N : Int)).toNat) ((W : Int))) 254 ((w32 ((99 + 8 * (N : Int)) + 1)).toNat) ((P : Int))) 254 ((w32 ((99 + 8 * (N : Int)) + 2)).toNat) ((Q : Int))) 254 ((w32 ((99 + 8 * (N : Int)) + 3)).toNat) ((T : Int))) 254 ((w32 ((99 + 8 * (N : Int)) + 4)).toNat) fe) 254 ((w32 ((99 + 8 * (N : Int)) + 5)).toNat) 0) 254 ((w32 ((99 + 8 * (N : Int)) + 6)).toNat) 0)) rfl
  dsimp only at h
  try rw [show (99 + 8 * (N : Int)).toNat = 99 + 8 * N from by omega] at h
  try rw [w32_eq (z := (99 + 8 * (N : Int)) + 1) (v := 100 + 8 * (N : Int)) (by omega) (by omega) (by omega)] at h
  try rw [show (100 + 8 * (N : Int)).toNat = 100 + 8 * N from by omega] at h
  try rw [w32_eq (z := (99 + 8 * (N : Int)) + 2) (v := 101 + 8 * (N : Int)) (by omega) (by omega) (by omega)] at h
  try rw [show (101 + 8 * (N : Int)).toNat = 101 + 8 * N from by omega] at h
  try rw [w32_eq (z := (99 + 8 * (N : Int)) + 3) (v := 102 + 8 * (N : Int)) (by omega) (by omega) (by omega)] at h
  try rw [show (102 + 8 * (N : Int)).toNat = 102 + 8 * N from by omega] at h
  try rw [w32_eq (z := (99 + 8 * (N : Int)) + 4) (v := 103 + 8 * (N : Int)) (by omega) (by omega) (by omega)] at h
  try rw [show (103 + 8 * (N : Int)).toNat = 103 + 8 * N from by omega] at h
  try rw [w32_eq (z := (99 + 8 * (N : Int)) + 5) (v := 104 + 8 * (N : Int)) (by omega) (by omega) (by omega)] at h
  try rw [show (104 + 8 * (N : Int)).toNat = 104 + 8 * N from by omega] at h
  try rw [w32_eq (z := (99 + 8 * (N : Int)) + 6) (v := 105 + 8 * (N : Int)) (by omega) (by omega) (by omega)] at h
  try rw [show (105 + 8 * (N : Int)).toNat = 105 + 8 * N from by omega] at h
  obtain ⟨gz1, rz2, hk, h⟩ := zcallI zy_228 h rfl rfl zy_209 zk_209
  dsimp only at hk h
  have hO3 := h
  have h := hk
  clear hk
  have h := zm zy_209 h 5 (q := (7, darg 0 [(0, (W : Int))], [(0, w32 (15 + (w32 (6 * ((W : Int))))))], cup (cup (cup (cup (cup (cup (cup g 254 (99 + 8 * N) ((W : Int))) 254 (100 + 8 * N) ((P : Int))) 254 (101 + 8 * N) ((Q : Int))) 254 (102 + 8 * N) ((T : Int))) 254 (103 + 8 * N) fe) 254 (104 + 8 * N) 0) 254 (105 + 8 * N) 0)) rfl
  dsimp only at h
  try rw [w32_eq (z := 6 * ((W : Int))) (v := 6 * (W : Int)) (by omega) (by omega) (by omega)] at h
  try rw [w32_eq (z := 15 + (6 * (W : Int))) (v := 15 + 6 * (W : Int)) (by omega) (by omega) (by omega)] at h
  have h := zret zy_209 h rfl rfl
  obtain ⟨e1, e2⟩ := oI h
  have h := hO3
  rw [e1, e2] at h
  clear e1 e2
  clear hO3
  have h := zm zy_228 h 1 (q := (106, dset (dset (dset (dset (dset (dset (dset (dset lf 7 (0, fe)) 6 (0, 99 + 8 * (N : Int))) 5 (0, (N : Int))) 4 (0, (T : Int))) 3 (0, (Q : Int))) 2 (0, (P : Int))) 1 (0, (W : Int))) 0 (4, 253), [(0, 15 + 6 * (W : Int)), (4, 254), (0, 15 + 6 * (W : Int)), (4, 254)], cup (cup (cup (cup (cup (cup (cup g 254 (99 + 8 * N) ((W : Int))) 254 (100 + 8 * N) ((P : Int))) 254 (101 + 8 * N) ((Q : Int))) 254 (102 + 8 * N) ((T : Int))) 254 (103 + 8 * N) fe) 254 (104 + 8 * N) 0) 254 (105 + 8 * N) 0)) rfl
  dsimp only at h
  have h := zald zy_228 h rfl rfl (dvb_254 (i := 15 + 6 * (W : Int)) (by omega) (by omega))
  dsimp only at h
  try rw [show (15 + 6 * (W : Int)).toNat = 15 + 6 * W from by omega] at h
  try rw [cup_ne (g := cup (cup (cup (cup (cup (cup g 254 (99 + 8 * N) ((W : Int))) 254 (100 + 8 * N) ((P : Int))) 254 (101 + 8 * N) ((Q : Int))) 254 (102 + 8 * N) ((T : Int))) 254 (103 + 8 * N) fe) 254 (104 + 8 * N) 0) (k := 254) (j := 105 + 8 * N) (k' := 254) (j' := 15 + 6 * W) (by omega)] at h
  try rw [cup_ne (g := cup (cup (cup (cup (cup g 254 (99 + 8 * N) ((W : Int))) 254 (100 + 8 * N) ((P : Int))) 254 (101 + 8 * N) ((Q : Int))) 254 (102 + 8 * N) ((T : Int))) 254 (103 + 8 * N) fe) (k := 254) (j := 104 + 8 * N) (k' := 254) (j' := 15 + 6 * W) (by omega)] at h
  try rw [cup_ne (g := cup (cup (cup (cup g 254 (99 + 8 * N) ((W : Int))) 254 (100 + 8 * N) ((P : Int))) 254 (101 + 8 * N) ((Q : Int))) 254 (102 + 8 * N) ((T : Int))) (k := 254) (j := 103 + 8 * N) (k' := 254) (j' := 15 + 6 * W) (by omega)] at h
  try rw [cup_ne (g := cup (cup (cup g 254 (99 + 8 * N) ((W : Int))) 254 (100 + 8 * N) ((P : Int))) 254 (101 + 8 * N) ((Q : Int))) (k := 254) (j := 102 + 8 * N) (k' := 254) (j' := 15 + 6 * W) (by omega)] at h
  try rw [cup_ne (g := cup (cup g 254 (99 + 8 * N) ((W : Int))) 254 (100 + 8 * N) ((P : Int))) (k := 254) (j := 101 + 8 * N) (k' := 254) (j' := 15 + 6 * W) (by omega)] at h
  try rw [cup_ne (g := cup g 254 (99 + 8 * N) ((W : Int))) (k := 254) (j := 100 + 8 * N) (k' := 254) (j' := 15 + 6 * W) (by omega)] at h
  try rw [cup_ne (g := g) (k := 254) (j := 99 + 8 * N) (k' := 254) (j' := 15 + 6 * W) (by omega)] at h
  try rw [hP.1] at h
  have h := zm zy_228 h 8 (q := (119, dset (dset (dset (dset (dset (dset (dset (dset lf 7 (0, fe)) 6 (0, 99 + 8 * (N : Int))) 5 (0, (N : Int))) 4 (0, (T : Int))) 3 (0, (Q : Int))) 2 (0, (P : Int))) 1 (0, (W : Int))) 0 (4, 253), [(0, (cup (cup (cup (cup (cup (cup (cup (cup g 254 (99 + 8 * N) ((W : Int))) 254 (100 + 8 * N) ((P : Int))) 254 (101 + 8 * N) ((Q : Int))) 254 (102 + 8 * N) ((T : Int))) 254 (103 + 8 * N) fe) 254 (104 + 8 * N) 0) 254 (105 + 8 * N) 0) 254 ((15 + 6 * (W : Int)).toNat) (w32 (pu - fe))) 254 6), (0, 6), (4, 254)], cup (cup (cup (cup (cup (cup (cup (cup g 254 (99 + 8 * N) ((W : Int))) 254 (100 + 8 * N) ((P : Int))) 254 (101 + 8 * N) ((Q : Int))) 254 (102 + 8 * N) ((T : Int))) 254 (103 + 8 * N) fe) 254 (104 + 8 * N) 0) 254 (105 + 8 * N) 0) 254 ((15 + 6 * (W : Int)).toNat) (w32 (pu - fe)))) rfl
  dsimp only at h
  try rw [show (15 + 6 * (W : Int)).toNat = 15 + 6 * W from by omega] at h
  try rw [cup_ne (g := cup (cup (cup (cup (cup (cup (cup g 254 (99 + 8 * N) ((W : Int))) 254 (100 + 8 * N) ((P : Int))) 254 (101 + 8 * N) ((Q : Int))) 254 (102 + 8 * N) ((T : Int))) 254 (103 + 8 * N) fe) 254 (104 + 8 * N) 0) 254 (105 + 8 * N) 0) (k := 254) (j := 15 + 6 * W) (k' := 254) (j' := 6) (by omega)] at h
  try rw [cup_ne (g := cup (cup (cup (cup (cup (cup g 254 (99 + 8 * N) ((W : Int))) 254 (100 + 8 * N) ((P : Int))) 254 (101 + 8 * N) ((Q : Int))) 254 (102 + 8 * N) ((T : Int))) 254 (103 + 8 * N) fe) 254 (104 + 8 * N) 0) (k := 254) (j := 105 + 8 * N) (k' := 254) (j' := 6) (by omega)] at h
  try rw [cup_ne (g := cup (cup (cup (cup (cup g 254 (99 + 8 * N) ((W : Int))) 254 (100 + 8 * N) ((P : Int))) 254 (101 + 8 * N) ((Q : Int))) 254 (102 + 8 * N) ((T : Int))) 254 (103 + 8 * N) fe) (k := 254) (j := 104 + 8 * N) (k' := 254) (j' := 6) (by omega)] at h
  try rw [cup_ne (g := cup (cup (cup (cup g 254 (99 + 8 * N) ((W : Int))) 254 (100 + 8 * N) ((P : Int))) 254 (101 + 8 * N) ((Q : Int))) 254 (102 + 8 * N) ((T : Int))) (k := 254) (j := 103 + 8 * N) (k' := 254) (j' := 6) (by omega)] at h
  try rw [cup_ne (g := cup (cup (cup g 254 (99 + 8 * N) ((W : Int))) 254 (100 + 8 * N) ((P : Int))) 254 (101 + 8 * N) ((Q : Int))) (k := 254) (j := 102 + 8 * N) (k' := 254) (j' := 6) (by omega)] at h
  try rw [cup_ne (g := cup (cup g 254 (99 + 8 * N) ((W : Int))) 254 (100 + 8 * N) ((P : Int))) (k := 254) (j := 101 + 8 * N) (k' := 254) (j' := 6) (by omega)] at h
  try rw [cup_ne (g := cup g 254 (99 + 8 * N) ((W : Int))) (k := 254) (j := 100 + 8 * N) (k' := 254) (j' := 6) (by omega)] at h
  try rw [cup_ne (g := g) (k := 254) (j := 99 + 8 * N) (k' := 254) (j' := 6) (by omega)] at h
  have h := zm zy_228 h 8 (q := (130, dset (dset (dset (dset (dset (dset (dset (dset lf 7 (0, fe)) 6 (0, 99 + 8 * (N : Int))) 5 (0, (N : Int))) 4 (0, (T : Int))) 3 (0, (Q : Int))) 2 (0, (P : Int))) 1 (0, (W : Int))) 0 (4, 253), [(0, (cup (cup (cup (cup (cup (cup (cup (cup (cup g 254 (99 + 8 * N) ((W : Int))) 254 (100 + 8 * N) ((P : Int))) 254 (101 + 8 * N) ((Q : Int))) 254 (102 + 8 * N) ((T : Int))) 254 (103 + 8 * N) fe) 254 (104 + 8 * N) 0) 254 (105 + 8 * N) 0) 254 (15 + 6 * W) (w32 (pu - fe))) 254 6 (w32 ((g 254 6) + fe))) 254 2), (0, 2), (4, 254)], cup (cup (cup (cup (cup (cup (cup (cup (cup g 254 (99 + 8 * N) ((W : Int))) 254 (100 + 8 * N) ((P : Int))) 254 (101 + 8 * N) ((Q : Int))) 254 (102 + 8 * N) ((T : Int))) 254 (103 + 8 * N) fe) 254 (104 + 8 * N) 0) 254 (105 + 8 * N) 0) 254 (15 + 6 * W) (w32 (pu - fe))) 254 6 (w32 ((g 254 6) + fe)))) rfl
  dsimp only at h
  try rw [cup_ne (g := cup (cup (cup (cup (cup (cup (cup (cup g 254 (99 + 8 * N) ((W : Int))) 254 (100 + 8 * N) ((P : Int))) 254 (101 + 8 * N) ((Q : Int))) 254 (102 + 8 * N) ((T : Int))) 254 (103 + 8 * N) fe) 254 (104 + 8 * N) 0) 254 (105 + 8 * N) 0) 254 (15 + 6 * W) (w32 (pu - fe))) (k := 254) (j := 6) (k' := 254) (j' := 2) (by omega)] at h
  try rw [cup_ne (g := cup (cup (cup (cup (cup (cup (cup g 254 (99 + 8 * N) ((W : Int))) 254 (100 + 8 * N) ((P : Int))) 254 (101 + 8 * N) ((Q : Int))) 254 (102 + 8 * N) ((T : Int))) 254 (103 + 8 * N) fe) 254 (104 + 8 * N) 0) 254 (105 + 8 * N) 0) (k := 254) (j := 15 + 6 * W) (k' := 254) (j' := 2) (by omega)] at h
  try rw [cup_ne (g := cup (cup (cup (cup (cup (cup g 254 (99 + 8 * N) ((W : Int))) 254 (100 + 8 * N) ((P : Int))) 254 (101 + 8 * N) ((Q : Int))) 254 (102 + 8 * N) ((T : Int))) 254 (103 + 8 * N) fe) 254 (104 + 8 * N) 0) (k := 254) (j := 105 + 8 * N) (k' := 254) (j' := 2) (by omega)] at h
  try rw [cup_ne (g := cup (cup (cup (cup (cup g 254 (99 + 8 * N) ((W : Int))) 254 (100 + 8 * N) ((P : Int))) 254 (101 + 8 * N) ((Q : Int))) 254 (102 + 8 * N) ((T : Int))) 254 (103 + 8 * N) fe) (k := 254) (j := 104 + 8 * N) (k' := 254) (j' := 2) (by omega)] at h
  try rw [cup_ne (g := cup (cup (cup (cup g 254 (99 + 8 * N) ((W : Int))) 254 (100 + 8 * N) ((P : Int))) 254 (101 + 8 * N) ((Q : Int))) 254 (102 + 8 * N) ((T : Int))) (k := 254) (j := 103 + 8 * N) (k' := 254) (j' := 2) (by omega)] at h
  try rw [cup_ne (g := cup (cup (cup g 254 (99 + 8 * N) ((W : Int))) 254 (100 + 8 * N) ((P : Int))) 254 (101 + 8 * N) ((Q : Int))) (k := 254) (j := 102 + 8 * N) (k' := 254) (j' := 2) (by omega)] at h
  try rw [cup_ne (g := cup (cup g 254 (99 + 8 * N) ((W : Int))) 254 (100 + 8 * N) ((P : Int))) (k := 254) (j := 101 + 8 * N) (k' := 254) (j' := 2) (by omega)] at h
  try rw [cup_ne (g := cup g 254 (99 + 8 * N) ((W : Int))) (k := 254) (j := 100 + 8 * N) (k' := 254) (j' := 2) (by omega)] at h
  try rw [cup_ne (g := g) (k := 254) (j := 99 + 8 * N) (k' := 254) (j' := 2) (by omega)] at h
  try rw [hN] at h
  have h := zm zy_228 h 6 (q := (138, dset (dset (dset (dset (dset (dset (dset (dset lf 7 (0, fe)) 6 (0, 99 + 8 * (N : Int))) 5 (0, (N : Int))) 4 (0, (T : Int))) 3 (0, (Q : Int))) 2 (0, (P : Int))) 1 (0, (W : Int))) 0 (4, 253), [(0, (W : Int)), (4, 254)], cup (cup (cup (cup (cup (cup (cup (cup (cup (cup g 254 (99 + 8 * N) ((W : Int))) 254 (100 + 8 * N) ((P : Int))) 254 (101 + 8 * N) ((Q : Int))) 254 (102 + 8 * N) ((T : Int))) 254 (103 + 8 * N) fe) 254 (104 + 8 * N) 0) 254 (105 + 8 * N) 0) 254 (15 + 6 * W) (w32 (pu - fe))) 254 6 (w32 ((g 254 6) + fe))) 254 2 (w32 (((N : Int)) + 1)))) rfl
  dsimp only at h
  try rw [w32_eq (z := ((N : Int)) + 1) (v := 1 + (N : Int)) (by omega) (by omega) (by omega)] at h
  obtain ⟨gz4, rz5, hk, h⟩ := zcallI zy_228 h rfl rfl zy_209 zk_209
  dsimp only at hk h
  have hO6 := h
  have h := hk
  clear hk
  have h := zm zy_209 h 5 (q := (7, darg 0 [(0, (W : Int))], [(0, w32 (15 + (w32 (6 * ((W : Int))))))], cup (cup (cup (cup (cup (cup (cup (cup (cup (cup g 254 (99 + 8 * N) ((W : Int))) 254 (100 + 8 * N) ((P : Int))) 254 (101 + 8 * N) ((Q : Int))) 254 (102 + 8 * N) ((T : Int))) 254 (103 + 8 * N) fe) 254 (104 + 8 * N) 0) 254 (105 + 8 * N) 0) 254 (15 + 6 * W) (w32 (pu - fe))) 254 6 (w32 ((g 254 6) + fe))) 254 2 (1 + (N : Int)))) rfl
  dsimp only at h
  try rw [w32_eq (z := 6 * ((W : Int))) (v := 6 * (W : Int)) (by omega) (by omega) (by omega)] at h
  try rw [w32_eq (z := 15 + (6 * (W : Int))) (v := 15 + 6 * (W : Int)) (by omega) (by omega) (by omega)] at h
  have h := zret zy_209 h rfl rfl
  obtain ⟨e1, e2⟩ := oI h
  have h := hO6
  rw [e1, e2] at h
  clear e1 e2
  clear hO6
  have h := zm zy_228 h 2 (q := (143, dset (dset (dset (dset (dset (dset (dset (dset lf 7 (0, fe)) 6 (0, 99 + 8 * (N : Int))) 5 (0, (N : Int))) 4 (0, (T : Int))) 3 (0, (Q : Int))) 2 (0, (P : Int))) 1 (0, (W : Int))) 0 (4, 253), [(0, w32 ((15 + 6 * (W : Int)) + 1)), (4, 254)], cup (cup (cup (cup (cup (cup (cup (cup (cup (cup g 254 (99 + 8 * N) ((W : Int))) 254 (100 + 8 * N) ((P : Int))) 254 (101 + 8 * N) ((Q : Int))) 254 (102 + 8 * N) ((T : Int))) 254 (103 + 8 * N) fe) 254 (104 + 8 * N) 0) 254 (105 + 8 * N) 0) 254 (15 + 6 * W) (w32 (pu - fe))) 254 6 (w32 ((g 254 6) + fe))) 254 2 (1 + (N : Int)))) rfl
  dsimp only at h
  try rw [w32_eq (z := (15 + 6 * (W : Int)) + 1) (v := 16 + 6 * (W : Int)) (by omega) (by omega) (by omega)] at h
  have h := zald zy_228 h rfl rfl (dvb_254 (i := 16 + 6 * (W : Int)) (by omega) (by omega))
  dsimp only at h
  try rw [show (16 + 6 * (W : Int)).toNat = 16 + 6 * W from by omega] at h
  try rw [cup_ne (g := cup (cup (cup (cup (cup (cup (cup (cup (cup g 254 (99 + 8 * N) ((W : Int))) 254 (100 + 8 * N) ((P : Int))) 254 (101 + 8 * N) ((Q : Int))) 254 (102 + 8 * N) ((T : Int))) 254 (103 + 8 * N) fe) 254 (104 + 8 * N) 0) 254 (105 + 8 * N) 0) 254 (15 + 6 * W) (w32 (pu - fe))) 254 6 (w32 ((g 254 6) + fe))) (k := 254) (j := 2) (k' := 254) (j' := 16 + 6 * W) (by omega)] at h
  try rw [cup_ne (g := cup (cup (cup (cup (cup (cup (cup (cup g 254 (99 + 8 * N) ((W : Int))) 254 (100 + 8 * N) ((P : Int))) 254 (101 + 8 * N) ((Q : Int))) 254 (102 + 8 * N) ((T : Int))) 254 (103 + 8 * N) fe) 254 (104 + 8 * N) 0) 254 (105 + 8 * N) 0) 254 (15 + 6 * W) (w32 (pu - fe))) (k := 254) (j := 6) (k' := 254) (j' := 16 + 6 * W) (by omega)] at h
  try rw [cup_ne (g := cup (cup (cup (cup (cup (cup (cup g 254 (99 + 8 * N) ((W : Int))) 254 (100 + 8 * N) ((P : Int))) 254 (101 + 8 * N) ((Q : Int))) 254 (102 + 8 * N) ((T : Int))) 254 (103 + 8 * N) fe) 254 (104 + 8 * N) 0) 254 (105 + 8 * N) 0) (k := 254) (j := 15 + 6 * W) (k' := 254) (j' := 16 + 6 * W) (by omega)] at h
  try rw [cup_ne (g := cup (cup (cup (cup (cup (cup g 254 (99 + 8 * N) ((W : Int))) 254 (100 + 8 * N) ((P : Int))) 254 (101 + 8 * N) ((Q : Int))) 254 (102 + 8 * N) ((T : Int))) 254 (103 + 8 * N) fe) 254 (104 + 8 * N) 0) (k := 254) (j := 105 + 8 * N) (k' := 254) (j' := 16 + 6 * W) (by omega)] at h
  try rw [cup_ne (g := cup (cup (cup (cup (cup g 254 (99 + 8 * N) ((W : Int))) 254 (100 + 8 * N) ((P : Int))) 254 (101 + 8 * N) ((Q : Int))) 254 (102 + 8 * N) ((T : Int))) 254 (103 + 8 * N) fe) (k := 254) (j := 104 + 8 * N) (k' := 254) (j' := 16 + 6 * W) (by omega)] at h
  try rw [cup_ne (g := cup (cup (cup (cup g 254 (99 + 8 * N) ((W : Int))) 254 (100 + 8 * N) ((P : Int))) 254 (101 + 8 * N) ((Q : Int))) 254 (102 + 8 * N) ((T : Int))) (k := 254) (j := 103 + 8 * N) (k' := 254) (j' := 16 + 6 * W) (by omega)] at h
  try rw [cup_ne (g := cup (cup (cup g 254 (99 + 8 * N) ((W : Int))) 254 (100 + 8 * N) ((P : Int))) 254 (101 + 8 * N) ((Q : Int))) (k := 254) (j := 102 + 8 * N) (k' := 254) (j' := 16 + 6 * W) (by omega)] at h
  try rw [cup_ne (g := cup (cup g 254 (99 + 8 * N) ((W : Int))) 254 (100 + 8 * N) ((P : Int))) (k := 254) (j := 101 + 8 * N) (k' := 254) (j' := 16 + 6 * W) (by omega)] at h
  try rw [cup_ne (g := cup g 254 (99 + 8 * N) ((W : Int))) (k := 254) (j := 100 + 8 * N) (k' := 254) (j' := 16 + 6 * W) (by omega)] at h
  try rw [cup_ne (g := g) (k := 254) (j := 99 + 8 * N) (k' := 254) (j' := 16 + 6 * W) (by omega)] at h
  try rw [hP.2.1] at h
  have h := zm zy_228 h 2 (q := (cond (crel .ne ch 1) 202 148, dset (dset (dset (dset (dset (dset (dset (dset lf 7 (0, fe)) 6 (0, 99 + 8 * (N : Int))) 5 (0, (N : Int))) 4 (0, (T : Int))) 3 (0, (Q : Int))) 2 (0, (P : Int))) 1 (0, (W : Int))) 0 (4, 253), [], cup (cup (cup (cup (cup (cup (cup (cup (cup (cup g 254 (99 + 8 * N) ((W : Int))) 254 (100 + 8 * N) ((P : Int))) 254 (101 + 8 * N) ((Q : Int))) 254 (102 + 8 * N) ((T : Int))) 254 (103 + 8 * N) fe) 254 (104 + 8 * N) 0) 254 (105 + 8 * N) 0) 254 (15 + 6 * W) (w32 (pu - fe))) 254 6 (w32 ((g 254 6) + fe))) 254 2 (1 + (N : Int)))) rfl
  dsimp only at h
  rcases zif_ne h with ⟨hc7, h⟩ | ⟨hc7, h⟩
  · refine Or.inl (⟨hc7, ?_⟩)
    exact ⟨_, rfl, rfl, rfl, rfl, h⟩
  · have h := zm zy_228 h 2 (q := (151, dset (dset (dset (dset (dset (dset (dset (dset (dset lf 7 (0, fe)) 6 (0, 99 + 8 * (N : Int))) 5 (0, (N : Int))) 4 (0, (T : Int))) 3 (0, (Q : Int))) 2 (0, (P : Int))) 1 (0, (W : Int))) 0 (4, 253)) 8 (0, 0), [], cup (cup (cup (cup (cup (cup (cup (cup (cup (cup g 254 (99 + 8 * N) ((W : Int))) 254 (100 + 8 * N) ((P : Int))) 254 (101 + 8 * N) ((Q : Int))) 254 (102 + 8 * N) ((T : Int))) 254 (103 + 8 * N) fe) 254 (104 + 8 * N) 0) 254 (105 + 8 * N) 0) 254 (15 + 6 * W) (w32 (pu - fe))) 254 6 (w32 ((g 254 6) + fe))) 254 2 (1 + (N : Int)))) rfl
    dsimp only at h
    refine Or.inr (⟨hc7, ?_⟩)
    exact ⟨_, rfl, rfl, rfl, rfl, rfl, rfl, rfl, h⟩
theorem m_swr151s {sv : Nat → Int32} {L n : Nat} {lf : dlf} {g : cg} {o : cg × Option cv} {W P Q T w p q t k N : Nat} {f s b : Int} (rW : W ≤ 5) (rP : P ≤ 5) (rQ : Q ≤ 4) (rT : T ≤ 7) (rw : w ≤ 5) (rp : p ≤ 5) (rq : q ≤ 4) (rt : t ≤ 7) (rk : k ≤ 15) (rN : N ≤ 15) (hO : OHM g k w p q t f s b) (hlt : k < N) (h : zr sv L (n + 1) 228 151 lf [] g o) (hl0 : lf 0 = (4, 253)) (hl1 : lf 1 = (0, (W : Int))) (hl2 : lf 2 = (0, (P : Int))) (hl3 : lf 3 = (0, (Q : Int))) (hl4 : lf 4 = (0, (T : Int))) (hl5 : lf 5 = (0, (N : Int))) (hl8 : lf 8 = (0, (k : Int))) : (((s ≠ 0) ∨ (s = 0 ∧ (p : Int) ≠ (P : Int)) ∨ (s = 0 ∧ (p : Int) = (P : Int) ∧ (t : Int) ≠ (T : Int)) ∨ (s = 0 ∧ (p : Int) = (P : Int) ∧ (t : Int) = (T : Int) ∧ (q : Int) = (Q : Int)) ∨ (s = 0 ∧ (p : Int) = (P : Int) ∧ (t : Int) = (T : Int) ∧ (q : Int) ≠ (Q : Int) ∧ (w : Int) = (W : Int))) ∧ (∃ lf', lf' 0 = (4, 253) ∧ lf' 1 = (0, (W : Int)) ∧ lf' 2 = (0, (P : Int)) ∧ lf' 3 = (0, (Q : Int)) ∧ lf' 4 = (0, (T : Int)) ∧ lf' 5 = (0, (N : Int)) ∧ lf' 8 = (0, 1 + (k : Int)) ∧ zr sv L n 228 151 lf' [] g o)) ∨ ((s = 0 ∧ (p : Int) = (P : Int) ∧ (t : Int) = (T : Int) ∧ (q : Int) ≠ (Q : Int) ∧ (w : Int) ≠ (W : Int)) ∧ (∃ lf', lf' 0 = (4, 253) ∧ lf' 1 = (0, (W : Int)) ∧ lf' 2 = (0, (P : Int)) ∧ lf' 3 = (0, (Q : Int)) ∧ lf' 4 = (0, (T : Int)) ∧ lf' 5 = (0, (N : Int)) ∧ lf' 8 = (0, 1 + (k : Int)) ∧ zr sv L n 228 151 lf' [] (cup g 254 (104 + 8 * k) 1) o)) := by
  rw [zov hl0, zov hl1, zov hl2, zov hl3, zov hl4, zov hl5, zov hl8] at h
  have h := zm1 zy_228 h 2 (q := (cond (crel .ge ((k : Int)) ((N : Int))) 202 158, dset (dset (dset (dset (dset (dset (dset lf 8 (0, (k : Int))) 5 (0, (N : Int))) 4 (0, (T : Int))) 3 (0, (Q : Int))) 2 (0, (P : Int))) 1 (0, (W : Int))) 0 (4, 253), [], g)) rfl
  dsimp only at h
  rcases zif_ge h with ⟨hc1, h⟩ | ⟨hc1, h⟩
  · exact absurd hc1 (by omega)
  · have h := zm zy_228 h 4 (q := (164, dset (dset (dset (dset (dset (dset (dset lf 8 (0, (k : Int))) 5 (0, (N : Int))) 4 (0, (T : Int))) 3 (0, (Q : Int))) 2 (0, (P : Int))) 1 (0, (W : Int))) 0 (4, 253), [(0, (T : Int)), (0, (P : Int)), (0, (k : Int)), (4, 253)], g)) rfl
    dsimp only at h
    obtain ⟨gz2, rz3, hk, h⟩ := zcallI zy_228 h rfl rfl zy_221 zk_221
    dsimp only at hk h
    have hO4 := h
    have h := hk
    clear hk
    have h := zm zy_221 h 2 (q := (2, darg 0 [(4, 253), (0, (k : Int)), (0, (P : Int)), (0, (T : Int))], [(0, (k : Int)), (4, 253)], g)) rfl
    dsimp only at h
    obtain ⟨gz5, rz6, hk, h⟩ := zcallI zy_221 h rfl rfl zy_201 zk_201
    dsimp only at hk h
    have hO7 := h
    have h := hk
    clear hk
    have h := zm zy_201 h 3 (q := (5, darg 0 [(4, 253), (0, (k : Int))], [(0, (k : Int)), (4, 254)], g)) rfl
    dsimp only at h
    obtain ⟨gz8, rz9, hk, h⟩ := zcallI zy_201 h rfl rfl zy_199 zk_199
    dsimp only at hk h
    have hO10 := h
    have h := hk
    clear hk
    have h := zm zy_199 h 5 (q := (7, darg 0 [(0, (k : Int))], [(0, w32 (99 + (w32 (8 * ((k : Int))))))], g)) rfl
    dsimp only at h
    try rw [w32_eq (z := 8 * ((k : Int))) (v := 8 * (k : Int)) (by omega) (by omega) (by omega)] at h
    try rw [w32_eq (z := 99 + (8 * (k : Int))) (v := 99 + 8 * (k : Int)) (by omega) (by omega) (by omega)] at h
    have h := zret zy_199 h rfl rfl
    obtain ⟨e1, e2⟩ := oI h
    have h := hO10
    rw [e1, e2] at h
    clear e1 e2
    clear hO10
    have h := zm zy_201 h 2 (q := (10, darg 0 [(4, 253), (0, (k : Int))], [(0, w32 ((99 + 8 * (k : Int)) + 5)), (4, 254)], g)) rfl
    dsimp only at h
    try rw [w32_eq (z := (99 + 8 * (k : Int)) + 5) (v := 104 + 8 * (k : Int)) (by omega) (by omega) (by omega)] at h
    have h := zald zy_201 h rfl rfl (dvb_254 (i := 104 + 8 * (k : Int)) (by omega) (by omega))
    dsimp only at h
    try rw [show (104 + 8 * (k : Int)).toNat = 104 + 8 * k from by omega] at h
    try rw [hO.2.2.2.2.2.1] at h
    have h := zm zy_201 h 1 (q := (cond (crel .ne s 0) 18 14, darg 0 [(4, 253), (0, (k : Int))], [], g)) rfl
    dsimp only at h
    rcases zif_ne h with ⟨hc11, h⟩ | ⟨hc11, h⟩
    · have h := zm zy_201 h 1 (q := (19, darg 0 [(4, 253), (0, (k : Int))], [(0, 0)], g)) rfl
      dsimp only at h
      have h := zret zy_201 h rfl rfl
      obtain ⟨e1, e2⟩ := oI h
      have h := hO7
      rw [e1, e2] at h
      clear e1 e2
      clear hO7
      have h := zm zy_221 h 2 (q := (31, darg 0 [(4, 253), (0, (k : Int)), (0, (P : Int)), (0, (T : Int))], [(0, 0)], g)) rfl
      dsimp only at h
      have h := zret zy_221 h rfl rfl
      obtain ⟨e1, e2⟩ := oI h
      have h := hO4
      rw [e1, e2] at h
      clear e1 e2
      clear hO4
      have h := zm zy_228 h 3 (q := (151, dset (dset (dset (dset (dset (dset (dset (dset lf 8 (0, (k : Int))) 5 (0, (N : Int))) 4 (0, (T : Int))) 3 (0, (Q : Int))) 2 (0, (P : Int))) 1 (0, (W : Int))) 0 (4, 253)) 8 (0, w32 (((k : Int)) + 1)), [], g)) rfl
      dsimp only at h
      try rw [w32_eq (z := ((k : Int)) + 1) (v := 1 + (k : Int)) (by omega) (by omega) (by omega)] at h
      refine Or.inl (⟨Or.inl (hc11), ?_⟩)
      exact ⟨_, rfl, rfl, rfl, rfl, rfl, rfl, rfl, h⟩
    · have h := zm zy_201 h 2 (q := (19, darg 0 [(4, 253), (0, (k : Int))], [(0, 1)], g)) rfl
      dsimp only at h
      have h := zret zy_201 h rfl rfl
      obtain ⟨e1, e2⟩ := oI h
      have h := hO7
      rw [e1, e2] at h
      clear e1 e2
      clear hO7
      have h := zm zy_221 h 3 (q := (10, darg 0 [(4, 253), (0, (k : Int)), (0, (P : Int)), (0, (T : Int))], [(0, (k : Int)), (4, 253)], g)) rfl
      dsimp only at h
      obtain ⟨gz13, rz14, hk, h⟩ := zcallI zy_221 h rfl rfl zy_203 zk_203
      dsimp only at hk h
      have hO15 := h
      have h := hk
      clear hk
      have h := zm zy_203 h 3 (q := (5, darg 0 [(4, 253), (0, (k : Int))], [(0, (k : Int)), (4, 254)], g)) rfl
      dsimp only at h
      obtain ⟨gz16, rz17, hk, h⟩ := zcallI zy_203 h rfl rfl zy_199 zk_199
      dsimp only at hk h
      have hO18 := h
      have h := hk
      clear hk
      have h := zm zy_199 h 5 (q := (7, darg 0 [(0, (k : Int))], [(0, w32 (99 + (w32 (8 * ((k : Int))))))], g)) rfl
      dsimp only at h
      try rw [w32_eq (z := 8 * ((k : Int))) (v := 8 * (k : Int)) (by omega) (by omega) (by omega)] at h
      try rw [w32_eq (z := 99 + (8 * (k : Int))) (v := 99 + 8 * (k : Int)) (by omega) (by omega) (by omega)] at h
      have h := zret zy_199 h rfl rfl
      obtain ⟨e1, e2⟩ := oI h
      have h := hO18
      rw [e1, e2] at h
      clear e1 e2
      clear hO18
      have h := zm zy_203 h 2 (q := (10, darg 0 [(4, 253), (0, (k : Int))], [(0, w32 ((99 + 8 * (k : Int)) + 1)), (4, 254)], g)) rfl
      dsimp only at h
      try rw [w32_eq (z := (99 + 8 * (k : Int)) + 1) (v := 100 + 8 * (k : Int)) (by omega) (by omega) (by omega)] at h
      have h := zald zy_203 h rfl rfl (dvb_254 (i := 100 + 8 * (k : Int)) (by omega) (by omega))
      dsimp only at h
      try rw [show (100 + 8 * (k : Int)).toNat = 100 + 8 * k from by omega] at h
      try rw [hO.2.1] at h
      have h := zret zy_203 h rfl rfl
      obtain ⟨e1, e2⟩ := oI h
      have h := hO15
      rw [e1, e2] at h
      clear e1 e2
      clear hO15
      have h := zm zy_221 h 2 (q := (cond (crel .ne ((p : Int)) ((P : Int))) 30 17, darg 0 [(4, 253), (0, (k : Int)), (0, (P : Int)), (0, (T : Int))], [], g)) rfl
      dsimp only at h
      rcases zif_ne h with ⟨hc19, h⟩ | ⟨hc19, h⟩
      · have h := zm zy_221 h 1 (q := (31, darg 0 [(4, 253), (0, (k : Int)), (0, (P : Int)), (0, (T : Int))], [(0, 0)], g)) rfl
        dsimp only at h
        have h := zret zy_221 h rfl rfl
        obtain ⟨e1, e2⟩ := oI h
        have h := hO4
        rw [e1, e2] at h
        clear e1 e2
        clear hO4
        have h := zm zy_228 h 3 (q := (151, dset (dset (dset (dset (dset (dset (dset (dset lf 8 (0, (k : Int))) 5 (0, (N : Int))) 4 (0, (T : Int))) 3 (0, (Q : Int))) 2 (0, (P : Int))) 1 (0, (W : Int))) 0 (4, 253)) 8 (0, w32 (((k : Int)) + 1)), [], g)) rfl
        dsimp only at h
        try rw [w32_eq (z := ((k : Int)) + 1) (v := 1 + (k : Int)) (by omega) (by omega) (by omega)] at h
        refine Or.inl (⟨Or.inr (Or.inl (⟨hc11, hc19⟩)), ?_⟩)
        exact ⟨_, rfl, rfl, rfl, rfl, rfl, rfl, rfl, h⟩
      · have h := zm zy_221 h 2 (q := (19, darg 0 [(4, 253), (0, (k : Int)), (0, (P : Int)), (0, (T : Int))], [(0, (k : Int)), (4, 253)], g)) rfl
        dsimp only at h
        obtain ⟨gz21, rz22, hk, h⟩ := zcallI zy_221 h rfl rfl zy_204 zk_204
        dsimp only at hk h
        have hO23 := h
        have h := hk
        clear hk
        have h := zm zy_204 h 3 (q := (5, darg 0 [(4, 253), (0, (k : Int))], [(0, (k : Int)), (4, 254)], g)) rfl
        dsimp only at h
        obtain ⟨gz24, rz25, hk, h⟩ := zcallI zy_204 h rfl rfl zy_199 zk_199
        dsimp only at hk h
        have hO26 := h
        have h := hk
        clear hk
        have h := zm zy_199 h 5 (q := (7, darg 0 [(0, (k : Int))], [(0, w32 (99 + (w32 (8 * ((k : Int))))))], g)) rfl
        dsimp only at h
        try rw [w32_eq (z := 8 * ((k : Int))) (v := 8 * (k : Int)) (by omega) (by omega) (by omega)] at h
        try rw [w32_eq (z := 99 + (8 * (k : Int))) (v := 99 + 8 * (k : Int)) (by omega) (by omega) (by omega)] at h
        have h := zret zy_199 h rfl rfl
        obtain ⟨e1, e2⟩ := oI h
        have h := hO26
        rw [e1, e2] at h
        clear e1 e2
        clear hO26
        have h := zm zy_204 h 2 (q := (10, darg 0 [(4, 253), (0, (k : Int))], [(0, w32 ((99 + 8 * (k : Int)) + 3)), (4, 254)], g)) rfl
        dsimp only at h
        try rw [w32_eq (z := (99 + 8 * (k : Int)) + 3) (v := 102 + 8 * (k : Int)) (by omega) (by omega) (by omega)] at h
        have h := zald zy_204 h rfl rfl (dvb_254 (i := 102 + 8 * (k : Int)) (by omega) (by omega))
        dsimp only at h
        try rw [show (102 + 8 * (k : Int)).toNat = 102 + 8 * k from by omega] at h
        try rw [hO.2.2.2.1] at h
        have h := zret zy_204 h rfl rfl
        obtain ⟨e1, e2⟩ := oI h
        have h := hO23
        rw [e1, e2] at h
        clear e1 e2
        clear hO23
        have h := zm zy_221 h 2 (q := (cond (crel .ne ((t : Int)) ((T : Int))) 30 26, darg 0 [(4, 253), (0, (k : Int)), (0, (P : Int)), (0, (T : Int))], [], g)) rfl
        dsimp only at h
        rcases zif_ne h with ⟨hc27, h⟩ | ⟨hc27, h⟩
        · have h := zm zy_221 h 1 (q := (31, darg 0 [(4, 253), (0, (k : Int)), (0, (P : Int)), (0, (T : Int))], [(0, 0)], g)) rfl
          dsimp only at h
          have h := zret zy_221 h rfl rfl
          obtain ⟨e1, e2⟩ := oI h
          have h := hO4
          rw [e1, e2] at h
          clear e1 e2
          clear hO4
          have h := zm zy_228 h 3 (q := (151, dset (dset (dset (dset (dset (dset (dset (dset lf 8 (0, (k : Int))) 5 (0, (N : Int))) 4 (0, (T : Int))) 3 (0, (Q : Int))) 2 (0, (P : Int))) 1 (0, (W : Int))) 0 (4, 253)) 8 (0, w32 (((k : Int)) + 1)), [], g)) rfl
          dsimp only at h
          try rw [w32_eq (z := ((k : Int)) + 1) (v := 1 + (k : Int)) (by omega) (by omega) (by omega)] at h
          refine Or.inl (⟨Or.inr (Or.inr (Or.inl (⟨hc11, hc19, hc27⟩))), ?_⟩)
          exact ⟨_, rfl, rfl, rfl, rfl, rfl, rfl, rfl, h⟩
        · have h := zm zy_221 h 2 (q := (31, darg 0 [(4, 253), (0, (k : Int)), (0, (P : Int)), (0, (T : Int))], [(0, 1)], g)) rfl
          dsimp only at h
          have h := zret zy_221 h rfl rfl
          obtain ⟨e1, e2⟩ := oI h
          have h := hO4
          rw [e1, e2] at h
          clear e1 e2
          clear hO4
          have h := zm zy_228 h 3 (q := (173, dset (dset (dset (dset (dset (dset (dset lf 8 (0, (k : Int))) 5 (0, (N : Int))) 4 (0, (T : Int))) 3 (0, (Q : Int))) 2 (0, (P : Int))) 1 (0, (W : Int))) 0 (4, 253), [(0, (k : Int)), (4, 253)], g)) rfl
          dsimp only at h
          obtain ⟨gz29, rz30, hk, h⟩ := zcallI zy_228 h rfl rfl zy_206 zk_206
          dsimp only at hk h
          have hO31 := h
          have h := hk
          clear hk
          have h := zm zy_206 h 3 (q := (5, darg 0 [(4, 253), (0, (k : Int))], [(0, (k : Int)), (4, 254)], g)) rfl
          dsimp only at h
          obtain ⟨gz32, rz33, hk, h⟩ := zcallI zy_206 h rfl rfl zy_199 zk_199
          dsimp only at hk h
          have hO34 := h
          have h := hk
          clear hk
          have h := zm zy_199 h 5 (q := (7, darg 0 [(0, (k : Int))], [(0, w32 (99 + (w32 (8 * ((k : Int))))))], g)) rfl
          dsimp only at h
          try rw [w32_eq (z := 8 * ((k : Int))) (v := 8 * (k : Int)) (by omega) (by omega) (by omega)] at h
          try rw [w32_eq (z := 99 + (8 * (k : Int))) (v := 99 + 8 * (k : Int)) (by omega) (by omega) (by omega)] at h
          have h := zret zy_199 h rfl rfl
          obtain ⟨e1, e2⟩ := oI h
          have h := hO34
          rw [e1, e2] at h
          clear e1 e2
          clear hO34
          have h := zm zy_206 h 2 (q := (10, darg 0 [(4, 253), (0, (k : Int))], [(0, w32 ((99 + 8 * (k : Int)) + 2)), (4, 254)], g)) rfl
          dsimp only at h
          try rw [w32_eq (z := (99 + 8 * (k : Int)) + 2) (v := 101 + 8 * (k : Int)) (by omega) (by omega) (by omega)] at h
          have h := zald zy_206 h rfl rfl (dvb_254 (i := 101 + 8 * (k : Int)) (by omega) (by omega))
          dsimp only at h
          try rw [show (101 + 8 * (k : Int)).toNat = 101 + 8 * k from by omega] at h
          try rw [hO.2.2.1] at h
          have h := zret zy_206 h rfl rfl
          obtain ⟨e1, e2⟩ := oI h
          have h := hO31
          rw [e1, e2] at h
          clear e1 e2
          clear hO31
          have h := zm zy_228 h 2 (q := (cond (crel .eq ((q : Int)) ((Q : Int))) 196 180, dset (dset (dset (dset (dset (dset (dset lf 8 (0, (k : Int))) 5 (0, (N : Int))) 4 (0, (T : Int))) 3 (0, (Q : Int))) 2 (0, (P : Int))) 1 (0, (W : Int))) 0 (4, 253), [], g)) rfl
          dsimp only at h
          rcases zif_eq h with ⟨hc35, h⟩ | ⟨hc35, h⟩
          · have h := zm zy_228 h 2 (q := (151, dset (dset (dset (dset (dset (dset (dset (dset lf 8 (0, (k : Int))) 5 (0, (N : Int))) 4 (0, (T : Int))) 3 (0, (Q : Int))) 2 (0, (P : Int))) 1 (0, (W : Int))) 0 (4, 253)) 8 (0, w32 (((k : Int)) + 1)), [], g)) rfl
            dsimp only at h
            try rw [w32_eq (z := ((k : Int)) + 1) (v := 1 + (k : Int)) (by omega) (by omega) (by omega)] at h
            refine Or.inl (⟨Or.inr (Or.inr (Or.inr (Or.inl (⟨hc11, hc19, hc27, hc35⟩)))), ?_⟩)
            exact ⟨_, rfl, rfl, rfl, rfl, rfl, rfl, rfl, h⟩
          · have h := zm zy_228 h 2 (q := (183, dset (dset (dset (dset (dset (dset (dset lf 8 (0, (k : Int))) 5 (0, (N : Int))) 4 (0, (T : Int))) 3 (0, (Q : Int))) 2 (0, (P : Int))) 1 (0, (W : Int))) 0 (4, 253), [(0, (k : Int)), (4, 253)], g)) rfl
            dsimp only at h
            obtain ⟨gz37, rz38, hk, h⟩ := zcallI zy_228 h rfl rfl zy_211 zk_211
            dsimp only at hk h
            have hO39 := h
            have h := hk
            clear hk
            have h := zm zy_211 h 3 (q := (5, darg 0 [(4, 253), (0, (k : Int))], [(0, (k : Int)), (4, 254)], g)) rfl
            dsimp only at h
            obtain ⟨gz40, rz41, hk, h⟩ := zcallI zy_211 h rfl rfl zy_199 zk_199
            dsimp only at hk h
            have hO42 := h
            have h := hk
            clear hk
            have h := zm zy_199 h 5 (q := (7, darg 0 [(0, (k : Int))], [(0, w32 (99 + (w32 (8 * ((k : Int))))))], g)) rfl
            dsimp only at h
            try rw [w32_eq (z := 8 * ((k : Int))) (v := 8 * (k : Int)) (by omega) (by omega) (by omega)] at h
            try rw [w32_eq (z := 99 + (8 * (k : Int))) (v := 99 + 8 * (k : Int)) (by omega) (by omega) (by omega)] at h
            have h := zret zy_199 h rfl rfl
            obtain ⟨e1, e2⟩ := oI h
            have h := hO42
            rw [e1, e2] at h
            clear e1 e2
            clear hO42
            have h := zald zy_211 h rfl rfl (dvb_254 (i := 99 + 8 * (k : Int)) (by omega) (by omega))
            dsimp only at h
            try rw [show (99 + 8 * (k : Int)).toNat = 99 + 8 * k from by omega] at h
            try rw [hO.1] at h
            have h := zret zy_211 h rfl rfl
            obtain ⟨e1, e2⟩ := oI h
            have h := hO39
            rw [e1, e2] at h
            clear e1 e2
            clear hO39
            have h := zm zy_228 h 2 (q := (cond (crel .eq ((w : Int)) ((W : Int))) 196 190, dset (dset (dset (dset (dset (dset (dset lf 8 (0, (k : Int))) 5 (0, (N : Int))) 4 (0, (T : Int))) 3 (0, (Q : Int))) 2 (0, (P : Int))) 1 (0, (W : Int))) 0 (4, 253), [], g)) rfl
            dsimp only at h
            rcases zif_eq h with ⟨hc43, h⟩ | ⟨hc43, h⟩
            · have h := zm zy_228 h 2 (q := (151, dset (dset (dset (dset (dset (dset (dset (dset lf 8 (0, (k : Int))) 5 (0, (N : Int))) 4 (0, (T : Int))) 3 (0, (Q : Int))) 2 (0, (P : Int))) 1 (0, (W : Int))) 0 (4, 253)) 8 (0, w32 (((k : Int)) + 1)), [], g)) rfl
              dsimp only at h
              try rw [w32_eq (z := ((k : Int)) + 1) (v := 1 + (k : Int)) (by omega) (by omega) (by omega)] at h
              refine Or.inl (⟨Or.inr (Or.inr (Or.inr (Or.inr (⟨hc11, hc19, hc27, hc35, hc43⟩)))), ?_⟩)
              exact ⟨_, rfl, rfl, rfl, rfl, rfl, rfl, rfl, h⟩
            · have h := zm zy_228 h 2 (q := (193, dset (dset (dset (dset (dset (dset (dset lf 8 (0, (k : Int))) 5 (0, (N : Int))) 4 (0, (T : Int))) 3 (0, (Q : Int))) 2 (0, (P : Int))) 1 (0, (W : Int))) 0 (4, 253), [(0, (k : Int)), (4, 253)], g)) rfl
              dsimp only at h
              obtain ⟨gz45, hk, h⟩ := zcallV zy_228 h rfl rfl zy_229 zk_229
              dsimp only at hk h
              have hO47 := h
              have h := hk
              clear hk
              have h := zm zy_229 h 2 (q := (2, darg 0 [(4, 253), (0, (k : Int))], [(0, (k : Int)), (4, 253)], g)) rfl
              dsimp only at h
              obtain ⟨gz48, rz49, hk, h⟩ := zcallI zy_229 h rfl rfl zy_201 zk_201
              dsimp only at hk h
              have hO50 := h
              have h := hk
              clear hk
              have h := zm zy_201 h 3 (q := (5, darg 0 [(4, 253), (0, (k : Int))], [(0, (k : Int)), (4, 254)], g)) rfl
              dsimp only at h
              obtain ⟨gz51, rz52, hk, h⟩ := zcallI zy_201 h rfl rfl zy_199 zk_199
              dsimp only at hk h
              have hO53 := h
              have h := hk
              clear hk
              have h := zm zy_199 h 5 (q := (7, darg 0 [(0, (k : Int))], [(0, w32 (99 + (w32 (8 * ((k : Int))))))], g)) rfl
              dsimp only at h
              try rw [w32_eq (z := 8 * ((k : Int))) (v := 8 * (k : Int)) (by omega) (by omega) (by omega)] at h
              try rw [w32_eq (z := 99 + (8 * (k : Int))) (v := 99 + 8 * (k : Int)) (by omega) (by omega) (by omega)] at h
              have h := zret zy_199 h rfl rfl
              obtain ⟨e1, e2⟩ := oI h
              have h := hO53
              rw [e1, e2] at h
              clear e1 e2
              clear hO53
              have h := zm zy_201 h 2 (q := (10, darg 0 [(4, 253), (0, (k : Int))], [(0, w32 ((99 + 8 * (k : Int)) + 5)), (4, 254)], g)) rfl
              dsimp only at h
              try rw [w32_eq (z := (99 + 8 * (k : Int)) + 5) (v := 104 + 8 * (k : Int)) (by omega) (by omega) (by omega)] at h
              have h := zald zy_201 h rfl rfl (dvb_254 (i := 104 + 8 * (k : Int)) (by omega) (by omega))
              dsimp only at h
              try rw [show (104 + 8 * (k : Int)).toNat = 104 + 8 * k from by omega] at h
              try rw [hO.2.2.2.2.2.1] at h
              have h := zm zy_201 h 1 (q := (cond (crel .ne s 0) 18 14, darg 0 [(4, 253), (0, (k : Int))], [], g)) rfl
              dsimp only at h
              rcases zif_ne h with ⟨hc54, h⟩ | ⟨hc54, h⟩
              · exact absurd hc54 (by omega)
              · have h := zm zy_201 h 2 (q := (19, darg 0 [(4, 253), (0, (k : Int))], [(0, 1)], g)) rfl
                dsimp only at h
                have h := zret zy_201 h rfl rfl
                obtain ⟨e1, e2⟩ := oI h
                have h := hO50
                rw [e1, e2] at h
                clear e1 e2
                clear hO50
                have h := zm zy_229 h 4 (q := (13, darg 0 [(4, 253), (0, (k : Int))], [(0, (k : Int)), (4, 254)], g)) rfl
                dsimp only at h
                obtain ⟨gz55, rz56, hk, h⟩ := zcallI zy_229 h rfl rfl zy_199 zk_199
                dsimp only at hk h
                have hO57 := h
                have h := hk
                clear hk
                have h := zm zy_199 h 5 (q := (7, darg 0 [(0, (k : Int))], [(0, w32 (99 + (w32 (8 * ((k : Int))))))], g)) rfl
                dsimp only at h
                try rw [w32_eq (z := 8 * ((k : Int))) (v := 8 * (k : Int)) (by omega) (by omega) (by omega)] at h
                try rw [w32_eq (z := 99 + (8 * (k : Int))) (v := 99 + 8 * (k : Int)) (by omega) (by omega) (by omega)] at h
                have h := zret zy_199 h rfl rfl
                obtain ⟨e1, e2⟩ := oI h
                have h := hO57
                rw [e1, e2] at h
                clear e1 e2
                clear hO57
                have h := zm zy_229 h 4 (q := (20, darg 0 [(4, 253), (0, (k : Int))], [], cup g 254 ((w32 ((99 + 8 * (k : Int)) + 5)).toNat) 1)) rfl
                dsimp only at h
                try rw [w32_eq (z := (99 + 8 * (k : Int)) + 5) (v := 104 + 8 * (k : Int)) (by omega) (by omega) (by omega)] at h
                try rw [show (104 + 8 * (k : Int)).toNat = 104 + 8 * k from by omega] at h
                have h := zret zy_229 h rfl rfl
                have e1 := oV h
                have h := hO47
                rw [e1] at h
                clear e1
                clear hO47
                have h := zm zy_228 h 2 (q := (151, dset (dset (dset (dset (dset (dset (dset (dset lf 8 (0, (k : Int))) 5 (0, (N : Int))) 4 (0, (T : Int))) 3 (0, (Q : Int))) 2 (0, (P : Int))) 1 (0, (W : Int))) 0 (4, 253)) 8 (0, w32 (((k : Int)) + 1)), [], cup g 254 (104 + 8 * k) 1)) rfl
                dsimp only at h
                try rw [w32_eq (z := ((k : Int)) + 1) (v := 1 + (k : Int)) (by omega) (by omega) (by omega)] at h
                refine Or.inr (⟨⟨hc11, hc19, hc27, hc35, hc43⟩, ?_⟩)
                exact ⟨_, rfl, rfl, rfl, rfl, rfl, rfl, rfl, h⟩
theorem m_swr151e {sv : Nat → Int32} {L n : Nat} {lf : dlf} {g : cg} {o : cg × Option cv} {W P Q T k N : Nat} (rW : W ≤ 5) (rP : P ≤ 5) (rQ : Q ≤ 4) (rT : T ≤ 7) (rk : k ≤ 15) (rN : N ≤ 15) (hge : N ≤ k) (h : zr sv L (n + 1) 228 151 lf [] g o) (hl0 : lf 0 = (4, 253)) (hl1 : lf 1 = (0, (W : Int))) (hl2 : lf 2 = (0, (P : Int))) (hl3 : lf 3 = (0, (Q : Int))) (hl4 : lf 4 = (0, (T : Int))) (hl5 : lf 5 = (0, (N : Int))) (hl8 : lf 8 = (0, (k : Int))) : ∃ lf', lf' 0 = (4, 253) ∧ lf' 2 = (0, (P : Int)) ∧ lf' 4 = (0, (T : Int)) ∧ lf' 5 = (0, (N : Int)) ∧ zr sv L n 228 202 lf' [] g o := by
  rw [zov hl0, zov hl1, zov hl2, zov hl3, zov hl4, zov hl5, zov hl8] at h
  have h := zm1 zy_228 h 2 (q := (cond (crel .ge ((k : Int)) ((N : Int))) 202 158, dset (dset (dset (dset (dset (dset (dset lf 8 (0, (k : Int))) 5 (0, (N : Int))) 4 (0, (T : Int))) 3 (0, (Q : Int))) 2 (0, (P : Int))) 1 (0, (W : Int))) 0 (4, 253), [], g)) rfl
  dsimp only at h
  rcases zif_ge h with ⟨hc1, h⟩ | ⟨hc1, h⟩
  · exact ⟨_, rfl, rfl, rfl, rfl, h⟩
  · exact absurd hc1 (by omega)
theorem m_swr202 {sv : Nat → Int32} {L n : Nat} {lf : dlf} {g : cg} {o : cg × Option cv} {W P Q T N : Nat} {fn sn bn v : Int} (rW : W ≤ 5) (rP : P ≤ 5) (rQ : Q ≤ 4) (rT : T ≤ 7) (rN : N ≤ 15) (hn : OHM g N W P Q T fn sn bn) (hv : g 254 (51 + 8 * P + T) = v) (h : zr sv L n 228 202 lf [] g o) (hl0 : lf 0 = (4, 253)) (hl2 : lf 2 = (0, (P : Int))) (hl4 : lf 4 = (0, (T : Int))) (hl5 : lf 5 = (0, (N : Int))) : ((v ≠ (Q : Int)) ∧ (∃ lf', lf' 0 = (4, 253) ∧ lf' 2 = (0, (P : Int)) ∧ lf' 4 = (0, (T : Int)) ∧ lf' 5 = (0, (N : Int)) ∧ lf' 8 = (0, 0) ∧ lf' 9 = (0, 0) ∧ zr sv L n 228 218 lf' [] g o)) ∨ ((v = (Q : Int)) ∧ (o = (g, none))) := by
  rw [zov hl0, zov hl2, zov hl4, zov hl5] at h
  have h := zm zy_228 h 2 (q := (205, dset (dset (dset (dset lf 5 (0, (N : Int))) 4 (0, (T : Int))) 2 (0, (P : Int))) 0 (4, 253), [(0, (N : Int)), (4, 253)], g)) rfl
  dsimp only at h
  obtain ⟨gz1, rz2, hk, h⟩ := zcallI zy_228 h rfl rfl zy_202 zk_202
  dsimp only at hk h
  have hO3 := h
  have h := hk
  clear hk
  have h := zm zy_202 h 3 (q := (3, darg 0 [(4, 253), (0, (N : Int))], [(0, (N : Int)), (4, 253), (4, 253)], g)) rfl
  dsimp only at h
  obtain ⟨gz4, rz5, hk, h⟩ := zcallI zy_202 h rfl rfl zy_203 zk_203
  dsimp only at hk h
  have hO6 := h
  have h := hk
  clear hk
  have h := zm zy_203 h 3 (q := (5, darg 0 [(4, 253), (0, (N : Int))], [(0, (N : Int)), (4, 254)], g)) rfl
  dsimp only at h
  obtain ⟨gz7, rz8, hk, h⟩ := zcallI zy_203 h rfl rfl zy_199 zk_199
  dsimp only at hk h
  have hO9 := h
  have h := hk
  clear hk
  have h := zm zy_199 h 5 (q := (7, darg 0 [(0, (N : Int))], [(0, w32 (99 + (w32 (8 * ((N : Int))))))], g)) rfl
  dsimp only at h
  try rw [w32_eq (z := 8 * ((N : Int))) (v := 8 * (N : Int)) (by omega) (by omega) (by omega)] at h
  try rw [w32_eq (z := 99 + (8 * (N : Int))) (v := 99 + 8 * (N : Int)) (by omega) (by omega) (by omega)] at h
  have h := zret zy_199 h rfl rfl
  obtain ⟨e1, e2⟩ := oI h
  have h := hO9
  rw [e1, e2] at h
  clear e1 e2
  clear hO9
  have h := zm zy_203 h 2 (q := (10, darg 0 [(4, 253), (0, (N : Int))], [(0, w32 ((99 + 8 * (N : Int)) + 1)), (4, 254)], g)) rfl
  dsimp only at h
  try rw [w32_eq (z := (99 + 8 * (N : Int)) + 1) (v := 100 + 8 * (N : Int)) (by omega) (by omega) (by omega)] at h
  have h := zald zy_203 h rfl rfl (dvb_254 (i := 100 + 8 * (N : Int)) (by omega) (by omega))
  dsimp only at h
  try rw [show (100 + 8 * (N : Int)).toNat = 100 + 8 * N from by omega] at h
  try rw [hn.2.1] at h
  have h := zret zy_203 h rfl rfl
  obtain ⟨e1, e2⟩ := oI h
  have h := hO6
  rw [e1, e2] at h
  clear e1 e2
  clear hO6
  have h := zm zy_202 h 2 (q := (8, darg 0 [(4, 253), (0, (N : Int))], [(0, (N : Int)), (4, 253), (0, (P : Int)), (4, 253)], g)) rfl
  dsimp only at h
  obtain ⟨gz10, rz11, hk, h⟩ := zcallI zy_202 h rfl rfl zy_204 zk_204
  dsimp only at hk h
  have hO12 := h
  have h := hk
  clear hk
  have h := zm zy_204 h 3 (q := (5, darg 0 [(4, 253), (0, (N : Int))], [(0, (N : Int)), (4, 254)], g)) rfl
  dsimp only at h
  obtain ⟨gz13, rz14, hk, h⟩ := zcallI zy_204 h rfl rfl zy_199 zk_199
  dsimp only at hk h
  have hO15 := h
  have h := hk
  clear hk
  have h := zm zy_199 h 5 (q := (7, darg 0 [(0, (N : Int))], [(0, w32 (99 + (w32 (8 * ((N : Int))))))], g)) rfl
  dsimp only at h
  try rw [w32_eq (z := 8 * ((N : Int))) (v := 8 * (N : Int)) (by omega) (by omega) (by omega)] at h
  try rw [w32_eq (z := 99 + (8 * (N : Int))) (v := 99 + 8 * (N : Int)) (by omega) (by omega) (by omega)] at h
  have h := zret zy_199 h rfl rfl
  obtain ⟨e1, e2⟩ := oI h
  have h := hO15
  rw [e1, e2] at h
  clear e1 e2
  clear hO15
  have h := zm zy_204 h 2 (q := (10, darg 0 [(4, 253), (0, (N : Int))], [(0, w32 ((99 + 8 * (N : Int)) + 3)), (4, 254)], g)) rfl
  dsimp only at h
  try rw [w32_eq (z := (99 + 8 * (N : Int)) + 3) (v := 102 + 8 * (N : Int)) (by omega) (by omega) (by omega)] at h
  have h := zald zy_204 h rfl rfl (dvb_254 (i := 102 + 8 * (N : Int)) (by omega) (by omega))
  dsimp only at h
  try rw [show (102 + 8 * (N : Int)).toNat = 102 + 8 * N from by omega] at h
  try rw [hn.2.2.2.1] at h
  have h := zret zy_204 h rfl rfl
  obtain ⟨e1, e2⟩ := oI h
  have h := hO12
  rw [e1, e2] at h
  clear e1 e2
  clear hO12
  obtain ⟨gz16, rz17, hk, h⟩ := zcallI zy_202 h rfl rfl zy_205 zk_205
  dsimp only at hk h
  have hO18 := h
  have h := hk
  clear hk
  have h := zm zy_205 h 9 (q := (13, darg 0 [(4, 253), (0, (P : Int)), (0, (T : Int))], [(0, w32 ((w32 (51 + (w32 (8 * ((P : Int)))))) + ((T : Int)))), (4, 254)], g)) rfl
  dsimp only at h
  try rw [w32_eq (z := 8 * ((P : Int))) (v := 8 * (P : Int)) (by omega) (by omega) (by omega)] at h
  try rw [w32_eq (z := 51 + (8 * (P : Int))) (v := 51 + 8 * (P : Int)) (by omega) (by omega) (by omega)] at h
  try rw [w32_eq (z := (51 + 8 * (P : Int)) + ((T : Int))) (v := 51 + 8 * (P : Int) + (T : Int)) (by omega) (by omega) (by omega)] at h
  have h := zald zy_205 h rfl rfl (dvb_254 (i := 51 + 8 * (P : Int) + (T : Int)) (by omega) (by omega))
  dsimp only at h
  try rw [show (51 + 8 * (P : Int) + (T : Int)).toNat = 51 + 8 * P + T from by omega] at h
  try rw [hv] at h
  have h := zret zy_205 h rfl rfl
  obtain ⟨e1, e2⟩ := oI h
  have h := hO18
  rw [e1, e2] at h
  clear e1 e2
  clear hO18
  have h := zm zy_202 h 2 (q := (16, darg 0 [(4, 253), (0, (N : Int))], [(0, (N : Int)), (4, 253), (0, v)], g)) rfl
  dsimp only at h
  obtain ⟨gz19, rz20, hk, h⟩ := zcallI zy_202 h rfl rfl zy_206 zk_206
  dsimp only at hk h
  have hO21 := h
  have h := hk
  clear hk
  have h := zm zy_206 h 3 (q := (5, darg 0 [(4, 253), (0, (N : Int))], [(0, (N : Int)), (4, 254)], g)) rfl
  dsimp only at h
  obtain ⟨gz22, rz23, hk, h⟩ := zcallI zy_206 h rfl rfl zy_199 zk_199
  dsimp only at hk h
  have hO24 := h
  have h := hk
  clear hk
  have h := zm zy_199 h 5 (q := (7, darg 0 [(0, (N : Int))], [(0, w32 (99 + (w32 (8 * ((N : Int))))))], g)) rfl
  dsimp only at h
  try rw [w32_eq (z := 8 * ((N : Int))) (v := 8 * (N : Int)) (by omega) (by omega) (by omega)] at h
  try rw [w32_eq (z := 99 + (8 * (N : Int))) (v := 99 + 8 * (N : Int)) (by omega) (by omega) (by omega)] at h
  have h := zret zy_199 h rfl rfl
  obtain ⟨e1, e2⟩ := oI h
  have h := hO24
  rw [e1, e2] at h
  clear e1 e2
  clear hO24
  have h := zm zy_206 h 2 (q := (10, darg 0 [(4, 253), (0, (N : Int))], [(0, w32 ((99 + 8 * (N : Int)) + 2)), (4, 254)], g)) rfl
  dsimp only at h
  try rw [w32_eq (z := (99 + 8 * (N : Int)) + 2) (v := 101 + 8 * (N : Int)) (by omega) (by omega) (by omega)] at h
  have h := zald zy_206 h rfl rfl (dvb_254 (i := 101 + 8 * (N : Int)) (by omega) (by omega))
  dsimp only at h
  try rw [show (101 + 8 * (N : Int)).toNat = 101 + 8 * N from by omega] at h
  try rw [hn.2.2.1] at h
  have h := zret zy_206 h rfl rfl
  obtain ⟨e1, e2⟩ := oI h
  have h := hO21
  rw [e1, e2] at h
  clear e1 e2
  clear hO21
  have h := zm zy_202 h 1 (q := (cond (crel .ne v ((Q : Int))) 26 22, darg 0 [(4, 253), (0, (N : Int))], [], g)) rfl
  dsimp only at h
  rcases zif_ne h with ⟨hc25, h⟩ | ⟨hc25, h⟩
  · have h := zm zy_202 h 1 (q := (27, darg 0 [(4, 253), (0, (N : Int))], [(0, 0)], g)) rfl
    dsimp only at h
    have h := zret zy_202 h rfl rfl
    obtain ⟨e1, e2⟩ := oI h
    have h := hO3
    rw [e1, e2] at h
    clear e1 e2
    clear hO3
    have h := zm zy_228 h 5 (q := (218, dset (dset (dset (dset (dset (dset lf 5 (0, (N : Int))) 4 (0, (T : Int))) 2 (0, (P : Int))) 0 (4, 253)) 8 (0, 0)) 9 (0, 0), [], g)) rfl
    dsimp only at h
    refine Or.inl (⟨hc25, ?_⟩)
    exact ⟨_, rfl, rfl, rfl, rfl, rfl, rfl, h⟩
  · have h := zm zy_202 h 2 (q := (27, darg 0 [(4, 253), (0, (N : Int))], [(0, 1)], g)) rfl
    dsimp only at h
    have h := zret zy_202 h rfl rfl
    obtain ⟨e1, e2⟩ := oI h
    have h := hO3
    rw [e1, e2] at h
    clear e1 e2
    clear hO3
    have h := zm zy_228 h 1 (q := (211, dset (dset (dset (dset lf 5 (0, (N : Int))) 4 (0, (T : Int))) 2 (0, (P : Int))) 0 (4, 253), [], g)) rfl
    dsimp only at h
    refine Or.inr (⟨hc25, ?_⟩)
    exact zret zy_228 h rfl rfl
theorem m_swr218s {sv : Nat → Int32} {L n : Nat} {lf : dlf} {g : cg} {o : cg × Option cv} {W P Q T w p q t k N : Nat} {f s b z fn sn bn v : Int} (rW : W ≤ 5) (rP : P ≤ 5) (rQ : Q ≤ 4) (rT : T ≤ 7) (rw : w ≤ 5) (rp : p ≤ 5) (rq : q ≤ 4) (rt : t ≤ 7) (rk : k ≤ 15) (rN : N ≤ 15) (hn : OHM g N W P Q T fn sn bn) (hO : OHM g k w p q t f s b) (hv : g 254 (51 + 8 * p + t) = v) (hlt : k < N) (h : zr sv L (n + 1) 228 218 lf [] g o) (hl0 : lf 0 = (4, 253)) (hl2 : lf 2 = (0, (P : Int))) (hl4 : lf 4 = (0, (T : Int))) (hl5 : lf 5 = (0, (N : Int))) (hl8 : lf 8 = (0, z)) (hl9 : lf 9 = (0, (k : Int))) : (((s ≠ 0) ∨ (s = 0 ∧ v ≠ (q : Int) ∧ (p : Int) ≠ (P : Int)) ∨ (s = 0 ∧ v ≠ (q : Int) ∧ (p : Int) = (P : Int) ∧ (t : Int) = (T : Int)) ∨ (s = 0 ∧ v = (q : Int))) ∧ (∃ lf', lf' 0 = (4, 253) ∧ lf' 2 = (0, (P : Int)) ∧ lf' 4 = (0, (T : Int)) ∧ lf' 5 = (0, (N : Int)) ∧ lf' 8 = (0, z) ∧ lf' 9 = (0, 1 + (k : Int)) ∧ zr sv L n 228 218 lf' [] g o)) ∨ ((s = 0 ∧ v ≠ (q : Int) ∧ (p : Int) = (P : Int) ∧ (t : Int) ≠ (T : Int)) ∧ (∃ g_1 r_1, zr sv L n 231 0 (darg 0 [(4, 253), (0, (q : Int)), (0, (t : Int)), (0, (Q : Int)), (0, (T : Int))]) [] g (g_1, some (0, r_1)) ∧ (((r_1 = 0 ∧ g_1 254 (104 + 8 * k) ≠ 0) ∧ (∃ lf', lf' 0 = (4, 253) ∧ lf' 2 = (0, (P : Int)) ∧ lf' 4 = (0, (T : Int)) ∧ lf' 5 = (0, (N : Int)) ∧ lf' 8 = (0, 1) ∧ lf' 9 = (0, 1 + (k : Int)) ∧ zr sv L n 228 218 lf' [] g_1 o)) ∨ ((r_1 = 0 ∧ g_1 254 (104 + 8 * k) = 0) ∧ (∃ lf', lf' 0 = (4, 253) ∧ lf' 2 = (0, (P : Int)) ∧ lf' 4 = (0, (T : Int)) ∧ lf' 5 = (0, (N : Int)) ∧ lf' 8 = (0, 1) ∧ lf' 9 = (0, 1 + (k : Int)) ∧ zr sv L n 228 218 lf' [] (cup g_1 254 (104 + 8 * k) 1) o)) ∨ ((r_1 ≠ 0) ∧ (∃ lf', lf' 0 = (4, 253) ∧ lf' 2 = (0, (P : Int)) ∧ lf' 4 = (0, (T : Int)) ∧ lf' 5 = (0, (N : Int)) ∧ lf' 8 = (0, z) ∧ lf' 9 = (0, 1 + (k : Int)) ∧ zr sv L n 228 218 lf' [] g_1 o))))) := by
  rw [zov hl0, zov hl2, zov hl4, zov hl5, zov hl8, zov hl9] at h
  have h := zm1 zy_228 h 2 (q := (cond (crel .ge ((k : Int)) ((N : Int))) 284 225, dset (dset (dset (dset (dset (dset lf 9 (0, (k : Int))) 8 (0, z)) 5 (0, (N : Int))) 4 (0, (T : Int))) 2 (0, (P : Int))) 0 (4, 253), [], g)) rfl
  dsimp only at h
  rcases zif_ge h with ⟨hc1, h⟩ | ⟨hc1, h⟩
  · exact absurd hc1 (by omega)
  · have h := zm zy_228 h 2 (q := (228, dset (dset (dset (dset (dset (dset lf 9 (0, (k : Int))) 8 (0, z)) 5 (0, (N : Int))) 4 (0, (T : Int))) 2 (0, (P : Int))) 0 (4, 253), [(0, (k : Int)), (4, 253)], g)) rfl
    dsimp only at h
    obtain ⟨gz2, rz3, hk, h⟩ := zcallI zy_228 h rfl rfl zy_200 zk_200
    dsimp only at hk h
    have hO4 := h
    have h := hk
    clear hk
    have h := zm zy_200 h 2 (q := (2, darg 0 [(4, 253), (0, (k : Int))], [(0, (k : Int)), (4, 253)], g)) rfl
    dsimp only at h
    obtain ⟨gz5, rz6, hk, h⟩ := zcallI zy_200 h rfl rfl zy_201 zk_201
    dsimp only at hk h
    have hO7 := h
    have h := hk
    clear hk
    have h := zm zy_201 h 3 (q := (5, darg 0 [(4, 253), (0, (k : Int))], [(0, (k : Int)), (4, 254)], g)) rfl
    dsimp only at h
    obtain ⟨gz8, rz9, hk, h⟩ := zcallI zy_201 h rfl rfl zy_199 zk_199
    dsimp only at hk h
    have hO10 := h
    have h := hk
    clear hk
    have h := zm zy_199 h 5 (q := (7, darg 0 [(0, (k : Int))], [(0, w32 (99 + (w32 (8 * ((k : Int))))))], g)) rfl
    dsimp only at h
    try rw [w32_eq (z := 8 * ((k : Int))) (v := 8 * (k : Int)) (by omega) (by omega) (by omega)] at h
    try rw [w32_eq (z := 99 + (8 * (k : Int))) (v := 99 + 8 * (k : Int)) (by omega) (by omega) (by omega)] at h
    have h := zret zy_199 h rfl rfl
    obtain ⟨e1, e2⟩ := oI h
    have h := hO10
    rw [e1, e2] at h
    clear e1 e2
    clear hO10
    have h := zm zy_201 h 2 (q := (10, darg 0 [(4, 253), (0, (k : Int))], [(0, w32 ((99 + 8 * (k : Int)) + 5)), (4, 254)], g)) rfl
    dsimp only at h
    try rw [w32_eq (z := (99 + 8 * (k : Int)) + 5) (v := 104 + 8 * (k : Int)) (by omega) (by omega) (by omega)] at h
    have h := zald zy_201 h rfl rfl (dvb_254 (i := 104 + 8 * (k : Int)) (by omega) (by omega))
    dsimp only at h
    try rw [show (104 + 8 * (k : Int)).toNat = 104 + 8 * k from by omega] at h
    try rw [hO.2.2.2.2.2.1] at h
    have h := zm zy_201 h 1 (q := (cond (crel .ne s 0) 18 14, darg 0 [(4, 253), (0, (k : Int))], [], g)) rfl
    dsimp only at h
    rcases zif_ne h with ⟨hc11, h⟩ | ⟨hc11, h⟩
    · have h := zm zy_201 h 1 (q := (19, darg 0 [(4, 253), (0, (k : Int))], [(0, 0)], g)) rfl
      dsimp only at h
      have h := zret zy_201 h rfl rfl
      obtain ⟨e1, e2⟩ := oI h
      have h := hO7
      rw [e1, e2] at h
      clear e1 e2
      clear hO7
      have h := zm zy_200 h 2 (q := (21, darg 0 [(4, 253), (0, (k : Int))], [(0, 0)], g)) rfl
      dsimp only at h
      have h := zret zy_200 h rfl rfl
      obtain ⟨e1, e2⟩ := oI h
      have h := hO4
      rw [e1, e2] at h
      clear e1 e2
      clear hO4
      have h := zm zy_228 h 3 (q := (218, dset (dset (dset (dset (dset (dset (dset lf 9 (0, (k : Int))) 8 (0, z)) 5 (0, (N : Int))) 4 (0, (T : Int))) 2 (0, (P : Int))) 0 (4, 253)) 9 (0, w32 (((k : Int)) + 1)), [], g)) rfl
      dsimp only at h
      try rw [w32_eq (z := ((k : Int)) + 1) (v := 1 + (k : Int)) (by omega) (by omega) (by omega)] at h
      refine Or.inl (⟨Or.inl (hc11), ?_⟩)
      exact ⟨_, rfl, rfl, rfl, rfl, rfl, rfl, h⟩
    · have h := zm zy_201 h 2 (q := (19, darg 0 [(4, 253), (0, (k : Int))], [(0, 1)], g)) rfl
      dsimp only at h
      have h := zret zy_201 h rfl rfl
      obtain ⟨e1, e2⟩ := oI h
      have h := hO7
      rw [e1, e2] at h
      clear e1 e2
      clear hO7
      have h := zm zy_200 h 3 (q := (10, darg 0 [(4, 253), (0, (k : Int))], [(0, (k : Int)), (4, 253)], g)) rfl
      dsimp only at h
      obtain ⟨gz13, rz14, hk, h⟩ := zcallI zy_200 h rfl rfl zy_202 zk_202
      dsimp only at hk h
      have hO15 := h
      have h := hk
      clear hk
      have h := zm zy_202 h 3 (q := (3, darg 0 [(4, 253), (0, (k : Int))], [(0, (k : Int)), (4, 253), (4, 253)], g)) rfl
      dsimp only at h
      obtain ⟨gz16, rz17, hk, h⟩ := zcallI zy_202 h rfl rfl zy_203 zk_203
      dsimp only at hk h
      have hO18 := h
      have h := hk
      clear hk
      have h := zm zy_203 h 3 (q := (5, darg 0 [(4, 253), (0, (k : Int))], [(0, (k : Int)), (4, 254)], g)) rfl
      dsimp only at h
      obtain ⟨gz19, rz20, hk, h⟩ := zcallI zy_203 h rfl rfl zy_199 zk_199
      dsimp only at hk h
      have hO21 := h
      have h := hk
      clear hk
      have h := zm zy_199 h 5 (q := (7, darg 0 [(0, (k : Int))], [(0, w32 (99 + (w32 (8 * ((k : Int))))))], g)) rfl
      dsimp only at h
      try rw [w32_eq (z := 8 * ((k : Int))) (v := 8 * (k : Int)) (by omega) (by omega) (by omega)] at h
      try rw [w32_eq (z := 99 + (8 * (k : Int))) (v := 99 + 8 * (k : Int)) (by omega) (by omega) (by omega)] at h
      have h := zret zy_199 h rfl rfl
      obtain ⟨e1, e2⟩ := oI h
      have h := hO21
      rw [e1, e2] at h
      clear e1 e2
      clear hO21
      have h := zm zy_203 h 2 (q := (10, darg 0 [(4, 253), (0, (k : Int))], [(0, w32 ((99 + 8 * (k : Int)) + 1)), (4, 254)], g)) rfl
      dsimp only at h
      try rw [w32_eq (z := (99 + 8 * (k : Int)) + 1) (v := 100 + 8 * (k : Int)) (by omega) (by omega) (by omega)] at h
      have h := zald zy_203 h rfl rfl (dvb_254 (i := 100 + 8 * (k : Int)) (by omega) (by omega))
      dsimp only at h
      try rw [show (100 + 8 * (k : Int)).toNat = 100 + 8 * k from by omega] at h
      try rw [hO.2.1] at h
      have h := zret zy_203 h rfl rfl
      obtain ⟨e1, e2⟩ := oI h
      have h := hO18
      rw [e1, e2] at h
      clear e1 e2
      clear hO18
      have h := zm zy_202 h 2 (q := (8, darg 0 [(4, 253), (0, (k : Int))], [(0, (k : Int)), (4, 253), (0, (p : Int)), (4, 253)], g)) rfl
      dsimp only at h
      obtain ⟨gz22, rz23, hk, h⟩ := zcallI zy_202 h rfl rfl zy_204 zk_204
      dsimp only at hk h
      have hO24 := h
      have h := hk
      clear hk
      have h := zm zy_204 h 3 (q := (5, darg 0 [(4, 253), (0, (k : Int))], [(0, (k : Int)), (4, 254)], g)) rfl
      dsimp only at h
      obtain ⟨gz25, rz26, hk, h⟩ := zcallI zy_204 h rfl rfl zy_199 zk_199
      dsimp only at hk h
      have hO27 := h
      have h := hk
      clear hk
      have h := zm zy_199 h 5 (q := (7, darg 0 [(0, (k : Int))], [(0, w32 (99 + (w32 (8 * ((k : Int))))))], g)) rfl
      dsimp only at h
      try rw [w32_eq (z := 8 * ((k : Int))) (v := 8 * (k : Int)) (by omega) (by omega) (by omega)] at h
      try rw [w32_eq (z := 99 + (8 * (k : Int))) (v := 99 + 8 * (k : Int)) (by omega) (by omega) (by omega)] at h
      have h := zret zy_199 h rfl rfl
      obtain ⟨e1, e2⟩ := oI h
      have h := hO27
      rw [e1, e2] at h
      clear e1 e2
      clear hO27
      have h := zm zy_204 h 2 (q := (10, darg 0 [(4, 253), (0, (k : Int))], [(0, w32 ((99 + 8 * (k : Int)) + 3)), (4, 254)], g)) rfl
      dsimp only at h
      try rw [w32_eq (z := (99 + 8 * (k : Int)) + 3) (v := 102 + 8 * (k : Int)) (by omega) (by omega) (by omega)] at h
      have h := zald zy_204 h rfl rfl (dvb_254 (i := 102 + 8 * (k : Int)) (by omega) (by omega))
      dsimp only at h
      try rw [show (102 + 8 * (k : Int)).toNat = 102 + 8 * k from by omega] at h
      try rw [hO.2.2.2.1] at h
      have h := zret zy_204 h rfl rfl
      obtain ⟨e1, e2⟩ := oI h
      have h := hO24
      rw [e1, e2] at h
      clear e1 e2
      clear hO24
      obtain ⟨gz28, rz29, hk, h⟩ := zcallI zy_202 h rfl rfl zy_205 zk_205
      dsimp only at hk h
      have hO30 := h
      have h := hk
      clear hk
      have h := zm zy_205 h 9 (q := (13, darg 0 [(4, 253), (0, (p : Int)), (0, (t : Int))], [(0, w32 ((w32 (51 + (w32 (8 * ((p : Int)))))) + ((t : Int)))), (4, 254)], g)) rfl
      dsimp only at h
      try rw [w32_eq (z := 8 * ((p : Int))) (v := 8 * (p : Int)) (by omega) (by omega) (by omega)] at h
      try rw [w32_eq (z := 51 + (8 * (p : Int))) (v := 51 + 8 * (p : Int)) (by omega) (by omega) (by omega)] at h
      try rw [w32_eq (z := (51 + 8 * (p : Int)) + ((t : Int))) (v := 51 + 8 * (p : Int) + (t : Int)) (by omega) (by omega) (by omega)] at h
      have h := zald zy_205 h rfl rfl (dvb_254 (i := 51 + 8 * (p : Int) + (t : Int)) (by omega) (by omega))
      dsimp only at h
      try rw [show (51 + 8 * (p : Int) + (t : Int)).toNat = 51 + 8 * p + t from by omega] at h
      try rw [hv] at h
      have h := zret zy_205 h rfl rfl
      obtain ⟨e1, e2⟩ := oI h
      have h := hO30
      rw [e1, e2] at h
      clear e1 e2
      clear hO30
      have h := zm zy_202 h 2 (q := (16, darg 0 [(4, 253), (0, (k : Int))], [(0, (k : Int)), (4, 253), (0, v)], g)) rfl
      dsimp only at h
      obtain ⟨gz31, rz32, hk, h⟩ := zcallI zy_202 h rfl rfl zy_206 zk_206
      dsimp only at hk h
      have hO33 := h
      have h := hk
      clear hk
      have h := zm zy_206 h 3 (q := (5, darg 0 [(4, 253), (0, (k : Int))], [(0, (k : Int)), (4, 254)], g)) rfl
      dsimp only at h
      obtain ⟨gz34, rz35, hk, h⟩ := zcallI zy_206 h rfl rfl zy_199 zk_199
      dsimp only at hk h
      have hO36 := h
      have h := hk
      clear hk
      have h := zm zy_199 h 5 (q := (7, darg 0 [(0, (k : Int))], [(0, w32 (99 + (w32 (8 * ((k : Int))))))], g)) rfl
      dsimp only at h
      try rw [w32_eq (z := 8 * ((k : Int))) (v := 8 * (k : Int)) (by omega) (by omega) (by omega)] at h
      try rw [w32_eq (z := 99 + (8 * (k : Int))) (v := 99 + 8 * (k : Int)) (by omega) (by omega) (by omega)] at h
      have h := zret zy_199 h rfl rfl
      obtain ⟨e1, e2⟩ := oI h
      have h := hO36
      rw [e1, e2] at h
      clear e1 e2
      clear hO36
      have h := zm zy_206 h 2 (q := (10, darg 0 [(4, 253), (0, (k : Int))], [(0, w32 ((99 + 8 * (k : Int)) + 2)), (4, 254)], g)) rfl
      dsimp only at h
      try rw [w32_eq (z := (99 + 8 * (k : Int)) + 2) (v := 101 + 8 * (k : Int)) (by omega) (by omega) (by omega)] at h
      have h := zald zy_206 h rfl rfl (dvb_254 (i := 101 + 8 * (k : Int)) (by omega) (by omega))
      dsimp only at h
      try rw [show (101 + 8 * (k : Int)).toNat = 101 + 8 * k from by omega] at h
      try rw [hO.2.2.1] at h
      have h := zret zy_206 h rfl rfl
      obtain ⟨e1, e2⟩ := oI h
      have h := hO33
      rw [e1, e2] at h
      clear e1 e2
      clear hO33
      have h := zm zy_202 h 1 (q := (cond (crel .ne v ((q : Int))) 26 22, darg 0 [(4, 253), (0, (k : Int))], [], g)) rfl
      dsimp only at h
      rcases zif_ne h with ⟨hc37, h⟩ | ⟨hc37, h⟩
      · have h := zm zy_202 h 1 (q := (27, darg 0 [(4, 253), (0, (k : Int))], [(0, 0)], g)) rfl
        dsimp only at h
        have h := zret zy_202 h rfl rfl
        obtain ⟨e1, e2⟩ := oI h
        have h := hO15
        rw [e1, e2] at h
        clear e1 e2
        clear hO15
        have h := zm zy_200 h 3 (q := (21, darg 0 [(4, 253), (0, (k : Int))], [(0, 1)], g)) rfl
        dsimp only at h
        have h := zret zy_200 h rfl rfl
        obtain ⟨e1, e2⟩ := oI h
        have h := hO4
        rw [e1, e2] at h
        clear e1 e2
        clear hO4
        have h := zm zy_228 h 3 (q := (237, dset (dset (dset (dset (dset (dset lf 9 (0, (k : Int))) 8 (0, z)) 5 (0, (N : Int))) 4 (0, (T : Int))) 2 (0, (P : Int))) 0 (4, 253), [(0, (k : Int)), (4, 253)], g)) rfl
        dsimp only at h
        obtain ⟨gz38, rz39, hk, h⟩ := zcallI zy_228 h rfl rfl zy_203 zk_203
        dsimp only at hk h
        have hO40 := h
        have h := hk
        clear hk
        have h := zm zy_203 h 3 (q := (5, darg 0 [(4, 253), (0, (k : Int))], [(0, (k : Int)), (4, 254)], g)) rfl
        dsimp only at h
        obtain ⟨gz41, rz42, hk, h⟩ := zcallI zy_203 h rfl rfl zy_199 zk_199
        dsimp only at hk h
        have hO43 := h
        have h := hk
        clear hk
        have h := zm zy_199 h 5 (q := (7, darg 0 [(0, (k : Int))], [(0, w32 (99 + (w32 (8 * ((k : Int))))))], g)) rfl
        dsimp only at h
        try rw [w32_eq (z := 8 * ((k : Int))) (v := 8 * (k : Int)) (by omega) (by omega) (by omega)] at h
        try rw [w32_eq (z := 99 + (8 * (k : Int))) (v := 99 + 8 * (k : Int)) (by omega) (by omega) (by omega)] at h
        have h := zret zy_199 h rfl rfl
        obtain ⟨e1, e2⟩ := oI h
        have h := hO43
        rw [e1, e2] at h
        clear e1 e2
        clear hO43
        have h := zm zy_203 h 2 (q := (10, darg 0 [(4, 253), (0, (k : Int))], [(0, w32 ((99 + 8 * (k : Int)) + 1)), (4, 254)], g)) rfl
        dsimp only at h
        try rw [w32_eq (z := (99 + 8 * (k : Int)) + 1) (v := 100 + 8 * (k : Int)) (by omega) (by omega) (by omega)] at h
        have h := zald zy_203 h rfl rfl (dvb_254 (i := 100 + 8 * (k : Int)) (by omega) (by omega))
        dsimp only at h
        try rw [show (100 + 8 * (k : Int)).toNat = 100 + 8 * k from by omega] at h
        try rw [hO.2.1] at h
        have h := zret zy_203 h rfl rfl
        obtain ⟨e1, e2⟩ := oI h
        have h := hO40
        rw [e1, e2] at h
        clear e1 e2
        clear hO40
        have h := zm zy_228 h 2 (q := (cond (crel .ne ((p : Int)) ((P : Int))) 278 244, dset (dset (dset (dset (dset (dset lf 9 (0, (k : Int))) 8 (0, z)) 5 (0, (N : Int))) 4 (0, (T : Int))) 2 (0, (P : Int))) 0 (4, 253), [], g)) rfl
        dsimp only at h
        rcases zif_ne h with ⟨hc44, h⟩ | ⟨hc44, h⟩
        · have h := zm zy_228 h 2 (q := (218, dset (dset (dset (dset (dset (dset (dset lf 9 (0, (k : Int))) 8 (0, z)) 5 (0, (N : Int))) 4 (0, (T : Int))) 2 (0, (P : Int))) 0 (4, 253)) 9 (0, w32 (((k : Int)) + 1)), [], g)) rfl
          dsimp only at h
          try rw [w32_eq (z := ((k : Int)) + 1) (v := 1 + (k : Int)) (by omega) (by omega) (by omega)] at h
          refine Or.inl (⟨Or.inr (Or.inl (⟨hc11, hc37, hc44⟩)), ?_⟩)
          exact ⟨_, rfl, rfl, rfl, rfl, rfl, rfl, h⟩
        · have h := zm zy_228 h 2 (q := (247, dset (dset (dset (dset (dset (dset lf 9 (0, (k : Int))) 8 (0, z)) 5 (0, (N : Int))) 4 (0, (T : Int))) 2 (0, (P : Int))) 0 (4, 253), [(0, (k : Int)), (4, 253)], g)) rfl
          dsimp only at h
          obtain ⟨gz46, rz47, hk, h⟩ := zcallI zy_228 h rfl rfl zy_204 zk_204
          dsimp only at hk h
          have hO48 := h
          have h := hk
          clear hk
          have h := zm zy_204 h 3 (q := (5, darg 0 [(4, 253), (0, (k : Int))], [(0, (k : Int)), (4, 254)], g)) rfl
          dsimp only at h
          obtain ⟨gz49, rz50, hk, h⟩ := zcallI zy_204 h rfl rfl zy_199 zk_199
          dsimp only at hk h
          have hO51 := h
          have h := hk
          clear hk
          have h := zm zy_199 h 5 (q := (7, darg 0 [(0, (k : Int))], [(0, w32 (99 + (w32 (8 * ((k : Int))))))], g)) rfl
          dsimp only at h
          try rw [w32_eq (z := 8 * ((k : Int))) (v := 8 * (k : Int)) (by omega) (by omega) (by omega)] at h
          try rw [w32_eq (z := 99 + (8 * (k : Int))) (v := 99 + 8 * (k : Int)) (by omega) (by omega) (by omega)] at h
          have h := zret zy_199 h rfl rfl
          obtain ⟨e1, e2⟩ := oI h
          have h := hO51
          rw [e1, e2] at h
          clear e1 e2
          clear hO51
          have h := zm zy_204 h 2 (q := (10, darg 0 [(4, 253), (0, (k : Int))], [(0, w32 ((99 + 8 * (k : Int)) + 3)), (4, 254)], g)) rfl
          dsimp only at h
          try rw [w32_eq (z := (99 + 8 * (k : Int)) + 3) (v := 102 + 8 * (k : Int)) (by omega) (by omega) (by omega)] at h
          have h := zald zy_204 h rfl rfl (dvb_254 (i := 102 + 8 * (k : Int)) (by omega) (by omega))
          dsimp only at h
          try rw [show (102 + 8 * (k : Int)).toNat = 102 + 8 * k from by omega] at h
          try rw [hO.2.2.2.1] at h
          have h := zret zy_204 h rfl rfl
          obtain ⟨e1, e2⟩ := oI h
          have h := hO48
          rw [e1, e2] at h
          clear e1 e2
          clear hO48
          have h := zm zy_228 h 2 (q := (cond (crel .eq ((t : Int)) ((T : Int))) 278 255, dset (dset (dset (dset (dset (dset lf 9 (0, (k : Int))) 8 (0, z)) 5 (0, (N : Int))) 4 (0, (T : Int))) 2 (0, (P : Int))) 0 (4, 253), [], g)) rfl
          dsimp only at h
          rcases zif_eq h with ⟨hc52, h⟩ | ⟨hc52, h⟩
          · have h := zm zy_228 h 2 (q := (218, dset (dset (dset (dset (dset (dset (dset lf 9 (0, (k : Int))) 8 (0, z)) 5 (0, (N : Int))) 4 (0, (T : Int))) 2 (0, (P : Int))) 0 (4, 253)) 9 (0, w32 (((k : Int)) + 1)), [], g)) rfl
            dsimp only at h
            try rw [w32_eq (z := ((k : Int)) + 1) (v := 1 + (k : Int)) (by omega) (by omega) (by omega)] at h
            refine Or.inl (⟨Or.inr (Or.inr (Or.inl (⟨hc11, hc37, hc44, hc52⟩))), ?_⟩)
            exact ⟨_, rfl, rfl, rfl, rfl, rfl, rfl, h⟩
          · have h := zm zy_228 h 3 (q := (260, dset (dset (dset (dset (dset (dset lf 9 (0, (k : Int))) 8 (0, z)) 5 (0, (N : Int))) 4 (0, (T : Int))) 2 (0, (P : Int))) 0 (4, 253), [(0, (N : Int)), (0, (k : Int)), (4, 253)], g)) rfl
            dsimp only at h
            obtain ⟨gz54, rz55, hk, h⟩ := zcallI zy_228 h rfl rfl zy_230 zk_230
            dsimp only at hk h
            have hO56 := h
            have h := hk
            clear hk
            have h := zm zy_230 h 3 (q := (3, darg 0 [(4, 253), (0, (k : Int)), (0, (N : Int))], [(0, (k : Int)), (4, 253), (4, 253)], g)) rfl
            dsimp only at h
            obtain ⟨gz57, rz58, hk, h⟩ := zcallI zy_230 h rfl rfl zy_206 zk_206
            dsimp only at hk h
            have hO59 := h
            have h := hk
            clear hk
            have h := zm zy_206 h 3 (q := (5, darg 0 [(4, 253), (0, (k : Int))], [(0, (k : Int)), (4, 254)], g)) rfl
            dsimp only at h
            obtain ⟨gz60, rz61, hk, h⟩ := zcallI zy_206 h rfl rfl zy_199 zk_199
            dsimp only at hk h
            have hO62 := h
            have h := hk
            clear hk
            have h := zm zy_199 h 5 (q := (7, darg 0 [(0, (k : Int))], [(0, w32 (99 + (w32 (8 * ((k : Int))))))], g)) rfl
            dsimp only at h
            try rw [w32_eq (z := 8 * ((k : Int))) (v := 8 * (k : Int)) (by omega) (by omega) (by omega)] at h
            try rw [w32_eq (z := 99 + (8 * (k : Int))) (v := 99 + 8 * (k : Int)) (by omega) (by omega) (by omega)] at h
            have h := zret zy_199 h rfl rfl
            obtain ⟨e1, e2⟩ := oI h
            have h := hO62
            rw [e1, e2] at h
            clear e1 e2
            clear hO62
            have h := zm zy_206 h 2 (q := (10, darg 0 [(4, 253), (0, (k : Int))], [(0, w32 ((99 + 8 * (k : Int)) + 2)), (4, 254)], g)) rfl
            dsimp only at h
            try rw [w32_eq (z := (99 + 8 * (k : Int)) + 2) (v := 101 + 8 * (k : Int)) (by omega) (by omega) (by omega)] at h
            have h := zald zy_206 h rfl rfl (dvb_254 (i := 101 + 8 * (k : Int)) (by omega) (by omega))
            dsimp only at h
            try rw [show (101 + 8 * (k : Int)).toNat = 101 + 8 * k from by omega] at h
            try rw [hO.2.2.1] at h
            have h := zret zy_206 h rfl rfl
            obtain ⟨e1, e2⟩ := oI h
            have h := hO59
            rw [e1, e2] at h
            clear e1 e2
            clear hO59
            have h := zm zy_230 h 2 (q := (8, darg 0 [(4, 253), (0, (k : Int)), (0, (N : Int))], [(0, (k : Int)), (4, 253), (0, (q : Int)), (4, 253)], g)) rfl
            dsimp only at h
            obtain ⟨gz63, rz64, hk, h⟩ := zcallI zy_230 h rfl rfl zy_204 zk_204
            dsimp only at hk h
            have hO65 := h
            have h := hk
            clear hk
            have h := zm zy_204 h 3 (q := (5, darg 0 [(4, 253), (0, (k : Int))], [(0, (k : Int)), (4, 254)], g)) rfl
            dsimp only at h
            obtain ⟨gz66, rz67, hk, h⟩ := zcallI zy_204 h rfl rfl zy_199 zk_199
            dsimp only at hk h
            have hO68 := h
            have h := hk
            clear hk
            have h := zm zy_199 h 5 (q := (7, darg 0 [(0, (k : Int))], [(0, w32 (99 + (w32 (8 * ((k : Int))))))], g)) rfl
            dsimp only at h
            try rw [w32_eq (z := 8 * ((k : Int))) (v := 8 * (k : Int)) (by omega) (by omega) (by omega)] at h
            try rw [w32_eq (z := 99 + (8 * (k : Int))) (v := 99 + 8 * (k : Int)) (by omega) (by omega) (by omega)] at h
            have h := zret zy_199 h rfl rfl
            obtain ⟨e1, e2⟩ := oI h
            have h := hO68
            rw [e1, e2] at h
            clear e1 e2
            clear hO68
            have h := zm zy_204 h 2 (q := (10, darg 0 [(4, 253), (0, (k : Int))], [(0, w32 ((99 + 8 * (k : Int)) + 3)), (4, 254)], g)) rfl
            dsimp only at h
            try rw [w32_eq (z := (99 + 8 * (k : Int)) + 3) (v := 102 + 8 * (k : Int)) (by omega) (by omega) (by omega)] at h
            have h := zald zy_204 h rfl rfl (dvb_254 (i := 102 + 8 * (k : Int)) (by omega) (by omega))
            dsimp only at h
            try rw [show (102 + 8 * (k : Int)).toNat = 102 + 8 * k from by omega] at h
            try rw [hO.2.2.2.1] at h
            have h := zret zy_204 h rfl rfl
            obtain ⟨e1, e2⟩ := oI h
            have h := hO65
            rw [e1, e2] at h
            clear e1 e2
            clear hO65
            have h := zm zy_230 h 2 (q := (13, darg 0 [(4, 253), (0, (k : Int)), (0, (N : Int))], [(0, (N : Int)), (4, 253), (0, (t : Int)), (0, (q : Int)), (4, 253)], g)) rfl
            dsimp only at h
            obtain ⟨gz69, rz70, hk, h⟩ := zcallI zy_230 h rfl rfl zy_206 zk_206
            dsimp only at hk h
            have hO71 := h
            have h := hk
            clear hk
            have h := zm zy_206 h 3 (q := (5, darg 0 [(4, 253), (0, (N : Int))], [(0, (N : Int)), (4, 254)], g)) rfl
            dsimp only at h
            obtain ⟨gz72, rz73, hk, h⟩ := zcallI zy_206 h rfl rfl zy_199 zk_199
            dsimp only at hk h
            have hO74 := h
            have h := hk
            clear hk
            have h := zm zy_199 h 5 (q := (7, darg 0 [(0, (N : Int))], [(0, w32 (99 + (w32 (8 * ((N : Int))))))], g)) rfl
            dsimp only at h
            try rw [w32_eq (z := 8 * ((N : Int))) (v := 8 * (N : Int)) (by omega) (by omega) (by omega)] at h
            try rw [w32_eq (z := 99 + (8 * (N : Int))) (v := 99 + 8 * (N : Int)) (by omega) (by omega) (by omega)] at h
            have h := zret zy_199 h rfl rfl
            obtain ⟨e1, e2⟩ := oI h
            have h := hO74
            rw [e1, e2] at h
            clear e1 e2
            clear hO74
            have h := zm zy_206 h 2 (q := (10, darg 0 [(4, 253), (0, (N : Int))], [(0, w32 ((99 + 8 * (N : Int)) + 2)), (4, 254)], g)) rfl
            dsimp only at h
            try rw [w32_eq (z := (99 + 8 * (N : Int)) + 2) (v := 101 + 8 * (N : Int)) (by omega) (by omega) (by omega)] at h
            have h := zald zy_206 h rfl rfl (dvb_254 (i := 101 + 8 * (N : Int)) (by omega) (by omega))
            dsimp only at h
            try rw [show (101 + 8 * (N : Int)).toNat = 101 + 8 * N from by omega] at h
            try rw [hn.2.2.1] at h
            have h := zret zy_206 h rfl rfl
            obtain ⟨e1, e2⟩ := oI h
            have h := hO71
            rw [e1, e2] at h
            clear e1 e2
            clear hO71
            have h := zm zy_230 h 2 (q := (18, darg 0 [(4, 253), (0, (k : Int)), (0, (N : Int))], [(0, (N : Int)), (4, 253), (0, (Q : Int)), (0, (t : Int)), (0, (q : Int)), (4, 253)], g)) rfl
            dsimp only at h
            obtain ⟨gz75, rz76, hk, h⟩ := zcallI zy_230 h rfl rfl zy_204 zk_204
            dsimp only at hk h
            have hO77 := h
            have h := hk
            clear hk
            have h := zm zy_204 h 3 (q := (5, darg 0 [(4, 253), (0, (N : Int))], [(0, (N : Int)), (4, 254)], g)) rfl
            dsimp only at h
            obtain ⟨gz78, rz79, hk, h⟩ := zcallI zy_204 h rfl rfl zy_199 zk_199
            dsimp only at hk h
            have hO80 := h
            have h := hk
            clear hk
            have h := zm zy_199 h 5 (q := (7, darg 0 [(0, (N : Int))], [(0, w32 (99 + (w32 (8 * ((N : Int))))))], g)) rfl
            dsimp only at h
            try rw [w32_eq (z := 8 * ((N : Int))) (v := 8 * (N : Int)) (by omega) (by omega) (by omega)] at h
            try rw [w32_eq (z := 99 + (8 * (N : Int))) (v := 99 + 8 * (N : Int)) (by omega) (by omega) (by omega)] at h
            have h := zret zy_199 h rfl rfl
            obtain ⟨e1, e2⟩ := oI h
            have h := hO80
            rw [e1, e2] at h
            clear e1 e2
            clear hO80
            have h := zm zy_204 h 2 (q := (10, darg 0 [(4, 253), (0, (N : Int))], [(0, w32 ((99 + 8 * (N : Int)) + 3)), (4, 254)], g)) rfl
            dsimp only at h
            try rw [w32_eq (z := (99 + 8 * (N : Int)) + 3) (v := 102 + 8 * (N : Int)) (by omega) (by omega) (by omega)] at h
            have h := zald zy_204 h rfl rfl (dvb_254 (i := 102 + 8 * (N : Int)) (by omega) (by omega))
            dsimp only at h
            try rw [show (102 + 8 * (N : Int)).toNat = 102 + 8 * N from by omega] at h
            try rw [hn.2.2.2.1] at h
            have h := zret zy_204 h rfl rfl
            obtain ⟨e1, e2⟩ := oI h
            have h := hO77
            rw [e1, e2] at h
            clear e1 e2
            clear hO77
            obtain ⟨g_1, r_1, hk, h⟩ := zcallI zy_230 h rfl rfl zy_231 zk_231
            dsimp only at hk h
            refine Or.inr (⟨⟨hc11, hc37, hc44, hc52⟩, ?_⟩)
            refine ⟨g_1, r_1, hk, ?_⟩
            have h := zret zy_230 h rfl rfl
            obtain ⟨e1, e2⟩ := oI h
            have h := hO56
            rw [e1, e2] at h
            clear e1 e2
            clear hO56
            have h := zm zy_228 h 1 (q := (cond (crel .eq r_1 0) 269 266, dset (dset (dset (dset (dset (dset lf 9 (0, (k : Int))) 8 (0, z)) 5 (0, (N : Int))) 4 (0, (T : Int))) 2 (0, (P : Int))) 0 (4, 253), [], g_1)) rfl
            dsimp only at h
            rcases zif_eq h with ⟨hc81, h⟩ | ⟨hc81, h⟩
            · have h := zm zy_228 h 2 (q := (272, dset (dset (dset (dset (dset (dset lf 9 (0, (k : Int))) 8 (0, z)) 5 (0, (N : Int))) 4 (0, (T : Int))) 2 (0, (P : Int))) 0 (4, 253), [(0, (k : Int)), (4, 253)], g_1)) rfl
              dsimp only at h
              obtain ⟨gz82, hk, h⟩ := zcallV zy_228 h rfl rfl zy_229 zk_229
              dsimp only at hk h
              have hO84 := h
              have h := hk
              clear hk
              have h := zm zy_229 h 2 (q := (2, darg 0 [(4, 253), (0, (k : Int))], [(0, (k : Int)), (4, 253)], g_1)) rfl
              dsimp only at h
              obtain ⟨gz85, rz86, hk, h⟩ := zcallI zy_229 h rfl rfl zy_201 zk_201
              dsimp only at hk h
              have hO87 := h
              have h := hk
              clear hk
              have h := zm zy_201 h 3 (q := (5, darg 0 [(4, 253), (0, (k : Int))], [(0, (k : Int)), (4, 254)], g_1)) rfl
              dsimp only at h
              obtain ⟨gz88, rz89, hk, h⟩ := zcallI zy_201 h rfl rfl zy_199 zk_199
              dsimp only at hk h
              have hO90 := h
              have h := hk
              clear hk
              have h := zm zy_199 h 5 (q := (7, darg 0 [(0, (k : Int))], [(0, w32 (99 + (w32 (8 * ((k : Int))))))], g_1)) rfl
              dsimp only at h
              try rw [w32_eq (z := 8 * ((k : Int))) (v := 8 * (k : Int)) (by omega) (by omega) (by omega)] at h
              try rw [w32_eq (z := 99 + (8 * (k : Int))) (v := 99 + 8 * (k : Int)) (by omega) (by omega) (by omega)] at h
              have h := zret zy_199 h rfl rfl
              obtain ⟨e1, e2⟩ := oI h
              have h := hO90
              rw [e1, e2] at h
              clear e1 e2
              clear hO90
              have h := zm zy_201 h 2 (q := (10, darg 0 [(4, 253), (0, (k : Int))], [(0, w32 ((99 + 8 * (k : Int)) + 5)), (4, 254)], g_1)) rfl
              dsimp only at h
              try rw [w32_eq (z := (99 + 8 * (k : Int)) + 5) (v := 104 + 8 * (k : Int)) (by omega) (by omega) (by omega)] at h
              have h := zald zy_201 h rfl rfl (dvb_254 (i := 104 + 8 * (k : Int)) (by omega) (by omega))
              dsimp only at h
              try rw [show (104 + 8 * (k : Int)).toNat = 104 + 8 * k from by omega] at h
              have h := zm zy_201 h 1 (q := (cond (crel .ne (g_1 254 (104 + 8 * k)) 0) 18 14, darg 0 [(4, 253), (0, (k : Int))], [], g_1)) rfl
              dsimp only at h
              rcases zif_ne h with ⟨hc91, h⟩ | ⟨hc91, h⟩
              · have h := zm zy_201 h 1 (q := (19, darg 0 [(4, 253), (0, (k : Int))], [(0, 0)], g_1)) rfl
                dsimp only at h
                have h := zret zy_201 h rfl rfl
                obtain ⟨e1, e2⟩ := oI h
                have h := hO87
                rw [e1, e2] at h
                clear e1 e2
                clear hO87
                have h := zm zy_229 h 1 (q := (20, darg 0 [(4, 253), (0, (k : Int))], [], g_1)) rfl
                dsimp only at h
                have h := zret zy_229 h rfl rfl
                have e1 := oV h
                have h := hO84
                rw [e1] at h
                clear e1
                clear hO84
                have h := zm zy_228 h 4 (q := (218, dset (dset (dset (dset (dset (dset (dset (dset lf 9 (0, (k : Int))) 8 (0, z)) 5 (0, (N : Int))) 4 (0, (T : Int))) 2 (0, (P : Int))) 0 (4, 253)) 8 (0, 1)) 9 (0, w32 (((k : Int)) + 1)), [], g_1)) rfl
                dsimp only at h
                try rw [w32_eq (z := ((k : Int)) + 1) (v := 1 + (k : Int)) (by omega) (by omega) (by omega)] at h
                refine Or.inl (⟨⟨hc81, hc91⟩, ?_⟩)
                exact ⟨_, rfl, rfl, rfl, rfl, rfl, rfl, h⟩
              · have h := zm zy_201 h 2 (q := (19, darg 0 [(4, 253), (0, (k : Int))], [(0, 1)], g_1)) rfl
                dsimp only at h
                have h := zret zy_201 h rfl rfl
                obtain ⟨e1, e2⟩ := oI h
                have h := hO87
                rw [e1, e2] at h
                clear e1 e2
                clear hO87
                have h := zm zy_229 h 4 (q := (13, darg 0 [(4, 253), (0, (k : Int))], [(0, (k : Int)), (4, 254)], g_1)) rfl
                dsimp only at h
                obtain ⟨gz93, rz94, hk, h⟩ := zcallI zy_229 h rfl rfl zy_199 zk_199
                dsimp only at hk h
                have hO95 := h
                have h := hk
                clear hk
                have h := zm zy_199 h 5 (q := (7, darg 0 [(0, (k : Int))], [(0, w32 (99 + (w32 (8 * ((k : Int))))))], g_1)) rfl
                dsimp only at h
                try rw [w32_eq (z := 8 * ((k : Int))) (v := 8 * (k : Int)) (by omega) (by omega) (by omega)] at h
                try rw [w32_eq (z := 99 + (8 * (k : Int))) (v := 99 + 8 * (k : Int)) (by omega) (by omega) (by omega)] at h
                have h := zret zy_199 h rfl rfl
                obtain ⟨e1, e2⟩ := oI h
                have h := hO95
                rw [e1, e2] at h
                clear e1 e2
                clear hO95
                have h := zm zy_229 h 4 (q := (20, darg 0 [(4, 253), (0, (k : Int))], [], cup g_1 254 ((w32 ((99 + 8 * (k : Int)) + 5)).toNat) 1)) rfl
                dsimp only at h
                try rw [w32_eq (z := (99 + 8 * (k : Int)) + 5) (v := 104 + 8 * (k : Int)) (by omega) (by omega) (by omega)] at h
                try rw [show (104 + 8 * (k : Int)).toNat = 104 + 8 * k from by omega] at h
                have h := zret zy_229 h rfl rfl
                have e1 := oV h
                have h := hO84
                rw [e1] at h
                clear e1
                clear hO84
                have h := zm zy_228 h 4 (q := (218, dset (dset (dset (dset (dset (dset (dset (dset lf 9 (0, (k : Int))) 8 (0, z)) 5 (0, (N : Int))) 4 (0, (T : Int))) 2 (0, (P : Int))) 0 (4, 253)) 8 (0, 1)) 9 (0, w32 (((k : Int)) + 1)), [], cup g_1 254 (104 + 8 * k) 1)) rfl
                dsimp only at h
                try rw [w32_eq (z := ((k : Int)) + 1) (v := 1 + (k : Int)) (by omega) (by omega) (by omega)] at h
                refine Or.inr (Or.inl (⟨⟨hc81, hc91⟩, ?_⟩))
                exact ⟨_, rfl, rfl, rfl, rfl, rfl, rfl, h⟩
            · have h := zm zy_228 h 3 (q := (218, dset (dset (dset (dset (dset (dset (dset lf 9 (0, (k : Int))) 8 (0, z)) 5 (0, (N : Int))) 4 (0, (T : Int))) 2 (0, (P : Int))) 0 (4, 253)) 9 (0, w32 (((k : Int)) + 1)), [], g_1)) rfl
              dsimp only at h
              try rw [w32_eq (z := ((k : Int)) + 1) (v := 1 + (k : Int)) (by omega) (by omega) (by omega)] at h
              refine Or.inr (Or.inr (⟨hc81, ?_⟩))
              exact ⟨_, rfl, rfl, rfl, rfl, rfl, rfl, h⟩
      · have h := zm zy_202 h 2 (q := (27, darg 0 [(4, 253), (0, (k : Int))], [(0, 1)], g)) rfl
        dsimp only at h
        have h := zret zy_202 h rfl rfl
        obtain ⟨e1, e2⟩ := oI h
        have h := hO15
        rw [e1, e2] at h
        clear e1 e2
        clear hO15
        have h := zm zy_200 h 2 (q := (21, darg 0 [(4, 253), (0, (k : Int))], [(0, 0)], g)) rfl
        dsimp only at h
        have h := zret zy_200 h rfl rfl
        obtain ⟨e1, e2⟩ := oI h
        have h := hO4
        rw [e1, e2] at h
        clear e1 e2
        clear hO4
        have h := zm zy_228 h 3 (q := (218, dset (dset (dset (dset (dset (dset (dset lf 9 (0, (k : Int))) 8 (0, z)) 5 (0, (N : Int))) 4 (0, (T : Int))) 2 (0, (P : Int))) 0 (4, 253)) 9 (0, w32 (((k : Int)) + 1)), [], g)) rfl
        dsimp only at h
        try rw [w32_eq (z := ((k : Int)) + 1) (v := 1 + (k : Int)) (by omega) (by omega) (by omega)] at h
        refine Or.inl (⟨Or.inr (Or.inr (Or.inr (⟨hc11, hc37⟩))), ?_⟩)
        exact ⟨_, rfl, rfl, rfl, rfl, rfl, rfl, h⟩
theorem m_swr218e {sv : Nat → Int32} {L n : Nat} {lf : dlf} {g : cg} {o : cg × Option cv} {P T N k : Nat} {z : Int} (rP : P ≤ 5) (rT : T ≤ 7) (rN : N ≤ 15) (rk : k ≤ 16) (hge : N ≤ k) (h : zr sv L (n + 1) 228 218 lf [] g o) (hl0 : lf 0 = (4, 253)) (hl2 : lf 2 = (0, (P : Int))) (hl4 : lf 4 = (0, (T : Int))) (hl5 : lf 5 = (0, (N : Int))) (hl8 : lf 8 = (0, z)) (hl9 : lf 9 = (0, (k : Int))) : (((z = 0) ∨ (z ≠ 0 ∧ g 254 (104 + 8 * N) ≠ 0)) ∧ (o = (g, none))) ∨ ((z ≠ 0 ∧ g 254 (104 + 8 * N) = 0) ∧ (o = (cup g 254 (104 + 8 * N) 1, none))) := by
  rw [zov hl0, zov hl2, zov hl4, zov hl5, zov hl8, zov hl9] at h
  have h := zm1 zy_228 h 2 (q := (cond (crel .ge ((k : Int)) ((N : Int))) 284 225, dset (dset (dset (dset (dset (dset lf 9 (0, (k : Int))) 8 (0, z)) 5 (0, (N : Int))) 4 (0, (T : Int))) 2 (0, (P : Int))) 0 (4, 253), [], g)) rfl
  dsimp only at h
  rcases zif_ge h with ⟨hc1, h⟩ | ⟨hc1, h⟩
  · have h := zm zy_228 h 2 (q := (cond (crel .eq z 0) 295 289, dset (dset (dset (dset (dset (dset lf 9 (0, (k : Int))) 8 (0, z)) 5 (0, (N : Int))) 4 (0, (T : Int))) 2 (0, (P : Int))) 0 (4, 253), [], g)) rfl
    dsimp only at h
    rcases zif_eq h with ⟨hc2, h⟩ | ⟨hc2, h⟩
    · refine Or.inl (⟨Or.inl (hc2), ?_⟩)
      exact zret zy_228 h rfl rfl
    · have h := zm zy_228 h 2 (q := (292, dset (dset (dset (dset (dset (dset lf 9 (0, (k : Int))) 8 (0, z)) 5 (0, (N : Int))) 4 (0, (T : Int))) 2 (0, (P : Int))) 0 (4, 253), [(0, (N : Int)), (4, 253)], g)) rfl
      dsimp only at h
      obtain ⟨gz3, hk, h⟩ := zcallV zy_228 h rfl rfl zy_229 zk_229
      dsimp only at hk h
      have hO5 := h
      have h := hk
      clear hk
      have h := zm zy_229 h 2 (q := (2, darg 0 [(4, 253), (0, (N : Int))], [(0, (N : Int)), (4, 253)], g)) rfl
      dsimp only at h
      obtain ⟨gz6, rz7, hk, h⟩ := zcallI zy_229 h rfl rfl zy_201 zk_201
      dsimp only at hk h
      have hO8 := h
      have h := hk
      clear hk
      have h := zm zy_201 h 3 (q := (5, darg 0 [(4, 253), (0, (N : Int))], [(0, (N : Int)), (4, 254)], g)) rfl
      dsimp only at h
      obtain ⟨gz9, rz10, hk, h⟩ := zcallI zy_201 h rfl rfl zy_199 zk_199
      dsimp only at hk h
      have hO11 := h
      have h := hk
      clear hk
      have h := zm zy_199 h 5 (q := (7, darg 0 [(0, (N : Int))], [(0, w32 (99 + (w32 (8 * ((N : Int))))))], g)) rfl
      dsimp only at h
      try rw [w32_eq (z := 8 * ((N : Int))) (v := 8 * (N : Int)) (by omega) (by omega) (by omega)] at h
      try rw [w32_eq (z := 99 + (8 * (N : Int))) (v := 99 + 8 * (N : Int)) (by omega) (by omega) (by omega)] at h
      have h := zret zy_199 h rfl rfl
      obtain ⟨e1, e2⟩ := oI h
      have h := hO11
      rw [e1, e2] at h
      clear e1 e2
      clear hO11
      have h := zm zy_201 h 2 (q := (10, darg 0 [(4, 253), (0, (N : Int))], [(0, w32 ((99 + 8 * (N : Int)) + 5)), (4, 254)], g)) rfl
      dsimp only at h
      try rw [w32_eq (z := (99 + 8 * (N : Int)) + 5) (v := 104 + 8 * (N : Int)) (by omega) (by omega) (by omega)] at h
      have h := zald zy_201 h rfl rfl (dvb_254 (i := 104 + 8 * (N : Int)) (by omega) (by omega))
      dsimp only at h
      try rw [show (104 + 8 * (N : Int)).toNat = 104 + 8 * N from by omega] at h
      have h := zm zy_201 h 1 (q := (cond (crel .ne (g 254 (104 + 8 * N)) 0) 18 14, darg 0 [(4, 253), (0, (N : Int))], [], g)) rfl
      dsimp only at h
      rcases zif_ne h with ⟨hc12, h⟩ | ⟨hc12, h⟩
      · have h := zm zy_201 h 1 (q := (19, darg 0 [(4, 253), (0, (N : Int))], [(0, 0)], g)) rfl
        dsimp only at h
        have h := zret zy_201 h rfl rfl
        obtain ⟨e1, e2⟩ := oI h
        have h := hO8
        rw [e1, e2] at h
        clear e1 e2
        clear hO8
        have h := zm zy_229 h 1 (q := (20, darg 0 [(4, 253), (0, (N : Int))], [], g)) rfl
        dsimp only at h
        have h := zret zy_229 h rfl rfl
        have e1 := oV h
        have h := hO5
        rw [e1] at h
        clear e1
        clear hO5
        refine Or.inl (⟨Or.inr (⟨hc2, hc12⟩), ?_⟩)
        exact zret zy_228 h rfl rfl
      · have h := zm zy_201 h 2 (q := (19, darg 0 [(4, 253), (0, (N : Int))], [(0, 1)], g)) rfl
        dsimp only at h
        have h := zret zy_201 h rfl rfl
        obtain ⟨e1, e2⟩ := oI h
        have h := hO8
        rw [e1, e2] at h
        clear e1 e2
        clear hO8
        have h := zm zy_229 h 4 (q := (13, darg 0 [(4, 253), (0, (N : Int))], [(0, (N : Int)), (4, 254)], g)) rfl
        dsimp only at h
        obtain ⟨gz13, rz14, hk, h⟩ := zcallI zy_229 h rfl rfl zy_199 zk_199
        dsimp only at hk h
        have hO15 := h
        have h := hk
        clear hk
        have h := zm zy_199 h 5 (q := (7, darg 0 [(0, (N : Int))], [(0, w32 (99 + (w32 (8 * ((N : Int))))))], g)) rfl
        dsimp only at h
        try rw [w32_eq (z := 8 * ((N : Int))) (v := 8 * (N : Int)) (by omega) (by omega) (by omega)] at h
        try rw [w32_eq (z := 99 + (8 * (N : Int))) (v := 99 + 8 * (N : Int)) (by omega) (by omega) (by omega)] at h
        have h := zret zy_199 h rfl rfl
        obtain ⟨e1, e2⟩ := oI h
        have h := hO15
        rw [e1, e2] at h
        clear e1 e2
        clear hO15
        have h := zm zy_229 h 4 (q := (20, darg 0 [(4, 253), (0, (N : Int))], [], cup g 254 ((w32 ((99 + 8 * (N : Int)) + 5)).toNat) 1)) rfl
        dsimp only at h
        try rw [w32_eq (z := (99 + 8 * (N : Int)) + 5) (v := 104 + 8 * (N : Int)) (by omega) (by omega) (by omega)] at h
        try rw [show (104 + 8 * (N : Int)).toNat = 104 + 8 * N from by omega] at h
        have h := zret zy_229 h rfl rfl
        have e1 := oV h
        have h := hO5
        rw [e1] at h
        clear e1
        clear hO5
        refine Or.inr (⟨⟨hc2, hc12⟩, ?_⟩)
        exact zret zy_228 h rfl rfl
  · exact absurd hc1 (by omega)
theorem m_fnd0 {sv : Nat → Int32} {L n : Nat} {lf : dlf} {g : cg} {o : cg × Option cv} {P Q T : Nat} (rP : P ≤ 5) (rQ : Q ≤ 4) (rT : T ≤ 7) (h : zr sv L n 234 0 lf [] g o) (hl0 : lf 0 = (4, 253)) (hl1 : lf 1 = (0, (P : Int))) (hl2 : lf 2 = (0, (Q : Int))) (hl3 : lf 3 = (0, (T : Int))) : ∃ lf', lf' 0 = (4, 253) ∧ lf' 1 = (0, (P : Int)) ∧ lf' 2 = (0, (Q : Int)) ∧ lf' 3 = (0, (T : Int)) ∧ lf' 4 = (0, 0) ∧ lf' 5 = (0, 0) ∧ zr sv L n 234 6 lf' [] g o := by
  rw [zov hl0, zov hl1, zov hl2, zov hl3] at h
  have h := zm zy_234 h 4 (q := (6, dset (dset (dset (dset (dset (dset lf 3 (0, (T : Int))) 2 (0, (Q : Int))) 1 (0, (P : Int))) 0 (4, 253)) 4 (0, 0)) 5 (0, 0), [], g)) rfl
  dsimp only at h
  exact ⟨_, rfl, rfl, rfl, rfl, rfl, rfl, h⟩
theorem m_fnd6s {sv : Nat → Int32} {L n : Nat} {lf : dlf} {g : cg} {o : cg × Option cv} {P Q T w p q t k N c : Nat} {f s b v pu : Int} (rP : P ≤ 5) (rQ : Q ≤ 4) (rT : T ≤ 7) (rw : w ≤ 5) (rp : p ≤ 5) (rq : q ≤ 4) (rt : t ≤ 7) (rk : k ≤ 15) (rN : N ≤ 16) (rc : c ≤ 16) (hN : g 254 2 = (N : Int)) (hO : OHM g k w p q t f s b) (hv : g 254 (51 + 8 * p + t) = v) (hpu : g 254 (15 + 6 * w) = pu) (hlt : k < N) (h : zr sv L (n + 1) 234 6 lf [] g o) (hl0 : lf 0 = (4, 253)) (hl1 : lf 1 = (0, (P : Int))) (hl2 : lf 2 = (0, (Q : Int))) (hl3 : lf 3 = (0, (T : Int))) (hl4 : lf 4 = (0, (c : Int))) (hl5 : lf 5 = (0, (k : Int))) : (((s ≠ 0) ∨ (s = 0 ∧ (p : Int) ≠ (P : Int)) ∨ (s = 0 ∧ (p : Int) = (P : Int) ∧ (t : Int) ≠ (T : Int)) ∨ (s = 0 ∧ (p : Int) = (P : Int) ∧ (t : Int) = (T : Int) ∧ (q : Int) = (Q : Int) ∧ v = (q : Int))) ∧ (∃ lf', lf' 0 = (4, 253) ∧ lf' 1 = (0, (P : Int)) ∧ lf' 2 = (0, (Q : Int)) ∧ lf' 3 = (0, (T : Int)) ∧ lf' 4 = (0, (c : Int)) ∧ lf' 5 = (0, 1 + (k : Int)) ∧ zr sv L n 234 6 lf' [] g o)) ∨ ((s = 0 ∧ (p : Int) = (P : Int) ∧ (t : Int) = (T : Int) ∧ (q : Int) = (Q : Int) ∧ v ≠ (q : Int)) ∧ (∃ lf', lf' 0 = (4, 253) ∧ lf' 1 = (0, (P : Int)) ∧ lf' 2 = (0, (Q : Int)) ∧ lf' 3 = (0, (T : Int)) ∧ lf' 4 = (0, 1 + (c : Int)) ∧ lf' 5 = (0, 1 + (k : Int)) ∧ zr sv L n 234 6 lf' [] (cup (cup (cup g 254 (105 + 8 * k) 1) 254 (15 + 6 * w) (w32 (pu + f))) 254 6 (w32 ((g 254 6) - f))) o)) ∨ ((s = 0 ∧ (p : Int) = (P : Int) ∧ (t : Int) = (T : Int) ∧ (q : Int) ≠ (Q : Int)) ∧ (∃ lf', lf' 0 = (4, 253) ∧ lf' 1 = (0, (P : Int)) ∧ lf' 2 = (0, (Q : Int)) ∧ lf' 3 = (0, (T : Int)) ∧ lf' 4 = (0, (c : Int)) ∧ lf' 5 = (0, 1 + (k : Int)) ∧ zr sv L n 234 6 lf' [] (cup g 254 (104 + 8 * k) 1) o)) := by
  rw [zov hl0, zov hl1, zov hl2, zov hl3, zov hl4, zov hl5] at h
  have h := zm1 zy_234 h 5 (q := (cond (crel .ge ((k : Int)) (g 254 2)) 121 17, dset (dset (dset (dset (dset (dset lf 5 (0, (k : Int))) 4 (0, (c : Int))) 3 (0, (T : Int))) 2 (0, (Q : Int))) 1 (0, (P : Int))) 0 (4, 253), [], g)) rfl
  dsimp only at h
  try rw [hN] at h
  rcases zif_ge h with ⟨hc1, h⟩ | ⟨hc1, h⟩
  · exact absurd hc1 (by omega)
  · have h := zm zy_234 h 4 (q := (22, dset (dset (dset (dset (dset (dset lf 5 (0, (k : Int))) 4 (0, (c : Int))) 3 (0, (T : Int))) 2 (0, (Q : Int))) 1 (0, (P : Int))) 0 (4, 253), [(0, (T : Int)), (0, (P : Int)), (0, (k : Int)), (4, 253)], g)) rfl
    dsimp only at h
    obtain ⟨gz2, rz3, hk, h⟩ := zcallI zy_234 h rfl rfl zy_221 zk_221
    dsimp only at hk h
    have hO4 := h
    have h := hk
    clear hk
    have h := zm zy_221 h 2 (q := (2, darg 0 [(4, 253), (0, (k : Int)), (0, (P : Int)), (0, (T : Int))], [(0, (k : Int)), (4, 253)], g)) rfl
    dsimp only at h
    obtain ⟨gz5, rz6, hk, h⟩ := zcallI zy_221 h rfl rfl zy_201 zk_201
    dsimp only at hk h
    have hO7 := h
    have h := hk
    clear hk
    have h := zm zy_201 h 3 (q := (5, darg 0 [(4, 253), (0, (k : Int))], [(0, (k : Int)), (4, 254)], g)) rfl
    dsimp only at h
    obtain ⟨gz8, rz9, hk, h⟩ := zcallI zy_201 h rfl rfl zy_199 zk_199
    dsimp only at hk h
    have hO10 := h
    have h := hk
    clear hk
    have h := zm zy_199 h 5 (q := (7, darg 0 [(0, (k : Int))], [(0, w32 (99 + (w32 (8 * ((k : Int))))))], g)) rfl
    dsimp only at h
    try rw [w32_eq (z := 8 * ((k : Int))) (v := 8 * (k : Int)) (by omega) (by omega) (by omega)] at h
    try rw [w32_eq (z := 99 + (8 * (k : Int))) (v := 99 + 8 * (k : Int)) (by omega) (by omega) (by omega)] at h
    have h := zret zy_199 h rfl rfl
    obtain ⟨e1, e2⟩ := oI h
    have h := hO10
    rw [e1, e2] at h
    clear e1 e2
    clear hO10
    have h := zm zy_201 h 2 (q := (10, darg 0 [(4, 253), (0, (k : Int))], [(0, w32 ((99 + 8 * (k : Int)) + 5)), (4, 254)], g)) rfl
    dsimp only at h
    try rw [w32_eq (z := (99 + 8 * (k : Int)) + 5) (v := 104 + 8 * (k : Int)) (by omega) (by omega) (by omega)] at h
    have h := zald zy_201 h rfl rfl (dvb_254 (i := 104 + 8 * (k : Int)) (by omega) (by omega))
    dsimp only at h
    try rw [show (104 + 8 * (k : Int)).toNat = 104 + 8 * k from by omega] at h
    try rw [hO.2.2.2.2.2.1] at h
    have h := zm zy_201 h 1 (q := (cond (crel .ne s 0) 18 14, darg 0 [(4, 253), (0, (k : Int))], [], g)) rfl
    dsimp only at h
    rcases zif_ne h with ⟨hc11, h⟩ | ⟨hc11, h⟩
    · have h := zm zy_201 h 1 (q := (19, darg 0 [(4, 253), (0, (k : Int))], [(0, 0)], g)) rfl
      dsimp only at h
      have h := zret zy_201 h rfl rfl
      obtain ⟨e1, e2⟩ := oI h
      have h := hO7
      rw [e1, e2] at h
      clear e1 e2
      clear hO7
      have h := zm zy_221 h 2 (q := (31, darg 0 [(4, 253), (0, (k : Int)), (0, (P : Int)), (0, (T : Int))], [(0, 0)], g)) rfl
      dsimp only at h
      have h := zret zy_221 h rfl rfl
      obtain ⟨e1, e2⟩ := oI h
      have h := hO4
      rw [e1, e2] at h
      clear e1 e2
      clear hO4
      have h := zm zy_234 h 4 (q := (6, dset (dset (dset (dset (dset (dset (dset lf 5 (0, (k : Int))) 4 (0, (c : Int))) 3 (0, (T : Int))) 2 (0, (Q : Int))) 1 (0, (P : Int))) 0 (4, 253)) 5 (0, w32 (((k : Int)) + 1)), [], g)) rfl
      dsimp only at h
      try rw [w32_eq (z := ((k : Int)) + 1) (v := 1 + (k : Int)) (by omega) (by omega) (by omega)] at h
      refine Or.inl (⟨Or.inl (hc11), ?_⟩)
      exact ⟨_, rfl, rfl, rfl, rfl, rfl, rfl, h⟩
    · have h := zm zy_201 h 2 (q := (19, darg 0 [(4, 253), (0, (k : Int))], [(0, 1)], g)) rfl
      dsimp only at h
      have h := zret zy_201 h rfl rfl
      obtain ⟨e1, e2⟩ := oI h
      have h := hO7
      rw [e1, e2] at h
      clear e1 e2
      clear hO7
      have h := zm zy_221 h 3 (q := (10, darg 0 [(4, 253), (0, (k : Int)), (0, (P : Int)), (0, (T : Int))], [(0, (k : Int)), (4, 253)], g)) rfl
      dsimp only at h
      obtain ⟨gz13, rz14, hk, h⟩ := zcallI zy_221 h rfl rfl zy_203 zk_203
      dsimp only at hk h
      have hO15 := h
      have h := hk
      clear hk
      have h := zm zy_203 h 3 (q := (5, darg 0 [(4, 253), (0, (k : Int))], [(0, (k : Int)), (4, 254)], g)) rfl
      dsimp only at h
      obtain ⟨gz16, rz17, hk, h⟩ := zcallI zy_203 h rfl rfl zy_199 zk_199
      dsimp only at hk h
      have hO18 := h
      have h := hk
      clear hk
      have h := zm zy_199 h 5 (q := (7, darg 0 [(0, (k : Int))], [(0, w32 (99 + (w32 (8 * ((k : Int))))))], g)) rfl
      dsimp only at h
      try rw [w32_eq (z := 8 * ((k : Int))) (v := 8 * (k : Int)) (by omega) (by omega) (by omega)] at h
      try rw [w32_eq (z := 99 + (8 * (k : Int))) (v := 99 + 8 * (k : Int)) (by omega) (by omega) (by omega)] at h
      have h := zret zy_199 h rfl rfl
      obtain ⟨e1, e2⟩ := oI h
      have h := hO18
      rw [e1, e2] at h
      clear e1 e2
      clear hO18
      have h := zm zy_203 h 2 (q := (10, darg 0 [(4, 253), (0, (k : Int))], [(0, w32 ((99 + 8 * (k : Int)) + 1)), (4, 254)], g)) rfl
      dsimp only at h
      try rw [w32_eq (z := (99 + 8 * (k : Int)) + 1) (v := 100 + 8 * (k : Int)) (by omega) (by omega) (by omega)] at h
      have h := zald zy_203 h rfl rfl (dvb_254 (i := 100 + 8 * (k : Int)) (by omega) (by omega))
      dsimp only at h
      try rw [show (100 + 8 * (k : Int)).toNat = 100 + 8 * k from by omega] at h
      try rw [hO.2.1] at h
      have h := zret zy_203 h rfl rfl
      obtain ⟨e1, e2⟩ := oI h
      have h := hO15
      rw [e1, e2] at h
      clear e1 e2
      clear hO15
      have h := zm zy_221 h 2 (q := (cond (crel .ne ((p : Int)) ((P : Int))) 30 17, darg 0 [(4, 253), (0, (k : Int)), (0, (P : Int)), (0, (T : Int))], [], g)) rfl
      dsimp only at h
      rcases zif_ne h with ⟨hc19, h⟩ | ⟨hc19, h⟩
      · have h := zm zy_221 h 1 (q := (31, darg 0 [(4, 253), (0, (k : Int)), (0, (P : Int)), (0, (T : Int))], [(0, 0)], g)) rfl
        dsimp only at h
        have h := zret zy_221 h rfl rfl
        obtain ⟨e1, e2⟩ := oI h
        have h := hO4
        rw [e1, e2] at h
        clear e1 e2
        clear hO4
        have h := zm zy_234 h 4 (q := (6, dset (dset (dset (dset (dset (dset (dset lf 5 (0, (k : Int))) 4 (0, (c : Int))) 3 (0, (T : Int))) 2 (0, (Q : Int))) 1 (0, (P : Int))) 0 (4, 253)) 5 (0, w32 (((k : Int)) + 1)), [], g)) rfl
        dsimp only at h
        try rw [w32_eq (z := ((k : Int)) + 1) (v := 1 + (k : Int)) (by omega) (by omega) (by omega)] at h
        refine Or.inl (⟨Or.inr (Or.inl (⟨hc11, hc19⟩)), ?_⟩)
        exact ⟨_, rfl, rfl, rfl, rfl, rfl, rfl, h⟩
      · have h := zm zy_221 h 2 (q := (19, darg 0 [(4, 253), (0, (k : Int)), (0, (P : Int)), (0, (T : Int))], [(0, (k : Int)), (4, 253)], g)) rfl
        dsimp only at h
        obtain ⟨gz21, rz22, hk, h⟩ := zcallI zy_221 h rfl rfl zy_204 zk_204
        dsimp only at hk h
        have hO23 := h
        have h := hk
        clear hk
        have h := zm zy_204 h 3 (q := (5, darg 0 [(4, 253), (0, (k : Int))], [(0, (k : Int)), (4, 254)], g)) rfl
        dsimp only at h
        obtain ⟨gz24, rz25, hk, h⟩ := zcallI zy_204 h rfl rfl zy_199 zk_199
        dsimp only at hk h
        have hO26 := h
        have h := hk
        clear hk
        have h := zm zy_199 h 5 (q := (7, darg 0 [(0, (k : Int))], [(0, w32 (99 + (w32 (8 * ((k : Int))))))], g)) rfl
        dsimp only at h
        try rw [w32_eq (z := 8 * ((k : Int))) (v := 8 * (k : Int)) (by omega) (by omega) (by omega)] at h
        try rw [w32_eq (z := 99 + (8 * (k : Int))) (v := 99 + 8 * (k : Int)) (by omega) (by omega) (by omega)] at h
        have h := zret zy_199 h rfl rfl
        obtain ⟨e1, e2⟩ := oI h
        have h := hO26
        rw [e1, e2] at h
        clear e1 e2
        clear hO26
        have h := zm zy_204 h 2 (q := (10, darg 0 [(4, 253), (0, (k : Int))], [(0, w32 ((99 + 8 * (k : Int)) + 3)), (4, 254)], g)) rfl
        dsimp only at h
        try rw [w32_eq (z := (99 + 8 * (k : Int)) + 3) (v := 102 + 8 * (k : Int)) (by omega) (by omega) (by omega)] at h
        have h := zald zy_204 h rfl rfl (dvb_254 (i := 102 + 8 * (k : Int)) (by omega) (by omega))
        dsimp only at h
        try rw [show (102 + 8 * (k : Int)).toNat = 102 + 8 * k from by omega] at h
        try rw [hO.2.2.2.1] at h
        have h := zret zy_204 h rfl rfl
        obtain ⟨e1, e2⟩ := oI h
        have h := hO23
        rw [e1, e2] at h
        clear e1 e2
        clear hO23
        have h := zm zy_221 h 2 (q := (cond (crel .ne ((t : Int)) ((T : Int))) 30 26, darg 0 [(4, 253), (0, (k : Int)), (0, (P : Int)), (0, (T : Int))], [], g)) rfl
        dsimp only at h
        rcases zif_ne h with ⟨hc27, h⟩ | ⟨hc27, h⟩
        · have h := zm zy_221 h 1 (q := (31, darg 0 [(4, 253), (0, (k : Int)), (0, (P : Int)), (0, (T : Int))], [(0, 0)], g)) rfl
          dsimp only at h
          have h := zret zy_221 h rfl rfl
          obtain ⟨e1, e2⟩ := oI h
          have h := hO4
          rw [e1, e2] at h
          clear e1 e2
          clear hO4
          have h := zm zy_234 h 4 (q := (6, dset (dset (dset (dset (dset (dset (dset lf 5 (0, (k : Int))) 4 (0, (c : Int))) 3 (0, (T : Int))) 2 (0, (Q : Int))) 1 (0, (P : Int))) 0 (4, 253)) 5 (0, w32 (((k : Int)) + 1)), [], g)) rfl
          dsimp only at h
          try rw [w32_eq (z := ((k : Int)) + 1) (v := 1 + (k : Int)) (by omega) (by omega) (by omega)] at h
          refine Or.inl (⟨Or.inr (Or.inr (Or.inl (⟨hc11, hc19, hc27⟩))), ?_⟩)
          exact ⟨_, rfl, rfl, rfl, rfl, rfl, rfl, h⟩
        · have h := zm zy_221 h 2 (q := (31, darg 0 [(4, 253), (0, (k : Int)), (0, (P : Int)), (0, (T : Int))], [(0, 1)], g)) rfl
          dsimp only at h
          have h := zret zy_221 h rfl rfl
          obtain ⟨e1, e2⟩ := oI h
          have h := hO4
          rw [e1, e2] at h
          clear e1 e2
          clear hO4
          have h := zm zy_234 h 3 (q := (34, dset (dset (dset (dset (dset (dset lf 5 (0, (k : Int))) 4 (0, (c : Int))) 3 (0, (T : Int))) 2 (0, (Q : Int))) 1 (0, (P : Int))) 0 (4, 253), [(0, (k : Int)), (4, 253)], g)) rfl
          dsimp only at h
          obtain ⟨gz29, rz30, hk, h⟩ := zcallI zy_234 h rfl rfl zy_206 zk_206
          dsimp only at hk h
          have hO31 := h
          have h := hk
          clear hk
          have h := zm zy_206 h 3 (q := (5, darg 0 [(4, 253), (0, (k : Int))], [(0, (k : Int)), (4, 254)], g)) rfl
          dsimp only at h
          obtain ⟨gz32, rz33, hk, h⟩ := zcallI zy_206 h rfl rfl zy_199 zk_199
          dsimp only at hk h
          have hO34 := h
          have h := hk
          clear hk
          have h := zm zy_199 h 5 (q := (7, darg 0 [(0, (k : Int))], [(0, w32 (99 + (w32 (8 * ((k : Int))))))], g)) rfl
          dsimp only at h
          try rw [w32_eq (z := 8 * ((k : Int))) (v := 8 * (k : Int)) (by omega) (by omega) (by omega)] at h
          try rw [w32_eq (z := 99 + (8 * (k : Int))) (v := 99 + 8 * (k : Int)) (by omega) (by omega) (by omega)] at h
          have h := zret zy_199 h rfl rfl
          obtain ⟨e1, e2⟩ := oI h
          have h := hO34
          rw [e1, e2] at h
          clear e1 e2
          clear hO34
          have h := zm zy_206 h 2 (q := (10, darg 0 [(4, 253), (0, (k : Int))], [(0, w32 ((99 + 8 * (k : Int)) + 2)), (4, 254)], g)) rfl
          dsimp only at h
          try rw [w32_eq (z := (99 + 8 * (k : Int)) + 2) (v := 101 + 8 * (k : Int)) (by omega) (by omega) (by omega)] at h
          have h := zald zy_206 h rfl rfl (dvb_254 (i := 101 + 8 * (k : Int)) (by omega) (by omega))
          dsimp only at h
          try rw [show (101 + 8 * (k : Int)).toNat = 101 + 8 * k from by omega] at h
          try rw [hO.2.2.1] at h
          have h := zret zy_206 h rfl rfl
          obtain ⟨e1, e2⟩ := oI h
          have h := hO31
          rw [e1, e2] at h
          clear e1 e2
          clear hO31
          have h := zm zy_234 h 2 (q := (cond (crel .eq ((q : Int)) ((Q : Int))) 50 41, dset (dset (dset (dset (dset (dset lf 5 (0, (k : Int))) 4 (0, (c : Int))) 3 (0, (T : Int))) 2 (0, (Q : Int))) 1 (0, (P : Int))) 0 (4, 253), [], g)) rfl
          dsimp only at h
          rcases zif_eq h with ⟨hc35, h⟩ | ⟨hc35, h⟩
          · have h := zm zy_234 h 2 (q := (53, dset (dset (dset (dset (dset (dset lf 5 (0, (k : Int))) 4 (0, (c : Int))) 3 (0, (T : Int))) 2 (0, (Q : Int))) 1 (0, (P : Int))) 0 (4, 253), [(0, (k : Int)), (4, 253)], g)) rfl
            dsimp only at h
            obtain ⟨gz36, rz37, hk, h⟩ := zcallI zy_234 h rfl rfl zy_202 zk_202
            dsimp only at hk h
            have hO38 := h
            have h := hk
            clear hk
            have h := zm zy_202 h 3 (q := (3, darg 0 [(4, 253), (0, (k : Int))], [(0, (k : Int)), (4, 253), (4, 253)], g)) rfl
            dsimp only at h
            obtain ⟨gz39, rz40, hk, h⟩ := zcallI zy_202 h rfl rfl zy_203 zk_203
            dsimp only at hk h
            have hO41 := h
            have h := hk
            clear hk
            have h := zm zy_203 h 3 (q := (5, darg 0 [(4, 253), (0, (k : Int))], [(0, (k : Int)), (4, 254)], g)) rfl
            dsimp only at h
            obtain ⟨gz42, rz43, hk, h⟩ := zcallI zy_203 h rfl rfl zy_199 zk_199
            dsimp only at hk h
            have hO44 := h
            have h := hk
            clear hk
            have h := zm zy_199 h 5 (q := (7, darg 0 [(0, (k : Int))], [(0, w32 (99 + (w32 (8 * ((k : Int))))))], g)) rfl
            dsimp only at h
            try rw [w32_eq (z := 8 * ((k : Int))) (v := 8 * (k : Int)) (by omega) (by omega) (by omega)] at h
            try rw [w32_eq (z := 99 + (8 * (k : Int))) (v := 99 + 8 * (k : Int)) (by omega) (by omega) (by omega)] at h
            have h := zret zy_199 h rfl rfl
            obtain ⟨e1, e2⟩ := oI h
            have h := hO44
            rw [e1, e2] at h
            clear e1 e2
            clear hO44
            have h := zm zy_203 h 2 (q := (10, darg 0 [(4, 253), (0, (k : Int))], [(0, w32 ((99 + 8 * (k : Int)) + 1)), (4, 254)], g)) rfl
            dsimp only at h
            try rw [w32_eq (z := (99 + 8 * (k : Int)) + 1) (v := 100 + 8 * (k : Int)) (by omega) (by omega) (by omega)] at h
            have h := zald zy_203 h rfl rfl (dvb_254 (i := 100 + 8 * (k : Int)) (by omega) (by omega))
            dsimp only at h
            try rw [show (100 + 8 * (k : Int)).toNat = 100 + 8 * k from by omega] at h
            try rw [hO.2.1] at h
            have h := zret zy_203 h rfl rfl
            obtain ⟨e1, e2⟩ := oI h
            have h := hO41
            rw [e1, e2] at h
            clear e1 e2
            clear hO41
            have h := zm zy_202 h 2 (q := (8, darg 0 [(4, 253), (0, (k : Int))], [(0, (k : Int)), (4, 253), (0, (p : Int)), (4, 253)], g)) rfl
            dsimp only at h
            obtain ⟨gz45, rz46, hk, h⟩ := zcallI zy_202 h rfl rfl zy_204 zk_204
            dsimp only at hk h
            have hO47 := h
            have h := hk
            clear hk
            have h := zm zy_204 h 3 (q := (5, darg 0 [(4, 253), (0, (k : Int))], [(0, (k : Int)), (4, 254)], g)) rfl
            dsimp only at h
            obtain ⟨gz48, rz49, hk, h⟩ := zcallI zy_204 h rfl rfl zy_199 zk_199
            dsimp only at hk h
            have hO50 := h
            have h := hk
            clear hk
            have h := zm zy_199 h 5 (q := (7, darg 0 [(0, (k : Int))], [(0, w32 (99 + (w32 (8 * ((k : Int))))))], g)) rfl
            dsimp only at h
            try rw [w32_eq (z := 8 * ((k : Int))) (v := 8 * (k : Int)) (by omega) (by omega) (by omega)] at h
            try rw [w32_eq (z := 99 + (8 * (k : Int))) (v := 99 + 8 * (k : Int)) (by omega) (by omega) (by omega)] at h
            have h := zret zy_199 h rfl rfl
            obtain ⟨e1, e2⟩ := oI h
            have h := hO50
            rw [e1, e2] at h
            clear e1 e2
            clear hO50
            have h := zm zy_204 h 2 (q := (10, darg 0 [(4, 253), (0, (k : Int))], [(0, w32 ((99 + 8 * (k : Int)) + 3)), (4, 254)], g)) rfl
            dsimp only at h
            try rw [w32_eq (z := (99 + 8 * (k : Int)) + 3) (v := 102 + 8 * (k : Int)) (by omega) (by omega) (by omega)] at h
            have h := zald zy_204 h rfl rfl (dvb_254 (i := 102 + 8 * (k : Int)) (by omega) (by omega))
            dsimp only at h
            try rw [show (102 + 8 * (k : Int)).toNat = 102 + 8 * k from by omega] at h
            try rw [hO.2.2.2.1] at h
            have h := zret zy_204 h rfl rfl
            obtain ⟨e1, e2⟩ := oI h
            have h := hO47
            rw [e1, e2] at h
            clear e1 e2
            clear hO47
            obtain ⟨gz51, rz52, hk, h⟩ := zcallI zy_202 h rfl rfl zy_205 zk_205
            dsimp only at hk h
            have hO53 := h
            have h := hk
            clear hk
            have h := zm zy_205 h 9 (q := (13, darg 0 [(4, 253), (0, (p : Int)), (0, (t : Int))], [(0, w32 ((w32 (51 + (w32 (8 * ((p : Int)))))) + ((t : Int)))), (4, 254)], g)) rfl
            dsimp only at h
            try rw [w32_eq (z := 8 * ((p : Int))) (v := 8 * (p : Int)) (by omega) (by omega) (by omega)] at h
            try rw [w32_eq (z := 51 + (8 * (p : Int))) (v := 51 + 8 * (p : Int)) (by omega) (by omega) (by omega)] at h
            try rw [w32_eq (z := (51 + 8 * (p : Int)) + ((t : Int))) (v := 51 + 8 * (p : Int) + (t : Int)) (by omega) (by omega) (by omega)] at h
            have h := zald zy_205 h rfl rfl (dvb_254 (i := 51 + 8 * (p : Int) + (t : Int)) (by omega) (by omega))
            dsimp only at h
            try rw [show (51 + 8 * (p : Int) + (t : Int)).toNat = 51 + 8 * p + t from by omega] at h
            try rw [hv] at h
            have h := zret zy_205 h rfl rfl
            obtain ⟨e1, e2⟩ := oI h
            have h := hO53
            rw [e1, e2] at h
            clear e1 e2
            clear hO53
            have h := zm zy_202 h 2 (q := (16, darg 0 [(4, 253), (0, (k : Int))], [(0, (k : Int)), (4, 253), (0, v)], g)) rfl
            dsimp only at h
            obtain ⟨gz54, rz55, hk, h⟩ := zcallI zy_202 h rfl rfl zy_206 zk_206
            dsimp only at hk h
            have hO56 := h
            have h := hk
            clear hk
            have h := zm zy_206 h 3 (q := (5, darg 0 [(4, 253), (0, (k : Int))], [(0, (k : Int)), (4, 254)], g)) rfl
            dsimp only at h
            obtain ⟨gz57, rz58, hk, h⟩ := zcallI zy_206 h rfl rfl zy_199 zk_199
            dsimp only at hk h
            have hO59 := h
            have h := hk
            clear hk
            have h := zm zy_199 h 5 (q := (7, darg 0 [(0, (k : Int))], [(0, w32 (99 + (w32 (8 * ((k : Int))))))], g)) rfl
            dsimp only at h
            try rw [w32_eq (z := 8 * ((k : Int))) (v := 8 * (k : Int)) (by omega) (by omega) (by omega)] at h
            try rw [w32_eq (z := 99 + (8 * (k : Int))) (v := 99 + 8 * (k : Int)) (by omega) (by omega) (by omega)] at h
            have h := zret zy_199 h rfl rfl
            obtain ⟨e1, e2⟩ := oI h
            have h := hO59
            rw [e1, e2] at h
            clear e1 e2
            clear hO59
            have h := zm zy_206 h 2 (q := (10, darg 0 [(4, 253), (0, (k : Int))], [(0, w32 ((99 + 8 * (k : Int)) + 2)), (4, 254)], g)) rfl
            dsimp only at h
            try rw [w32_eq (z := (99 + 8 * (k : Int)) + 2) (v := 101 + 8 * (k : Int)) (by omega) (by omega) (by omega)] at h
            have h := zald zy_206 h rfl rfl (dvb_254 (i := 101 + 8 * (k : Int)) (by omega) (by omega))
            dsimp only at h
            try rw [show (101 + 8 * (k : Int)).toNat = 101 + 8 * k from by omega] at h
            try rw [hO.2.2.1] at h
            have h := zret zy_206 h rfl rfl
            obtain ⟨e1, e2⟩ := oI h
            have h := hO56
            rw [e1, e2] at h
            clear e1 e2
            clear hO56
            have h := zm zy_202 h 1 (q := (cond (crel .ne v ((q : Int))) 26 22, darg 0 [(4, 253), (0, (k : Int))], [], g)) rfl
            dsimp only at h
            rcases zif_ne h with ⟨hc60, h⟩ | ⟨hc60, h⟩
            · have h := zm zy_202 h 1 (q := (27, darg 0 [(4, 253), (0, (k : Int))], [(0, 0)], g)) rfl
              dsimp only at h
              have h := zret zy_202 h rfl rfl
              obtain ⟨e1, e2⟩ := oI h
              have h := hO38
              rw [e1, e2] at h
              clear e1 e2
              clear hO38
              have h := zm zy_234 h 5 (q := (68, dset (dset (dset (dset (dset (dset (dset lf 5 (0, (k : Int))) 4 (0, (c : Int))) 3 (0, (T : Int))) 2 (0, (Q : Int))) 1 (0, (P : Int))) 0 (4, 253)) 4 (0, w32 (((c : Int)) + 1)), [(0, (k : Int)), (4, 254)], g)) rfl
              dsimp only at h
              try rw [w32_eq (z := ((c : Int)) + 1) (v := 1 + (c : Int)) (by omega) (by omega) (by omega)] at h
              obtain ⟨gz61, rz62, hk, h⟩ := zcallI zy_234 h rfl rfl zy_199 zk_199
              dsimp only at hk h
              have hO63 := h
              have h := hk
              clear hk
              have h := zm zy_199 h 5 (q := (7, darg 0 [(0, (k : Int))], [(0, w32 (99 + (w32 (8 * ((k : Int))))))], g)) rfl
              dsimp only at h
              try rw [w32_eq (z := 8 * ((k : Int))) (v := 8 * (k : Int)) (by omega) (by omega) (by omega)] at h
              try rw [w32_eq (z := 99 + (8 * (k : Int))) (v := 99 + 8 * (k : Int)) (by omega) (by omega) (by omega)] at h
              have h := zret zy_199 h rfl rfl
              obtain ⟨e1, e2⟩ := oI h
              have h := hO63
              rw [e1, e2] at h
              clear e1 e2
              clear hO63
              have h := zm zy_234 h 8 (q := (83, dset (dset (dset (dset (dset (dset (dset lf 5 (0, (k : Int))) 4 (0, (c : Int))) 3 (0, (T : Int))) 2 (0, (Q : Int))) 1 (0, (P : Int))) 0 (4, 253)) 4 (0, 1 + (c : Int)), [(0, (k : Int)), (4, 253), (4, 254)], cup g 254 ((w32 ((99 + 8 * (k : Int)) + 6)).toNat) 1)) rfl
              dsimp only at h
              try rw [w32_eq (z := (99 + 8 * (k : Int)) + 6) (v := 105 + 8 * (k : Int)) (by omega) (by omega) (by omega)] at h
              try rw [show (105 + 8 * (k : Int)).toNat = 105 + 8 * k from by omega] at h
              obtain ⟨gz64, rz65, hk, h⟩ := zcallI zy_234 h rfl rfl zy_211 zk_211
              dsimp only at hk h
              have hO66 := h
              have h := hk
              clear hk
              have h := zm zy_211 h 3 (q := (5, darg 0 [(4, 253), (0, (k : Int))], [(0, (k : Int)), (4, 254)], cup g 254 (105 + 8 * k) 1)) rfl
              dsimp only at h
              obtain ⟨gz67, rz68, hk, h⟩ := zcallI zy_211 h rfl rfl zy_199 zk_199
              dsimp only at hk h
              have hO69 := h
              have h := hk
              clear hk
              have h := zm zy_199 h 5 (q := (7, darg 0 [(0, (k : Int))], [(0, w32 (99 + (w32 (8 * ((k : Int))))))], cup g 254 (105 + 8 * k) 1)) rfl
              dsimp only at h
              try rw [w32_eq (z := 8 * ((k : Int))) (v := 8 * (k : Int)) (by omega) (by omega) (by omega)] at h
              try rw [w32_eq (z := 99 + (8 * (k : Int))) (v := 99 + 8 * (k : Int)) (by omega) (by omega) (by omega)] at h
              have h := zret zy_199 h rfl rfl
              obtain ⟨e1, e2⟩ := oI h
              have h := hO69
              rw [e1, e2] at h
              clear e1 e2
              clear hO69
              have h := zald zy_211 h rfl rfl (dvb_254 (i := 99 + 8 * (k : Int)) (by omega) (by omega))
              dsimp only at h
              try rw [show (99 + 8 * (k : Int)).toNat = 99 + 8 * k from by omega] at h
              try rw [cup_ne (g := g) (k := 254) (j := 105 + 8 * k) (k' := 254) (j' := 99 + 8 * k) (by omega)] at h
              try rw [hO.1] at h
              have h := zret zy_211 h rfl rfl
              obtain ⟨e1, e2⟩ := oI h
              have h := hO66
              rw [e1, e2] at h
              clear e1 e2
              clear hO66
              obtain ⟨gz70, rz71, hk, h⟩ := zcallI zy_234 h rfl rfl zy_209 zk_209
              dsimp only at hk h
              have hO72 := h
              have h := hk
              clear hk
              have h := zm zy_209 h 5 (q := (7, darg 0 [(0, (w : Int))], [(0, w32 (15 + (w32 (6 * ((w : Int))))))], cup g 254 (105 + 8 * k) 1)) rfl
              dsimp only at h
              try rw [w32_eq (z := 6 * ((w : Int))) (v := 6 * (w : Int)) (by omega) (by omega) (by omega)] at h
              try rw [w32_eq (z := 15 + (6 * (w : Int))) (v := 15 + 6 * (w : Int)) (by omega) (by omega) (by omega)] at h
              have h := zret zy_209 h rfl rfl
              obtain ⟨e1, e2⟩ := oI h
              have h := hO72
              rw [e1, e2] at h
              clear e1 e2
              clear hO72
              have h := zm zy_234 h 1 (q := (90, dset (dset (dset (dset (dset (dset (dset lf 5 (0, (k : Int))) 4 (0, (c : Int))) 3 (0, (T : Int))) 2 (0, (Q : Int))) 1 (0, (P : Int))) 0 (4, 253)) 4 (0, 1 + (c : Int)), [(0, 15 + 6 * (w : Int)), (4, 254), (0, 15 + 6 * (w : Int)), (4, 254)], cup g 254 (105 + 8 * k) 1)) rfl
              dsimp only at h
              have h := zald zy_234 h rfl rfl (dvb_254 (i := 15 + 6 * (w : Int)) (by omega) (by omega))
              dsimp only at h
              try rw [show (15 + 6 * (w : Int)).toNat = 15 + 6 * w from by omega] at h
              try rw [cup_ne (g := g) (k := 254) (j := 105 + 8 * k) (k' := 254) (j' := 15 + 6 * w) (by omega)] at h
              try rw [hpu] at h
              have h := zm zy_234 h 2 (q := (94, dset (dset (dset (dset (dset (dset (dset lf 5 (0, (k : Int))) 4 (0, (c : Int))) 3 (0, (T : Int))) 2 (0, (Q : Int))) 1 (0, (P : Int))) 0 (4, 253)) 4 (0, 1 + (c : Int)), [(0, (k : Int)), (4, 253), (0, pu), (0, 15 + 6 * (w : Int)), (4, 254)], cup g 254 (105 + 8 * k) 1)) rfl
              dsimp only at h
              obtain ⟨gz73, rz74, hk, h⟩ := zcallI zy_234 h rfl rfl zy_212 zk_212
              dsimp only at hk h
              have hO75 := h
              have h := hk
              clear hk
              have h := zm zy_212 h 3 (q := (5, darg 0 [(4, 253), (0, (k : Int))], [(0, (k : Int)), (4, 254)], cup g 254 (105 + 8 * k) 1)) rfl
              dsimp only at h
              obtain ⟨gz76, rz77, hk, h⟩ := zcallI zy_212 h rfl rfl zy_199 zk_199
              dsimp only at hk h
              have hO78 := h
              have h := hk
              clear hk
              have h := zm zy_199 h 5 (q := (7, darg 0 [(0, (k : Int))], [(0, w32 (99 + (w32 (8 * ((k : Int))))))], cup g 254 (105 + 8 * k) 1)) rfl
              dsimp only at h
              try rw [w32_eq (z := 8 * ((k : Int))) (v := 8 * (k : Int)) (by omega) (by omega) (by omega)] at h
              try rw [w32_eq (z := 99 + (8 * (k : Int))) (v := 99 + 8 * (k : Int)) (by omega) (by omega) (by omega)] at h
              have h := zret zy_199 h rfl rfl
              obtain ⟨e1, e2⟩ := oI h
              have h := hO78
              rw [e1, e2] at h
              clear e1 e2
              clear hO78
              have h := zm zy_212 h 2 (q := (10, darg 0 [(4, 253), (0, (k : Int))], [(0, w32 ((99 + 8 * (k : Int)) + 4)), (4, 254)], cup g 254 (105 + 8 * k) 1)) rfl
              dsimp only at h
              try rw [w32_eq (z := (99 + 8 * (k : Int)) + 4) (v := 103 + 8 * (k : Int)) (by omega) (by omega) (by omega)] at h
              have h := zald zy_212 h rfl rfl (dvb_254 (i := 103 + 8 * (k : Int)) (by omega) (by omega))
              dsimp only at h
              try rw [show (103 + 8 * (k : Int)).toNat = 103 + 8 * k from by omega] at h
              try rw [cup_ne (g := g) (k := 254) (j := 105 + 8 * k) (k' := 254) (j' := 103 + 8 * k) (by omega)] at h
              try rw [hO.2.2.2.2.1] at h
              have h := zret zy_212 h rfl rfl
              obtain ⟨e1, e2⟩ := oI h
              have h := hO75
              rw [e1, e2] at h
              clear e1 e2
              clear hO75
              have h := zm zy_234 h 7 (q := (107, dset (dset (dset (dset (dset (dset (dset lf 5 (0, (k : Int))) 4 (0, (c : Int))) 3 (0, (T : Int))) 2 (0, (Q : Int))) 1 (0, (P : Int))) 0 (4, 253)) 4 (0, 1 + (c : Int)), [(0, (cup (cup g 254 (105 + 8 * k) 1) 254 ((15 + 6 * (w : Int)).toNat) (w32 (pu + f))) 254 6), (0, 6), (4, 254)], cup (cup g 254 (105 + 8 * k) 1) 254 ((15 + 6 * (w : Int)).toNat) (w32 (pu + f)))) rfl
              dsimp only at h
              try rw [show (15 + 6 * (w : Int)).toNat = 15 + 6 * w from by omega] at h
              try rw [cup_ne (g := cup g 254 (105 + 8 * k) 1) (k := 254) (j := 15 + 6 * w) (k' := 254) (j' := 6) (by omega)] at h
              try rw [cup_ne (g := g) (k := 254) (j := 105 + 8 * k) (k' := 254) (j' := 6) (by omega)] at h
              have h := zm zy_234 h 2 (q := (110, dset (dset (dset (dset (dset (dset (dset lf 5 (0, (k : Int))) 4 (0, (c : Int))) 3 (0, (T : Int))) 2 (0, (Q : Int))) 1 (0, (P : Int))) 0 (4, 253)) 4 (0, 1 + (c : Int)), [(0, (k : Int)), (4, 253), (0, g 254 6), (0, 6), (4, 254)], cup (cup g 254 (105 + 8 * k) 1) 254 (15 + 6 * w) (w32 (pu + f)))) rfl
              dsimp only at h
              obtain ⟨gz79, rz80, hk, h⟩ := zcallI zy_234 h rfl rfl zy_212 zk_212
              dsimp only at hk h
              have hO81 := h
              have h := hk
              clear hk
              have h := zm zy_212 h 3 (q := (5, darg 0 [(4, 253), (0, (k : Int))], [(0, (k : Int)), (4, 254)], cup (cup g 254 (105 + 8 * k) 1) 254 (15 + 6 * w) (w32 (pu + f)))) rfl
              dsimp only at h
              obtain ⟨gz82, rz83, hk, h⟩ := zcallI zy_212 h rfl rfl zy_199 zk_199
              dsimp only at hk h
              have hO84 := h
              have h := hk
              clear hk
              have h := zm zy_199 h 5 (q := (7, darg 0 [(0, (k : Int))], [(0, w32 (99 + (w32 (8 * ((k : Int))))))], cup (cup g 254 (105 + 8 * k) 1) 254 (15 + 6 * w) (w32 (pu + f)))) rfl
              dsimp only at h
              try rw [w32_eq (z := 8 * ((k : Int))) (v := 8 * (k : Int)) (by omega) (by omega) (by omega)] at h
              try rw [w32_eq (z := 99 + (8 * (k : Int))) (v := 99 + 8 * (k : Int)) (by omega) (by omega) (by omega)] at h
              have h := zret zy_199 h rfl rfl
              obtain ⟨e1, e2⟩ := oI h
              have h := hO84
              rw [e1, e2] at h
              clear e1 e2
              clear hO84
              have h := zm zy_212 h 2 (q := (10, darg 0 [(4, 253), (0, (k : Int))], [(0, w32 ((99 + 8 * (k : Int)) + 4)), (4, 254)], cup (cup g 254 (105 + 8 * k) 1) 254 (15 + 6 * w) (w32 (pu + f)))) rfl
              dsimp only at h
              try rw [w32_eq (z := (99 + 8 * (k : Int)) + 4) (v := 103 + 8 * (k : Int)) (by omega) (by omega) (by omega)] at h
              have h := zald zy_212 h rfl rfl (dvb_254 (i := 103 + 8 * (k : Int)) (by omega) (by omega))
              dsimp only at h
              try rw [show (103 + 8 * (k : Int)).toNat = 103 + 8 * k from by omega] at h
              try rw [cup_ne (g := cup g 254 (105 + 8 * k) 1) (k := 254) (j := 15 + 6 * w) (k' := 254) (j' := 103 + 8 * k) (by omega)] at h
              try rw [cup_ne (g := g) (k := 254) (j := 105 + 8 * k) (k' := 254) (j' := 103 + 8 * k) (by omega)] at h
              try rw [hO.2.2.2.2.1] at h
              have h := zret zy_212 h rfl rfl
              obtain ⟨e1, e2⟩ := oI h
              have h := hO81
              rw [e1, e2] at h
              clear e1 e2
              clear hO81
              have h := zm zy_234 h 4 (q := (6, dset (dset (dset (dset (dset (dset (dset (dset lf 5 (0, (k : Int))) 4 (0, (c : Int))) 3 (0, (T : Int))) 2 (0, (Q : Int))) 1 (0, (P : Int))) 0 (4, 253)) 4 (0, 1 + (c : Int))) 5 (0, w32 (((k : Int)) + 1)), [], cup (cup (cup g 254 (105 + 8 * k) 1) 254 (15 + 6 * w) (w32 (pu + f))) 254 6 (w32 ((g 254 6) - f)))) rfl
              dsimp only at h
              try rw [w32_eq (z := ((k : Int)) + 1) (v := 1 + (k : Int)) (by omega) (by omega) (by omega)] at h
              refine Or.inr (Or.inl (⟨⟨hc11, hc19, hc27, hc35, hc60⟩, ?_⟩))
              exact ⟨_, rfl, rfl, rfl, rfl, rfl, rfl, h⟩
            · have h := zm zy_202 h 2 (q := (27, darg 0 [(4, 253), (0, (k : Int))], [(0, 1)], g)) rfl
              dsimp only at h
              have h := zret zy_202 h rfl rfl
              obtain ⟨e1, e2⟩ := oI h
              have h := hO38
              rw [e1, e2] at h
              clear e1 e2
              clear hO38
              have h := zm zy_234 h 3 (q := (6, dset (dset (dset (dset (dset (dset (dset lf 5 (0, (k : Int))) 4 (0, (c : Int))) 3 (0, (T : Int))) 2 (0, (Q : Int))) 1 (0, (P : Int))) 0 (4, 253)) 5 (0, w32 (((k : Int)) + 1)), [], g)) rfl
              dsimp only at h
              try rw [w32_eq (z := ((k : Int)) + 1) (v := 1 + (k : Int)) (by omega) (by omega) (by omega)] at h
              refine Or.inl (⟨Or.inr (Or.inr (Or.inr (⟨hc11, hc19, hc27, hc35, hc60⟩))), ?_⟩)
              exact ⟨_, rfl, rfl, rfl, rfl, rfl, rfl, h⟩
          · have h := zm zy_234 h 2 (q := (44, dset (dset (dset (dset (dset (dset lf 5 (0, (k : Int))) 4 (0, (c : Int))) 3 (0, (T : Int))) 2 (0, (Q : Int))) 1 (0, (P : Int))) 0 (4, 253), [(0, (k : Int)), (4, 253)], g)) rfl
            dsimp only at h
            obtain ⟨gz87, hk, h⟩ := zcallV zy_234 h rfl rfl zy_229 zk_229
            dsimp only at hk h
            have hO89 := h
            have h := hk
            clear hk
            have h := zm zy_229 h 2 (q := (2, darg 0 [(4, 253), (0, (k : Int))], [(0, (k : Int)), (4, 253)], g)) rfl
            dsimp only at h
            obtain ⟨gz90, rz91, hk, h⟩ := zcallI zy_229 h rfl rfl zy_201 zk_201
            dsimp only at hk h
            have hO92 := h
            have h := hk
            clear hk
            have h := zm zy_201 h 3 (q := (5, darg 0 [(4, 253), (0, (k : Int))], [(0, (k : Int)), (4, 254)], g)) rfl
            dsimp only at h
            obtain ⟨gz93, rz94, hk, h⟩ := zcallI zy_201 h rfl rfl zy_199 zk_199
            dsimp only at hk h
            have hO95 := h
            have h := hk
            clear hk
            have h := zm zy_199 h 5 (q := (7, darg 0 [(0, (k : Int))], [(0, w32 (99 + (w32 (8 * ((k : Int))))))], g)) rfl
            dsimp only at h
            try rw [w32_eq (z := 8 * ((k : Int))) (v := 8 * (k : Int)) (by omega) (by omega) (by omega)] at h
            try rw [w32_eq (z := 99 + (8 * (k : Int))) (v := 99 + 8 * (k : Int)) (by omega) (by omega) (by omega)] at h
            have h := zret zy_199 h rfl rfl
            obtain ⟨e1, e2⟩ := oI h
            have h := hO95
            rw [e1, e2] at h
            clear e1 e2
            clear hO95
            have h := zm zy_201 h 2 (q := (10, darg 0 [(4, 253), (0, (k : Int))], [(0, w32 ((99 + 8 * (k : Int)) + 5)), (4, 254)], g)) rfl
            dsimp only at h
            try rw [w32_eq (z := (99 + 8 * (k : Int)) + 5) (v := 104 + 8 * (k : Int)) (by omega) (by omega) (by omega)] at h
            have h := zald zy_201 h rfl rfl (dvb_254 (i := 104 + 8 * (k : Int)) (by omega) (by omega))
            dsimp only at h
            try rw [show (104 + 8 * (k : Int)).toNat = 104 + 8 * k from by omega] at h
            try rw [hO.2.2.2.2.2.1] at h
            have h := zm zy_201 h 1 (q := (cond (crel .ne s 0) 18 14, darg 0 [(4, 253), (0, (k : Int))], [], g)) rfl
            dsimp only at h
            rcases zif_ne h with ⟨hc96, h⟩ | ⟨hc96, h⟩
            · exact absurd hc96 (by omega)
            · have h := zm zy_201 h 2 (q := (19, darg 0 [(4, 253), (0, (k : Int))], [(0, 1)], g)) rfl
              dsimp only at h
              have h := zret zy_201 h rfl rfl
              obtain ⟨e1, e2⟩ := oI h
              have h := hO92
              rw [e1, e2] at h
              clear e1 e2
              clear hO92
              have h := zm zy_229 h 4 (q := (13, darg 0 [(4, 253), (0, (k : Int))], [(0, (k : Int)), (4, 254)], g)) rfl
              dsimp only at h
              obtain ⟨gz97, rz98, hk, h⟩ := zcallI zy_229 h rfl rfl zy_199 zk_199
              dsimp only at hk h
              have hO99 := h
              have h := hk
              clear hk
              have h := zm zy_199 h 5 (q := (7, darg 0 [(0, (k : Int))], [(0, w32 (99 + (w32 (8 * ((k : Int))))))], g)) rfl
              dsimp only at h
              try rw [w32_eq (z := 8 * ((k : Int))) (v := 8 * (k : Int)) (by omega) (by omega) (by omega)] at h
              try rw [w32_eq (z := 99 + (8 * (k : Int))) (v := 99 + 8 * (k : Int)) (by omega) (by omega) (by omega)] at h
              have h := zret zy_199 h rfl rfl
              obtain ⟨e1, e2⟩ := oI h
              have h := hO99
              rw [e1, e2] at h
              clear e1 e2
              clear hO99
              have h := zm zy_229 h 4 (q := (20, darg 0 [(4, 253), (0, (k : Int))], [], cup g 254 ((w32 ((99 + 8 * (k : Int)) + 5)).toNat) 1)) rfl
              dsimp only at h
              try rw [w32_eq (z := (99 + 8 * (k : Int)) + 5) (v := 104 + 8 * (k : Int)) (by omega) (by omega) (by omega)] at h
              try rw [show (104 + 8 * (k : Int)).toNat = 104 + 8 * k from by omega] at h
              have h := zret zy_229 h rfl rfl
              have e1 := oV h
              have h := hO89
              rw [e1] at h
              clear e1
              clear hO89
              have h := zm zy_234 h 3 (q := (6, dset (dset (dset (dset (dset (dset (dset lf 5 (0, (k : Int))) 4 (0, (c : Int))) 3 (0, (T : Int))) 2 (0, (Q : Int))) 1 (0, (P : Int))) 0 (4, 253)) 5 (0, w32 (((k : Int)) + 1)), [], cup g 254 (104 + 8 * k) 1)) rfl
              dsimp only at h
              try rw [w32_eq (z := ((k : Int)) + 1) (v := 1 + (k : Int)) (by omega) (by omega) (by omega)] at h
              refine Or.inr (Or.inr (⟨⟨hc11, hc19, hc27, hc35⟩, ?_⟩))
              exact ⟨_, rfl, rfl, rfl, rfl, rfl, rfl, h⟩
theorem m_fnd6e {sv : Nat → Int32} {L n : Nat} {lf : dlf} {g : cg} {o : cg × Option cv} {P Q T k N c : Nat} (rP : P ≤ 5) (rQ : Q ≤ 4) (rT : T ≤ 7) (rk : k ≤ 16) (rN : N ≤ 16) (rc : c ≤ 16) (hN : g 254 2 = (N : Int)) (hge : N ≤ k) (h : zr sv L (n + 1) 234 6 lf [] g o) (hl0 : lf 0 = (4, 253)) (hl1 : lf 1 = (0, (P : Int))) (hl2 : lf 2 = (0, (Q : Int))) (hl3 : lf 3 = (0, (T : Int))) (hl4 : lf 4 = (0, (c : Int))) (hl5 : lf 5 = (0, (k : Int))) : o = (cup g 254 (51 + 8 * P + T) ((Q : Int)), some (0, (c : Int))) := by
  rw [zov hl0, zov hl1, zov hl2, zov hl3, zov hl4, zov hl5] at h
  have h := zm1 zy_234 h 5 (q := (cond (crel .ge ((k : Int)) (g 254 2)) 121 17, dset (dset (dset (dset (dset (dset lf 5 (0, (k : Int))) 4 (0, (c : Int))) 3 (0, (T : Int))) 2 (0, (Q : Int))) 1 (0, (P : Int))) 0 (4, 253), [], g)) rfl
  dsimp only at h
  try rw [hN] at h
  rcases zif_ge h with ⟨hc1, h⟩ | ⟨hc1, h⟩
  · have h := zm zy_234 h 12 (q := (138, dset (dset (dset (dset (dset (dset lf 5 (0, (k : Int))) 4 (0, (c : Int))) 3 (0, (T : Int))) 2 (0, (Q : Int))) 1 (0, (P : Int))) 0 (4, 253), [(0, (c : Int))], cup g 254 ((w32 ((w32 (51 + (w32 (8 * ((P : Int)))))) + ((T : Int)))).toNat) ((Q : Int)))) rfl
    dsimp only at h
    try rw [w32_eq (z := 8 * ((P : Int))) (v := 8 * (P : Int)) (by omega) (by omega) (by omega)] at h
    try rw [w32_eq (z := 51 + (8 * (P : Int))) (v := 51 + 8 * (P : Int)) (by omega) (by omega) (by omega)] at h
    try rw [w32_eq (z := (51 + 8 * (P : Int)) + ((T : Int))) (v := 51 + 8 * (P : Int) + (T : Int)) (by omega) (by omega) (by omega)] at h
    try rw [show (51 + 8 * (P : Int) + (T : Int)).toNat = 51 + 8 * P + T from by omega] at h
    exact zret zy_234 h rfl rfl
  · exact absurd hc1 (by omega)
theorem m_std0 {sv : Nat → Int32} {L n : Nat} {lf : dlf} {g : cg} {o : cg × Option cv} (h : zr sv L n 235 0 lf [] g o) (hl0 : lf 0 = (4, 253)) : ∃ lf', lf' 0 = (4, 253) ∧ lf' 1 = (0, 0) ∧ lf' 2 = (0, 0) ∧ zr sv L n 235 4 lf' [] g o := by
  rw [zov hl0] at h
  have h := zm zy_235 h 4 (q := (4, dset (dset (dset lf 0 (4, 253)) 1 (0, 0)) 2 (0, 0), [], g)) rfl
  dsimp only at h
  exact ⟨_, rfl, rfl, rfl, h⟩
theorem m_std_s {sv : Nat → Int32} {L n : Nat} {lf : dlf} {g : cg} {o : cg × Option cv} {c w p q t k N : Nat} {f s b : Int} (rc : c ≤ 15) (rw : w ≤ 5) (rp : p ≤ 5) (rq : q ≤ 4) (rt : t ≤ 7) (rk : k ≤ 15) (rN : N ≤ 16) (hN : g 254 2 = (N : Int)) (hO : OHM g k w p q t f s b) (hlt : k < N) (h : zr sv L (n + 1) 235 4 lf [] g o) (hl0 : lf 0 = (4, 253)) (hl1 : lf 1 = (0, (c : Int))) (hl2 : lf 2 = (0, (k : Int))) : ((s ≠ 0) ∧ (∃ lf', lf' 0 = (4, 253) ∧ lf' 1 = (0, (c : Int)) ∧ lf' 2 = (0, 1 + (k : Int)) ∧ zr sv L n 235 4 lf' [] g o)) ∨ ((s = 0) ∧ (∃ lf', lf' 0 = (4, 253) ∧ lf' 1 = (0, 1 + (c : Int)) ∧ lf' 2 = (0, 1 + (k : Int)) ∧ zr sv L n 235 4 lf' [] g o)) := by
  rw [zov hl0, zov hl1, zov hl2] at h
  have h := zm1 zy_235 h 5 (q := (cond (crel .ge ((k : Int)) (g 254 2)) 36 14, dset (dset (dset lf 2 (0, (k : Int))) 1 (0, (c : Int))) 0 (4, 253), [], g)) rfl
  dsimp only at h
  try rw [hN] at h
  rcases zif_ge h with ⟨hc1, h⟩ | ⟨hc1, h⟩
  · exact absurd hc1 (by omega)
  · have h := zm zy_235 h 3 (q := (17, dset (dset (dset lf 2 (0, (k : Int))) 1 (0, (c : Int))) 0 (4, 253), [(0, (k : Int)), (4, 253), (0, (c : Int))], g)) rfl
    dsimp only at h
    obtain ⟨gz2, rz3, hk, h⟩ := zcallI zy_235 h rfl rfl zy_201 zk_201
    dsimp only at hk h
    have hO4 := h
    have h := hk
    clear hk
    have h := zm zy_201 h 3 (q := (5, darg 0 [(4, 253), (0, (k : Int))], [(0, (k : Int)), (4, 254)], g)) rfl
    dsimp only at h
    obtain ⟨gz5, rz6, hk, h⟩ := zcallI zy_201 h rfl rfl zy_199 zk_199
    dsimp only at hk h
    have hO7 := h
    have h := hk
    clear hk
    have h := zm zy_199 h 5 (q := (7, darg 0 [(0, (k : Int))], [(0, w32 (99 + (w32 (8 * ((k : Int))))))], g)) rfl
    dsimp only at h
    try rw [w32_eq (z := 8 * ((k : Int))) (v := 8 * (k : Int)) (by omega) (by omega) (by omega)] at h
    try rw [w32_eq (z := 99 + (8 * (k : Int))) (v := 99 + 8 * (k : Int)) (by omega) (by omega) (by omega)] at h
    have h := zret zy_199 h rfl rfl
    obtain ⟨e1, e2⟩ := oI h
    have h := hO7
    rw [e1, e2] at h
    clear e1 e2
    clear hO7
    have h := zm zy_201 h 2 (q := (10, darg 0 [(4, 253), (0, (k : Int))], [(0, w32 ((99 + 8 * (k : Int)) + 5)), (4, 254)], g)) rfl
    dsimp only at h
    try rw [w32_eq (z := (99 + 8 * (k : Int)) + 5) (v := 104 + 8 * (k : Int)) (by omega) (by omega) (by omega)] at h
    have h := zald zy_201 h rfl rfl (dvb_254 (i := 104 + 8 * (k : Int)) (by omega) (by omega))
    dsimp only at h
    try rw [show (104 + 8 * (k : Int)).toNat = 104 + 8 * k from by omega] at h
    try rw [hO.2.2.2.2.2.1] at h
    have h := zm zy_201 h 1 (q := (cond (crel .ne s 0) 18 14, darg 0 [(4, 253), (0, (k : Int))], [], g)) rfl
    dsimp only at h
    rcases zif_ne h with ⟨hc8, h⟩ | ⟨hc8, h⟩
    · have h := zm zy_201 h 1 (q := (19, darg 0 [(4, 253), (0, (k : Int))], [(0, 0)], g)) rfl
      dsimp only at h
      have h := zret zy_201 h rfl rfl
      obtain ⟨e1, e2⟩ := oI h
      have h := hO4
      rw [e1, e2] at h
      clear e1 e2
      clear hO4
      have h := zm zy_235 h 6 (q := (4, dset (dset (dset (dset (dset lf 2 (0, (k : Int))) 1 (0, (c : Int))) 0 (4, 253)) 1 (0, w32 (((c : Int)) + 0))) 2 (0, w32 (((k : Int)) + 1)), [], g)) rfl
      dsimp only at h
      try rw [w32_eq (z := ((c : Int)) + 0) (v := (c : Int)) (by omega) (by omega) (by omega)] at h
      try rw [w32_eq (z := ((k : Int)) + 1) (v := 1 + (k : Int)) (by omega) (by omega) (by omega)] at h
      refine Or.inl (⟨hc8, ?_⟩)
      exact ⟨_, rfl, rfl, rfl, h⟩
    · have h := zm zy_201 h 2 (q := (19, darg 0 [(4, 253), (0, (k : Int))], [(0, 1)], g)) rfl
      dsimp only at h
      have h := zret zy_201 h rfl rfl
      obtain ⟨e1, e2⟩ := oI h
      have h := hO4
      rw [e1, e2] at h
      clear e1 e2
      clear hO4
      have h := zm zy_235 h 7 (q := (4, dset (dset (dset (dset (dset lf 2 (0, (k : Int))) 1 (0, (c : Int))) 0 (4, 253)) 1 (0, w32 (((c : Int)) + 1))) 2 (0, w32 (((k : Int)) + 1)), [], g)) rfl
      dsimp only at h
      try rw [w32_eq (z := ((c : Int)) + 1) (v := 1 + (c : Int)) (by omega) (by omega) (by omega)] at h
      try rw [w32_eq (z := ((k : Int)) + 1) (v := 1 + (k : Int)) (by omega) (by omega) (by omega)] at h
      refine Or.inr (⟨hc8, ?_⟩)
      exact ⟨_, rfl, rfl, rfl, h⟩
theorem m_std_e {sv : Nat → Int32} {L n : Nat} {lf : dlf} {g : cg} {o : cg × Option cv} {c k N : Nat} (rc : c ≤ 16) (rk : k ≤ 16) (rN : N ≤ 16) (hN : g 254 2 = (N : Int)) (hge : N ≤ k) (h : zr sv L (n + 1) 235 4 lf [] g o) (hl0 : lf 0 = (4, 253)) (hl1 : lf 1 = (0, (c : Int))) (hl2 : lf 2 = (0, (k : Int))) : o = (g, some (0, (c : Int))) := by
  rw [zov hl0, zov hl1, zov hl2] at h
  have h := zm1 zy_235 h 5 (q := (cond (crel .ge ((k : Int)) (g 254 2)) 36 14, dset (dset (dset lf 2 (0, (k : Int))) 1 (0, (c : Int))) 0 (4, 253), [], g)) rfl
  dsimp only at h
  try rw [hN] at h
  rcases zif_ge h with ⟨hc1, h⟩ | ⟨hc1, h⟩
  · have h := zm zy_235 h 1 (q := (37, dset (dset (dset lf 2 (0, (k : Int))) 1 (0, (c : Int))) 0 (4, 253), [(0, (c : Int))], g)) rfl
    dsimp only at h
    exact zret zy_235 h rfl rfl
  · exact absurd hc1 (by omega)
theorem m_fit {sv : Nat → Int32} {L n : Nat} {lf : dlf} {g : cg} {o : cg × Option cv} {q t Q T : Nat} {x y sp : Int} (rq : q ≤ 4) (rt : t ≤ 7) (rQ : Q ≤ 4) (rT : T ≤ 7) (hx : g 254 (10 + q) = x) (hy : g 254 (10 + Q) = y) (hs : g 254 5 = sp) (h : zr sv L n 231 0 lf [] g o) (hl0 : lf 0 = (4, 253)) (hl1 : lf 1 = (0, (q : Int))) (hl2 : lf 2 = (0, (t : Int))) (hl3 : lf 3 = (0, (Q : Int))) (hl4 : lf 4 = (0, (T : Int))) : ((((t : Int) ≠ (T : Int) ∧ 0 ≤ w32 (x - y) ∧ 0 ≤ -(T : Int) + (t : Int) ∧ w32 (sp * (-(T : Int) + (t : Int))) < w32 (x - y)) ∨ ((t : Int) ≠ (T : Int) ∧ 0 ≤ w32 (x - y) ∧ -(T : Int) + (t : Int) < 0 ∧ w32 (sp * ((-i32 (-(T : Int) + (t : Int))).toInt)) < w32 (x - y)) ∨ ((t : Int) ≠ (T : Int) ∧ w32 (x - y) < 0 ∧ 0 ≤ -(T : Int) + (t : Int) ∧ w32 (sp * (-(T : Int) + (t : Int))) < (-i32 (w32 (x - y))).toInt) ∨ ((t : Int) ≠ (T : Int) ∧ w32 (x - y) < 0 ∧ -(T : Int) + (t : Int) < 0 ∧ w32 (sp * ((-i32 (-(T : Int) + (t : Int))).toInt)) < (-i32 (w32 (x - y))).toInt) ∨ ((t : Int) = (T : Int) ∧ (q : Int) ≠ (Q : Int))) ∧ (o = (g, some (0, 0)))) ∨ ((((t : Int) ≠ (T : Int) ∧ 0 ≤ w32 (x - y) ∧ 0 ≤ -(T : Int) + (t : Int) ∧ w32 (x - y) ≤ w32 (sp * (-(T : Int) + (t : Int)))) ∨ ((t : Int) ≠ (T : Int) ∧ 0 ≤ w32 (x - y) ∧ -(T : Int) + (t : Int) < 0 ∧ w32 (x - y) ≤ w32 (sp * ((-i32 (-(T : Int) + (t : Int))).toInt))) ∨ ((t : Int) ≠ (T : Int) ∧ w32 (x - y) < 0 ∧ 0 ≤ -(T : Int) + (t : Int) ∧ (-i32 (w32 (x - y))).toInt ≤ w32 (sp * (-(T : Int) + (t : Int)))) ∨ ((t : Int) ≠ (T : Int) ∧ w32 (x - y) < 0 ∧ -(T : Int) + (t : Int) < 0 ∧ (-i32 (w32 (x - y))).toInt ≤ w32 (sp * ((-i32 (-(T : Int) + (t : Int))).toInt))) ∨ ((t : Int) = (T : Int) ∧ (q : Int) = (Q : Int))) ∧ (o = (g, some (0, 1)))) := by
  rw [zov hl0, zov hl1, zov hl2, zov hl3, zov hl4] at h
  have h := zm zy_231 h 3 (q := (cond (crel .ne ((t : Int)) ((T : Int))) 17 6, dset (dset (dset (dset (dset lf 4 (0, (T : Int))) 3 (0, (Q : Int))) 2 (0, (t : Int))) 1 (0, (q : Int))) 0 (4, 253), [], g)) rfl
  dsimp only at h
  rcases zif_ne h with ⟨hc1, h⟩ | ⟨hc1, h⟩
  · have h := zm zy_231 h 5 (q := (25, dset (dset (dset (dset (dset lf 4 (0, (T : Int))) 3 (0, (Q : Int))) 2 (0, (t : Int))) 1 (0, (q : Int))) 0 (4, 253), [(0, w32 (10 + ((q : Int)))), (4, 254)], g)) rfl
    dsimp only at h
    try rw [w32_eq (z := 10 + ((q : Int))) (v := 10 + (q : Int)) (by omega) (by omega) (by omega)] at h
    have h := zald zy_231 h rfl rfl (dvb_254 (i := 10 + (q : Int)) (by omega) (by omega))
    dsimp only at h
    try rw [show (10 + (q : Int)).toNat = 10 + q from by omega] at h
    try rw [hx] at h
    have h := zm zy_231 h 5 (q := (34, dset (dset (dset (dset (dset lf 4 (0, (T : Int))) 3 (0, (Q : Int))) 2 (0, (t : Int))) 1 (0, (q : Int))) 0 (4, 253), [(0, w32 (10 + ((Q : Int)))), (4, 254), (0, x)], g)) rfl
    dsimp only at h
    try rw [w32_eq (z := 10 + ((Q : Int))) (v := 10 + (Q : Int)) (by omega) (by omega) (by omega)] at h
    have h := zald zy_231 h rfl rfl (dvb_254 (i := 10 + (Q : Int)) (by omega) (by omega))
    dsimp only at h
    try rw [show (10 + (Q : Int)).toNat = 10 + Q from by omega] at h
    try rw [hy] at h
    have h := zm zy_231 h 1 (q := (36, dset (dset (dset (dset (dset lf 4 (0, (T : Int))) 3 (0, (Q : Int))) 2 (0, (t : Int))) 1 (0, (q : Int))) 0 (4, 253), [(0, w32 (x - y))], g)) rfl
    dsimp only at h
    obtain ⟨gz2, rz3, hk, h⟩ := zcallI zy_231 h rfl rfl zy_109 zk_109
    dsimp only at hk h
    have hO4 := h
    have h := hk
    clear hk
    have h := zm zy_109 h 2 (q := (cond (crel .ge (w32 (x - y)) 0) 9 4, darg 0 [(0, w32 (x - y))], [], g)) rfl
    dsimp only at h
    rcases zif_ge h with ⟨hc5, h⟩ | ⟨hc5, h⟩
    · have h := zm zy_109 h 1 (q := (10, darg 0 [(0, w32 (x - y))], [(0, w32 (x - y))], g)) rfl
      dsimp only at h
      have h := zret zy_109 h rfl rfl
      obtain ⟨e1, e2⟩ := oI h
      have h := hO4
      rw [e1, e2] at h
      clear e1 e2
      clear hO4
      have h := zm zy_231 h 7 (q := (49, dset (dset (dset (dset (dset lf 4 (0, (T : Int))) 3 (0, (Q : Int))) 2 (0, (t : Int))) 1 (0, (q : Int))) 0 (4, 253), [(0, w32 (((t : Int)) - ((T : Int)))), (0, g 254 5), (0, w32 (x - y))], g)) rfl
      dsimp only at h
      try rw [w32_eq (z := ((t : Int)) - ((T : Int))) (v := -(T : Int) + (t : Int)) (by omega) (by omega) (by omega)] at h
      try rw [hs] at h
      obtain ⟨gz6, rz7, hk, h⟩ := zcallI zy_231 h rfl rfl zy_109 zk_109
      dsimp only at hk h
      have hO8 := h
      have h := hk
      clear hk
      have h := zm zy_109 h 2 (q := (cond (crel .ge (-(T : Int) + (t : Int)) 0) 9 4, darg 0 [(0, -(T : Int) + (t : Int))], [], g)) rfl
      dsimp only at h
      rcases zif_ge h with ⟨hc9, h⟩ | ⟨hc9, h⟩
      · have h := zm zy_109 h 1 (q := (10, darg 0 [(0, -(T : Int) + (t : Int))], [(0, -(T : Int) + (t : Int))], g)) rfl
        dsimp only at h
        have h := zret zy_109 h rfl rfl
        obtain ⟨e1, e2⟩ := oI h
        have h := hO8
        rw [e1, e2] at h
        clear e1 e2
        clear hO8
        have h := zm zy_231 h 2 (q := (cond (crel .gt (w32 (x - y)) (w32 (sp * (-(T : Int) + (t : Int))))) 60 56, dset (dset (dset (dset (dset lf 4 (0, (T : Int))) 3 (0, (Q : Int))) 2 (0, (t : Int))) 1 (0, (q : Int))) 0 (4, 253), [], g)) rfl
        dsimp only at h
        rcases zif_gt h with ⟨hc10, h⟩ | ⟨hc10, h⟩
        · have h := zm zy_231 h 1 (q := (61, dset (dset (dset (dset (dset lf 4 (0, (T : Int))) 3 (0, (Q : Int))) 2 (0, (t : Int))) 1 (0, (q : Int))) 0 (4, 253), [(0, 0)], g)) rfl
          dsimp only at h
          refine Or.inl (⟨Or.inl (⟨hc1, hc5, hc9, hc10⟩), ?_⟩)
          exact zret zy_231 h rfl rfl
        · have h := zm zy_231 h 2 (q := (61, dset (dset (dset (dset (dset lf 4 (0, (T : Int))) 3 (0, (Q : Int))) 2 (0, (t : Int))) 1 (0, (q : Int))) 0 (4, 253), [(0, 1)], g)) rfl
          dsimp only at h
          refine Or.inr (⟨Or.inl (⟨hc1, hc5, hc9, hc10⟩), ?_⟩)
          exact zret zy_231 h rfl rfl
      · have h := zm zy_109 h 3 (q := (10, darg 0 [(0, -(T : Int) + (t : Int))], [(0, (-i32 (-(T : Int) + (t : Int))).toInt)], g)) rfl
        dsimp only at h
        have h := zret zy_109 h rfl rfl
        obtain ⟨e1, e2⟩ := oI h
        have h := hO8
        rw [e1, e2] at h
        clear e1 e2
        clear hO8
        have h := zm zy_231 h 2 (q := (cond (crel .gt (w32 (x - y)) (w32 (sp * ((-i32 (-(T : Int) + (t : Int))).toInt)))) 60 56, dset (dset (dset (dset (dset lf 4 (0, (T : Int))) 3 (0, (Q : Int))) 2 (0, (t : Int))) 1 (0, (q : Int))) 0 (4, 253), [], g)) rfl
        dsimp only at h
        rcases zif_gt h with ⟨hc11, h⟩ | ⟨hc11, h⟩
        · have h := zm zy_231 h 1 (q := (61, dset (dset (dset (dset (dset lf 4 (0, (T : Int))) 3 (0, (Q : Int))) 2 (0, (t : Int))) 1 (0, (q : Int))) 0 (4, 253), [(0, 0)], g)) rfl
          dsimp only at h
          refine Or.inl (⟨Or.inr (Or.inl (⟨hc1, hc5, hc9, hc11⟩)), ?_⟩)
          exact zret zy_231 h rfl rfl
        · have h := zm zy_231 h 2 (q := (61, dset (dset (dset (dset (dset lf 4 (0, (T : Int))) 3 (0, (Q : Int))) 2 (0, (t : Int))) 1 (0, (q : Int))) 0 (4, 253), [(0, 1)], g)) rfl
          dsimp only at h
          refine Or.inr (⟨Or.inr (Or.inl (⟨hc1, hc5, hc9, hc11⟩)), ?_⟩)
          exact zret zy_231 h rfl rfl
    · have h := zm zy_109 h 3 (q := (10, darg 0 [(0, w32 (x - y))], [(0, (-i32 (w32 (x - y))).toInt)], g)) rfl
      dsimp only at h
      have h := zret zy_109 h rfl rfl
      obtain ⟨e1, e2⟩ := oI h
      have h := hO4
      rw [e1, e2] at h
      clear e1 e2
      clear hO4
      have h := zm zy_231 h 7 (q := (49, dset (dset (dset (dset (dset lf 4 (0, (T : Int))) 3 (0, (Q : Int))) 2 (0, (t : Int))) 1 (0, (q : Int))) 0 (4, 253), [(0, w32 (((t : Int)) - ((T : Int)))), (0, g 254 5), (0, (-i32 (w32 (x - y))).toInt)], g)) rfl
      dsimp only at h
      try rw [w32_eq (z := ((t : Int)) - ((T : Int))) (v := -(T : Int) + (t : Int)) (by omega) (by omega) (by omega)] at h
      try rw [hs] at h
      obtain ⟨gz12, rz13, hk, h⟩ := zcallI zy_231 h rfl rfl zy_109 zk_109
      dsimp only at hk h
      have hO14 := h
      have h := hk
      clear hk
      have h := zm zy_109 h 2 (q := (cond (crel .ge (-(T : Int) + (t : Int)) 0) 9 4, darg 0 [(0, -(T : Int) + (t : Int))], [], g)) rfl
      dsimp only at h
      rcases zif_ge h with ⟨hc15, h⟩ | ⟨hc15, h⟩
      · have h := zm zy_109 h 1 (q := (10, darg 0 [(0, -(T : Int) + (t : Int))], [(0, -(T : Int) + (t : Int))], g)) rfl
        dsimp only at h
        have h := zret zy_109 h rfl rfl
        obtain ⟨e1, e2⟩ := oI h
        have h := hO14
        rw [e1, e2] at h
        clear e1 e2
        clear hO14
        have h := zm zy_231 h 2 (q := (cond (crel .gt ((-i32 (w32 (x - y))).toInt) (w32 (sp * (-(T : Int) + (t : Int))))) 60 56, dset (dset (dset (dset (dset lf 4 (0, (T : Int))) 3 (0, (Q : Int))) 2 (0, (t : Int))) 1 (0, (q : Int))) 0 (4, 253), [], g)) rfl
        dsimp only at h
        rcases zif_gt h with ⟨hc16, h⟩ | ⟨hc16, h⟩
        · have h := zm zy_231 h 1 (q := (61, dset (dset (dset (dset (dset lf 4 (0, (T : Int))) 3 (0, (Q : Int))) 2 (0, (t : Int))) 1 (0, (q : Int))) 0 (4, 253), [(0, 0)], g)) rfl
          dsimp only at h
          refine Or.inl (⟨Or.inr (Or.inr (Or.inl (⟨hc1, hc5, hc15, hc16⟩))), ?_⟩)
          exact zret zy_231 h rfl rfl
        · have h := zm zy_231 h 2 (q := (61, dset (dset (dset (dset (dset lf 4 (0, (T : Int))) 3 (0, (Q : Int))) 2 (0, (t : Int))) 1 (0, (q : Int))) 0 (4, 253), [(0, 1)], g)) rfl
          dsimp only at h
          refine Or.inr (⟨Or.inr (Or.inr (Or.inl (⟨hc1, hc5, hc15, hc16⟩))), ?_⟩)
          exact zret zy_231 h rfl rfl
      · have h := zm zy_109 h 3 (q := (10, darg 0 [(0, -(T : Int) + (t : Int))], [(0, (-i32 (-(T : Int) + (t : Int))).toInt)], g)) rfl
        dsimp only at h
        have h := zret zy_109 h rfl rfl
        obtain ⟨e1, e2⟩ := oI h
        have h := hO14
        rw [e1, e2] at h
        clear e1 e2
        clear hO14
        have h := zm zy_231 h 2 (q := (cond (crel .gt ((-i32 (w32 (x - y))).toInt) (w32 (sp * ((-i32 (-(T : Int) + (t : Int))).toInt)))) 60 56, dset (dset (dset (dset (dset lf 4 (0, (T : Int))) 3 (0, (Q : Int))) 2 (0, (t : Int))) 1 (0, (q : Int))) 0 (4, 253), [], g)) rfl
        dsimp only at h
        rcases zif_gt h with ⟨hc17, h⟩ | ⟨hc17, h⟩
        · have h := zm zy_231 h 1 (q := (61, dset (dset (dset (dset (dset lf 4 (0, (T : Int))) 3 (0, (Q : Int))) 2 (0, (t : Int))) 1 (0, (q : Int))) 0 (4, 253), [(0, 0)], g)) rfl
          dsimp only at h
          refine Or.inl (⟨Or.inr (Or.inr (Or.inr (Or.inl (⟨hc1, hc5, hc15, hc17⟩)))), ?_⟩)
          exact zret zy_231 h rfl rfl
        · have h := zm zy_231 h 2 (q := (61, dset (dset (dset (dset (dset lf 4 (0, (T : Int))) 3 (0, (Q : Int))) 2 (0, (t : Int))) 1 (0, (q : Int))) 0 (4, 253), [(0, 1)], g)) rfl
          dsimp only at h
          refine Or.inr (⟨Or.inr (Or.inr (Or.inr (Or.inl (⟨hc1, hc5, hc15, hc17⟩)))), ?_⟩)
          exact zret zy_231 h rfl rfl
  · have h := zm zy_231 h 3 (q := (cond (crel .ne ((q : Int)) ((Q : Int))) 15 11, dset (dset (dset (dset (dset lf 4 (0, (T : Int))) 3 (0, (Q : Int))) 2 (0, (t : Int))) 1 (0, (q : Int))) 0 (4, 253), [], g)) rfl
    dsimp only at h
    rcases zif_ne h with ⟨hc18, h⟩ | ⟨hc18, h⟩
    · have h := zm zy_231 h 1 (q := (16, dset (dset (dset (dset (dset lf 4 (0, (T : Int))) 3 (0, (Q : Int))) 2 (0, (t : Int))) 1 (0, (q : Int))) 0 (4, 253), [(0, 0)], g)) rfl
      dsimp only at h
      refine Or.inl (⟨Or.inr (Or.inr (Or.inr (Or.inr (⟨hc1, hc18⟩)))), ?_⟩)
      exact zret zy_231 h rfl rfl
    · have h := zm zy_231 h 2 (q := (16, dset (dset (dset (dset (dset lf 4 (0, (T : Int))) 3 (0, (Q : Int))) 2 (0, (t : Int))) 1 (0, (q : Int))) 0 (4, 253), [(0, 1)], g)) rfl
      dsimp only at h
      refine Or.inr (⟨Or.inr (Or.inr (Or.inr (Or.inr (⟨hc1, hc18⟩)))), ?_⟩)
      exact zret zy_231 h rfl rfl
theorem m_swear {sv : Nat → Int32} {L n : Nat} {lf : dlf} {g : cg} {o : cg × Option cv} {a b c d : Int} (h : zr sv L n 304 0 lf [] g o) (hl0 : lf 0 = (4, 253)) (hl1 : lf 1 = (0, a)) (hl2 : lf 2 = (0, b)) (hl3 : lf 3 = (0, c)) (hl4 : lf 4 = (0, d)) : (((a < 0) ∨ (0 ≤ a ∧ g 254 1 ≤ a) ∨ (0 ≤ a ∧ a < g 254 1 ∧ b < 0) ∨ (0 ≤ a ∧ a < g 254 1 ∧ 0 ≤ b ∧ g 254 1 ≤ b) ∨ (0 ≤ a ∧ a < g 254 1 ∧ 0 ≤ b ∧ b < g 254 1 ∧ c < 0) ∨ (0 ≤ a ∧ a < g 254 1 ∧ 0 ≤ b ∧ b < g 254 1 ∧ 0 ≤ c ∧ g 254 0 ≤ c) ∨ (0 ≤ a ∧ a < g 254 1 ∧ 0 ≤ b ∧ b < g 254 1 ∧ 0 ≤ c ∧ c < g 254 0 ∧ d < 0) ∨ (0 ≤ a ∧ a < g 254 1 ∧ 0 ≤ b ∧ b < g 254 1 ∧ 0 ≤ c ∧ c < g 254 0 ∧ 0 ≤ d ∧ 8 ≤ d)) ∧ (o = (cup g 253 2 1, some (0, (-1))))) ∨ ((0 ≤ a ∧ a < g 254 1 ∧ 0 ≤ b ∧ b < g 254 1 ∧ 0 ≤ c ∧ c < g 254 0 ∧ 0 ≤ d ∧ d < 8) ∧ (∃ g_1 r_1, zr sv L n 220 0 (darg 0 [(4, 253), (0, a), (0, b), (0, c), (0, d)]) [] g (g_1, some (0, r_1)) ∧ (((r_1 ≤ 0) ∧ (∃ g_2, zr sv L n 228 0 (darg 0 [(4, 253), (0, a), (0, b), (0, c), (0, d)]) [] g_1 (g_2, none) ∧ (o = (cup g_2 253 2 0, some (0, w32 ((g_2 254 2) - 1)))))) ∨ ((0 < r_1) ∧ (o = (cup g_1 253 2 7, some (0, (-1)))))))) := by
  rw [zov hl0, zov hl1, zov hl2, zov hl3, zov hl4] at h
  have h := zm zy_304 h 5 (q := (6, dset (dset (dset (dset (dset lf 4 (0, d)) 3 (0, c)) 2 (0, b)) 1 (0, a)) 0 (4, 253), [(0, d), (0, c), (0, b), (0, a), (4, 253)], g)) rfl
  dsimp only at h
  obtain ⟨gz1, rz2, hk, h⟩ := zcallI zy_304 h rfl rfl zy_218 zk_218
  dsimp only at hk h
  have hO3 := h
  have h := hk
  clear hk
  have h := zm zy_218 h 2 (q := (2, darg 0 [(4, 253), (0, a), (0, b), (0, c), (0, d)], [(0, a), (4, 253)], g)) rfl
  dsimp only at h
  obtain ⟨gz4, rz5, hk, h⟩ := zcallI zy_218 h rfl rfl zy_208 zk_208
  dsimp only at hk h
  have hO6 := h
  have h := hk
  clear hk
  have h := zm zy_208 h 2 (q := (cond (crel .lt a 0) 18 4, darg 0 [(4, 253), (0, a)], [], g)) rfl
  dsimp only at h
  rcases zif_lt h with ⟨hc7, h⟩ | ⟨hc7, h⟩
  · have h := zm zy_208 h 1 (q := (19, darg 0 [(4, 253), (0, a)], [(0, 0)], g)) rfl
    dsimp only at h
    have h := zret zy_208 h rfl rfl
    obtain ⟨e1, e2⟩ := oI h
    have h := hO6
    rw [e1, e2] at h
    clear e1 e2
    clear hO6
    have h := zm zy_218 h 2 (q := (24, darg 0 [(4, 253), (0, a), (0, b), (0, c), (0, d)], [(0, 0)], g)) rfl
    dsimp only at h
    have h := zret zy_218 h rfl rfl
    obtain ⟨e1, e2⟩ := oI h
    have h := hO3
    rw [e1, e2] at h
    clear e1 e2
    clear hO3
    have h := zm zy_304 h 3 (q := (14, dset (dset (dset (dset (dset lf 4 (0, d)) 3 (0, c)) 2 (0, b)) 1 (0, a)) 0 (4, 253), [(0, 1), (4, 253)], g)) rfl
    dsimp only at h
    obtain ⟨gz8, rz9, hk, h⟩ := zcallI zy_304 h rfl rfl zy_170 zk_170
    dsimp only at hk h
    have hO10 := h
    have h := hk
    clear hk
    have h := zm zy_170 h 4 (q := (6, darg 0 [(4, 253), (0, 1)], [(0, (-1))], cup g 253 2 1)) rfl
    dsimp only at h
    have h := zret zy_170 h rfl rfl
    obtain ⟨e1, e2⟩ := oI h
    have h := hO10
    rw [e1, e2] at h
    clear e1 e2
    clear hO10
    refine Or.inl (⟨Or.inl (hc7), ?_⟩)
    exact zret zy_304 h rfl rfl
  · have h := zm zy_208 h 6 (q := (cond (crel .ge a (g 254 1)) 18 14, darg 0 [(4, 253), (0, a)], [], g)) rfl
    dsimp only at h
    rcases zif_ge h with ⟨hc11, h⟩ | ⟨hc11, h⟩
    · have h := zm zy_208 h 1 (q := (19, darg 0 [(4, 253), (0, a)], [(0, 0)], g)) rfl
      dsimp only at h
      have h := zret zy_208 h rfl rfl
      obtain ⟨e1, e2⟩ := oI h
      have h := hO6
      rw [e1, e2] at h
      clear e1 e2
      clear hO6
      have h := zm zy_218 h 2 (q := (24, darg 0 [(4, 253), (0, a), (0, b), (0, c), (0, d)], [(0, 0)], g)) rfl
      dsimp only at h
      have h := zret zy_218 h rfl rfl
      obtain ⟨e1, e2⟩ := oI h
      have h := hO3
      rw [e1, e2] at h
      clear e1 e2
      clear hO3
      have h := zm zy_304 h 3 (q := (14, dset (dset (dset (dset (dset lf 4 (0, d)) 3 (0, c)) 2 (0, b)) 1 (0, a)) 0 (4, 253), [(0, 1), (4, 253)], g)) rfl
      dsimp only at h
      obtain ⟨gz12, rz13, hk, h⟩ := zcallI zy_304 h rfl rfl zy_170 zk_170
      dsimp only at hk h
      have hO14 := h
      have h := hk
      clear hk
      have h := zm zy_170 h 4 (q := (6, darg 0 [(4, 253), (0, 1)], [(0, (-1))], cup g 253 2 1)) rfl
      dsimp only at h
      have h := zret zy_170 h rfl rfl
      obtain ⟨e1, e2⟩ := oI h
      have h := hO14
      rw [e1, e2] at h
      clear e1 e2
      clear hO14
      refine Or.inl (⟨Or.inr (Or.inl (⟨hc7, hc11⟩)), ?_⟩)
      exact zret zy_304 h rfl rfl
    · have h := zm zy_208 h 2 (q := (19, darg 0 [(4, 253), (0, a)], [(0, 1)], g)) rfl
      dsimp only at h
      have h := zret zy_208 h rfl rfl
      obtain ⟨e1, e2⟩ := oI h
      have h := hO6
      rw [e1, e2] at h
      clear e1 e2
      clear hO6
      have h := zm zy_218 h 5 (q := (13, darg 0 [(4, 253), (0, a), (0, b), (0, c), (0, d)], [(0, d), (0, c), (0, b), (4, 253)], g)) rfl
      dsimp only at h
      obtain ⟨gz15, rz16, hk, h⟩ := zcallI zy_218 h rfl rfl zy_219 zk_219
      dsimp only at hk h
      have hO17 := h
      have h := hk
      clear hk
      have h := zm zy_219 h 2 (q := (2, darg 0 [(4, 253), (0, b), (0, c), (0, d)], [(0, b), (4, 253)], g)) rfl
      dsimp only at h
      obtain ⟨gz18, rz19, hk, h⟩ := zcallI zy_219 h rfl rfl zy_208 zk_208
      dsimp only at hk h
      have hO20 := h
      have h := hk
      clear hk
      have h := zm zy_208 h 2 (q := (cond (crel .lt b 0) 18 4, darg 0 [(4, 253), (0, b)], [], g)) rfl
      dsimp only at h
      rcases zif_lt h with ⟨hc21, h⟩ | ⟨hc21, h⟩
      · have h := zm zy_208 h 1 (q := (19, darg 0 [(4, 253), (0, b)], [(0, 0)], g)) rfl
        dsimp only at h
        have h := zret zy_208 h rfl rfl
        obtain ⟨e1, e2⟩ := oI h
        have h := hO20
        rw [e1, e2] at h
        clear e1 e2
        clear hO20
        have h := zm zy_219 h 2 (q := (28, darg 0 [(4, 253), (0, b), (0, c), (0, d)], [(0, 0)], g)) rfl
        dsimp only at h
        have h := zret zy_219 h rfl rfl
        obtain ⟨e1, e2⟩ := oI h
        have h := hO17
        rw [e1, e2] at h
        clear e1 e2
        clear hO17
        have h := zm zy_218 h 2 (q := (24, darg 0 [(4, 253), (0, a), (0, b), (0, c), (0, d)], [(0, 0)], g)) rfl
        dsimp only at h
        have h := zret zy_218 h rfl rfl
        obtain ⟨e1, e2⟩ := oI h
        have h := hO3
        rw [e1, e2] at h
        clear e1 e2
        clear hO3
        have h := zm zy_304 h 3 (q := (14, dset (dset (dset (dset (dset lf 4 (0, d)) 3 (0, c)) 2 (0, b)) 1 (0, a)) 0 (4, 253), [(0, 1), (4, 253)], g)) rfl
        dsimp only at h
        obtain ⟨gz22, rz23, hk, h⟩ := zcallI zy_304 h rfl rfl zy_170 zk_170
        dsimp only at hk h
        have hO24 := h
        have h := hk
        clear hk
        have h := zm zy_170 h 4 (q := (6, darg 0 [(4, 253), (0, 1)], [(0, (-1))], cup g 253 2 1)) rfl
        dsimp only at h
        have h := zret zy_170 h rfl rfl
        obtain ⟨e1, e2⟩ := oI h
        have h := hO24
        rw [e1, e2] at h
        clear e1 e2
        clear hO24
        refine Or.inl (⟨Or.inr (Or.inr (Or.inl (⟨hc7, hc11, hc21⟩))), ?_⟩)
        exact zret zy_304 h rfl rfl
      · have h := zm zy_208 h 6 (q := (cond (crel .ge b (g 254 1)) 18 14, darg 0 [(4, 253), (0, b)], [], g)) rfl
        dsimp only at h
        rcases zif_ge h with ⟨hc25, h⟩ | ⟨hc25, h⟩
        · have h := zm zy_208 h 1 (q := (19, darg 0 [(4, 253), (0, b)], [(0, 0)], g)) rfl
          dsimp only at h
          have h := zret zy_208 h rfl rfl
          obtain ⟨e1, e2⟩ := oI h
          have h := hO20
          rw [e1, e2] at h
          clear e1 e2
          clear hO20
          have h := zm zy_219 h 2 (q := (28, darg 0 [(4, 253), (0, b), (0, c), (0, d)], [(0, 0)], g)) rfl
          dsimp only at h
          have h := zret zy_219 h rfl rfl
          obtain ⟨e1, e2⟩ := oI h
          have h := hO17
          rw [e1, e2] at h
          clear e1 e2
          clear hO17
          have h := zm zy_218 h 2 (q := (24, darg 0 [(4, 253), (0, a), (0, b), (0, c), (0, d)], [(0, 0)], g)) rfl
          dsimp only at h
          have h := zret zy_218 h rfl rfl
          obtain ⟨e1, e2⟩ := oI h
          have h := hO3
          rw [e1, e2] at h
          clear e1 e2
          clear hO3
          have h := zm zy_304 h 3 (q := (14, dset (dset (dset (dset (dset lf 4 (0, d)) 3 (0, c)) 2 (0, b)) 1 (0, a)) 0 (4, 253), [(0, 1), (4, 253)], g)) rfl
          dsimp only at h
          obtain ⟨gz26, rz27, hk, h⟩ := zcallI zy_304 h rfl rfl zy_170 zk_170
          dsimp only at hk h
          have hO28 := h
          have h := hk
          clear hk
          have h := zm zy_170 h 4 (q := (6, darg 0 [(4, 253), (0, 1)], [(0, (-1))], cup g 253 2 1)) rfl
          dsimp only at h
          have h := zret zy_170 h rfl rfl
          obtain ⟨e1, e2⟩ := oI h
          have h := hO28
          rw [e1, e2] at h
          clear e1 e2
          clear hO28
          refine Or.inl (⟨Or.inr (Or.inr (Or.inr (Or.inl (⟨hc7, hc11, hc21, hc25⟩)))), ?_⟩)
          exact zret zy_304 h rfl rfl
        · have h := zm zy_208 h 2 (q := (19, darg 0 [(4, 253), (0, b)], [(0, 1)], g)) rfl
          dsimp only at h
          have h := zret zy_208 h rfl rfl
          obtain ⟨e1, e2⟩ := oI h
          have h := hO20
          rw [e1, e2] at h
          clear e1 e2
          clear hO20
          have h := zm zy_219 h 3 (q := (10, darg 0 [(4, 253), (0, b), (0, c), (0, d)], [(0, c), (4, 253)], g)) rfl
          dsimp only at h
          obtain ⟨gz29, rz30, hk, h⟩ := zcallI zy_219 h rfl rfl zy_207 zk_207
          dsimp only at hk h
          have hO31 := h
          have h := hk
          clear hk
          have h := zm zy_207 h 2 (q := (cond (crel .lt c 0) 18 4, darg 0 [(4, 253), (0, c)], [], g)) rfl
          dsimp only at h
          rcases zif_lt h with ⟨hc32, h⟩ | ⟨hc32, h⟩
          · have h := zm zy_207 h 1 (q := (19, darg 0 [(4, 253), (0, c)], [(0, 0)], g)) rfl
            dsimp only at h
            have h := zret zy_207 h rfl rfl
            obtain ⟨e1, e2⟩ := oI h
            have h := hO31
            rw [e1, e2] at h
            clear e1 e2
            clear hO31
            have h := zm zy_219 h 2 (q := (28, darg 0 [(4, 253), (0, b), (0, c), (0, d)], [(0, 0)], g)) rfl
            dsimp only at h
            have h := zret zy_219 h rfl rfl
            obtain ⟨e1, e2⟩ := oI h
            have h := hO17
            rw [e1, e2] at h
            clear e1 e2
            clear hO17
            have h := zm zy_218 h 2 (q := (24, darg 0 [(4, 253), (0, a), (0, b), (0, c), (0, d)], [(0, 0)], g)) rfl
            dsimp only at h
            have h := zret zy_218 h rfl rfl
            obtain ⟨e1, e2⟩ := oI h
            have h := hO3
            rw [e1, e2] at h
            clear e1 e2
            clear hO3
            have h := zm zy_304 h 3 (q := (14, dset (dset (dset (dset (dset lf 4 (0, d)) 3 (0, c)) 2 (0, b)) 1 (0, a)) 0 (4, 253), [(0, 1), (4, 253)], g)) rfl
            dsimp only at h
            obtain ⟨gz33, rz34, hk, h⟩ := zcallI zy_304 h rfl rfl zy_170 zk_170
            dsimp only at hk h
            have hO35 := h
            have h := hk
            clear hk
            have h := zm zy_170 h 4 (q := (6, darg 0 [(4, 253), (0, 1)], [(0, (-1))], cup g 253 2 1)) rfl
            dsimp only at h
            have h := zret zy_170 h rfl rfl
            obtain ⟨e1, e2⟩ := oI h
            have h := hO35
            rw [e1, e2] at h
            clear e1 e2
            clear hO35
            refine Or.inl (⟨Or.inr (Or.inr (Or.inr (Or.inr (Or.inl (⟨hc7, hc11, hc21, hc25, hc32⟩))))), ?_⟩)
            exact zret zy_304 h rfl rfl
          · have h := zm zy_207 h 6 (q := (cond (crel .ge c (g 254 0)) 18 14, darg 0 [(4, 253), (0, c)], [], g)) rfl
            dsimp only at h
            rcases zif_ge h with ⟨hc36, h⟩ | ⟨hc36, h⟩
            · have h := zm zy_207 h 1 (q := (19, darg 0 [(4, 253), (0, c)], [(0, 0)], g)) rfl
              dsimp only at h
              have h := zret zy_207 h rfl rfl
              obtain ⟨e1, e2⟩ := oI h
              have h := hO31
              rw [e1, e2] at h
              clear e1 e2
              clear hO31
              have h := zm zy_219 h 2 (q := (28, darg 0 [(4, 253), (0, b), (0, c), (0, d)], [(0, 0)], g)) rfl
              dsimp only at h
              have h := zret zy_219 h rfl rfl
              obtain ⟨e1, e2⟩ := oI h
              have h := hO17
              rw [e1, e2] at h
              clear e1 e2
              clear hO17
              have h := zm zy_218 h 2 (q := (24, darg 0 [(4, 253), (0, a), (0, b), (0, c), (0, d)], [(0, 0)], g)) rfl
              dsimp only at h
              have h := zret zy_218 h rfl rfl
              obtain ⟨e1, e2⟩ := oI h
              have h := hO3
              rw [e1, e2] at h
              clear e1 e2
              clear hO3
              have h := zm zy_304 h 3 (q := (14, dset (dset (dset (dset (dset lf 4 (0, d)) 3 (0, c)) 2 (0, b)) 1 (0, a)) 0 (4, 253), [(0, 1), (4, 253)], g)) rfl
              dsimp only at h
              obtain ⟨gz37, rz38, hk, h⟩ := zcallI zy_304 h rfl rfl zy_170 zk_170
              dsimp only at hk h
              have hO39 := h
              have h := hk
              clear hk
              have h := zm zy_170 h 4 (q := (6, darg 0 [(4, 253), (0, 1)], [(0, (-1))], cup g 253 2 1)) rfl
              dsimp only at h
              have h := zret zy_170 h rfl rfl
              obtain ⟨e1, e2⟩ := oI h
              have h := hO39
              rw [e1, e2] at h
              clear e1 e2
              clear hO39
              refine Or.inl (⟨Or.inr (Or.inr (Or.inr (Or.inr (Or.inr (Or.inl (⟨hc7, hc11, hc21, hc25, hc32, hc36⟩)))))), ?_⟩)
              exact zret zy_304 h rfl rfl
            · have h := zm zy_207 h 2 (q := (19, darg 0 [(4, 253), (0, c)], [(0, 1)], g)) rfl
              dsimp only at h
              have h := zret zy_207 h rfl rfl
              obtain ⟨e1, e2⟩ := oI h
              have h := hO31
              rw [e1, e2] at h
              clear e1 e2
              clear hO31
              have h := zm zy_219 h 2 (q := (17, darg 0 [(4, 253), (0, b), (0, c), (0, d)], [(0, d)], g)) rfl
              dsimp only at h
              obtain ⟨gz40, rz41, hk, h⟩ := zcallI zy_219 h rfl rfl zy_216 zk_216
              dsimp only at hk h
              have hO42 := h
              have h := hk
              clear hk
              have h := zm zy_216 h 2 (q := (cond (crel .lt d 0) 14 4, darg 0 [(0, d)], [], g)) rfl
              dsimp only at h
              rcases zif_lt h with ⟨hc43, h⟩ | ⟨hc43, h⟩
              · have h := zm zy_216 h 1 (q := (15, darg 0 [(0, d)], [(0, 0)], g)) rfl
                dsimp only at h
                have h := zret zy_216 h rfl rfl
                obtain ⟨e1, e2⟩ := oI h
                have h := hO42
                rw [e1, e2] at h
                clear e1 e2
                clear hO42
                have h := zm zy_219 h 2 (q := (28, darg 0 [(4, 253), (0, b), (0, c), (0, d)], [(0, 0)], g)) rfl
                dsimp only at h
                have h := zret zy_219 h rfl rfl
                obtain ⟨e1, e2⟩ := oI h
                have h := hO17
                rw [e1, e2] at h
                clear e1 e2
                clear hO17
                have h := zm zy_218 h 2 (q := (24, darg 0 [(4, 253), (0, a), (0, b), (0, c), (0, d)], [(0, 0)], g)) rfl
                dsimp only at h
                have h := zret zy_218 h rfl rfl
                obtain ⟨e1, e2⟩ := oI h
                have h := hO3
                rw [e1, e2] at h
                clear e1 e2
                clear hO3
                have h := zm zy_304 h 3 (q := (14, dset (dset (dset (dset (dset lf 4 (0, d)) 3 (0, c)) 2 (0, b)) 1 (0, a)) 0 (4, 253), [(0, 1), (4, 253)], g)) rfl
                dsimp only at h
                obtain ⟨gz44, rz45, hk, h⟩ := zcallI zy_304 h rfl rfl zy_170 zk_170
                dsimp only at hk h
                have hO46 := h
                have h := hk
                clear hk
                have h := zm zy_170 h 4 (q := (6, darg 0 [(4, 253), (0, 1)], [(0, (-1))], cup g 253 2 1)) rfl
                dsimp only at h
                have h := zret zy_170 h rfl rfl
                obtain ⟨e1, e2⟩ := oI h
                have h := hO46
                rw [e1, e2] at h
                clear e1 e2
                clear hO46
                refine Or.inl (⟨Or.inr (Or.inr (Or.inr (Or.inr (Or.inr (Or.inr (Or.inl (⟨hc7, hc11, hc21, hc25, hc32, hc36, hc43⟩))))))), ?_⟩)
                exact zret zy_304 h rfl rfl
              · have h := zm zy_216 h 3 (q := (cond (crel .ge d 8) 14 10, darg 0 [(0, d)], [], g)) rfl
                dsimp only at h
                rcases zif_ge h with ⟨hc47, h⟩ | ⟨hc47, h⟩
                · have h := zm zy_216 h 1 (q := (15, darg 0 [(0, d)], [(0, 0)], g)) rfl
                  dsimp only at h
                  have h := zret zy_216 h rfl rfl
                  obtain ⟨e1, e2⟩ := oI h
                  have h := hO42
                  rw [e1, e2] at h
                  clear e1 e2
                  clear hO42
                  have h := zm zy_219 h 2 (q := (28, darg 0 [(4, 253), (0, b), (0, c), (0, d)], [(0, 0)], g)) rfl
                  dsimp only at h
                  have h := zret zy_219 h rfl rfl
                  obtain ⟨e1, e2⟩ := oI h
                  have h := hO17
                  rw [e1, e2] at h
                  clear e1 e2
                  clear hO17
                  have h := zm zy_218 h 2 (q := (24, darg 0 [(4, 253), (0, a), (0, b), (0, c), (0, d)], [(0, 0)], g)) rfl
                  dsimp only at h
                  have h := zret zy_218 h rfl rfl
                  obtain ⟨e1, e2⟩ := oI h
                  have h := hO3
                  rw [e1, e2] at h
                  clear e1 e2
                  clear hO3
                  have h := zm zy_304 h 3 (q := (14, dset (dset (dset (dset (dset lf 4 (0, d)) 3 (0, c)) 2 (0, b)) 1 (0, a)) 0 (4, 253), [(0, 1), (4, 253)], g)) rfl
                  dsimp only at h
                  obtain ⟨gz48, rz49, hk, h⟩ := zcallI zy_304 h rfl rfl zy_170 zk_170
                  dsimp only at hk h
                  have hO50 := h
                  have h := hk
                  clear hk
                  have h := zm zy_170 h 4 (q := (6, darg 0 [(4, 253), (0, 1)], [(0, (-1))], cup g 253 2 1)) rfl
                  dsimp only at h
                  have h := zret zy_170 h rfl rfl
                  obtain ⟨e1, e2⟩ := oI h
                  have h := hO50
                  rw [e1, e2] at h
                  clear e1 e2
                  clear hO50
                  refine Or.inl (⟨Or.inr (Or.inr (Or.inr (Or.inr (Or.inr (Or.inr (Or.inr (⟨hc7, hc11, hc21, hc25, hc32, hc36, hc43, hc47⟩))))))), ?_⟩)
                  exact zret zy_304 h rfl rfl
                · have h := zm zy_216 h 2 (q := (15, darg 0 [(0, d)], [(0, 1)], g)) rfl
                  dsimp only at h
                  have h := zret zy_216 h rfl rfl
                  obtain ⟨e1, e2⟩ := oI h
                  have h := hO42
                  rw [e1, e2] at h
                  clear e1 e2
                  clear hO42
                  have h := zm zy_219 h 3 (q := (28, darg 0 [(4, 253), (0, b), (0, c), (0, d)], [(0, 1)], g)) rfl
                  dsimp only at h
                  have h := zret zy_219 h rfl rfl
                  obtain ⟨e1, e2⟩ := oI h
                  have h := hO17
                  rw [e1, e2] at h
                  clear e1 e2
                  clear hO17
                  have h := zm zy_218 h 3 (q := (24, darg 0 [(4, 253), (0, a), (0, b), (0, c), (0, d)], [(0, 1)], g)) rfl
                  dsimp only at h
                  have h := zret zy_218 h rfl rfl
                  obtain ⟨e1, e2⟩ := oI h
                  have h := hO3
                  rw [e1, e2] at h
                  clear e1 e2
                  clear hO3
                  have h := zm zy_304 h 6 (q := (24, dset (dset (dset (dset (dset lf 4 (0, d)) 3 (0, c)) 2 (0, b)) 1 (0, a)) 0 (4, 253), [(0, d), (0, c), (0, b), (0, a), (4, 253)], g)) rfl
                  dsimp only at h
                  obtain ⟨g_1, r_1, hk, h⟩ := zcallI zy_304 h rfl rfl zy_220 zk_220
                  dsimp only at hk h
                  refine Or.inr (⟨⟨hc7, hc11, hc21, hc25, hc32, hc36, hc43, hc47⟩, ?_⟩)
                  refine ⟨g_1, r_1, hk, ?_⟩
                  have h := zm zy_304 h 1 (q := (cond (crel .le r_1 0) 37 30, dset (dset (dset (dset (dset lf 4 (0, d)) 3 (0, c)) 2 (0, b)) 1 (0, a)) 0 (4, 253), [], g_1)) rfl
                  dsimp only at h
                  rcases zif_le h with ⟨hc51, h⟩ | ⟨hc51, h⟩
                  · have h := zm zy_304 h 5 (q := (43, dset (dset (dset (dset (dset lf 4 (0, d)) 3 (0, c)) 2 (0, b)) 1 (0, a)) 0 (4, 253), [(0, d), (0, c), (0, b), (0, a), (4, 253)], g_1)) rfl
                    dsimp only at h
                    obtain ⟨g_2, hk, h⟩ := zcallV zy_304 h rfl rfl zy_228 zk_228
                    dsimp only at hk h
                    refine Or.inl (⟨hc51, ?_⟩)
                    refine ⟨g_2, hk, ?_⟩
                    have h := zm zy_304 h 7 (q := (55, dset (dset (dset (dset (dset lf 4 (0, d)) 3 (0, c)) 2 (0, b)) 1 (0, a)) 0 (4, 253), [(0, w32 ((g_2 254 2) - 1)), (4, 253)], g_2)) rfl
                    dsimp only at h
                    obtain ⟨gz52, rz53, hk, h⟩ := zcallI zy_304 h rfl rfl zy_192 zk_192
                    dsimp only at hk h
                    have hO54 := h
                    have h := hk
                    clear hk
                    have h := zm zy_192 h 4 (q := (6, darg 0 [(4, 253), (0, w32 ((g_2 254 2) - 1))], [(0, w32 ((g_2 254 2) - 1))], cup g_2 253 2 0)) rfl
                    dsimp only at h
                    have h := zret zy_192 h rfl rfl
                    obtain ⟨e1, e2⟩ := oI h
                    have h := hO54
                    rw [e1, e2] at h
                    clear e1 e2
                    clear hO54
                    exact zret zy_304 h rfl rfl
                  · have h := zm zy_304 h 2 (q := (33, dset (dset (dset (dset (dset lf 4 (0, d)) 3 (0, c)) 2 (0, b)) 1 (0, a)) 0 (4, 253), [(0, 7), (4, 253)], g_1)) rfl
                    dsimp only at h
                    obtain ⟨gz55, rz56, hk, h⟩ := zcallI zy_304 h rfl rfl zy_170 zk_170
                    dsimp only at hk h
                    have hO57 := h
                    have h := hk
                    clear hk
                    have h := zm zy_170 h 4 (q := (6, darg 0 [(4, 253), (0, 7)], [(0, (-1))], cup g_1 253 2 7)) rfl
                    dsimp only at h
                    have h := zret zy_170 h rfl rfl
                    obtain ⟨e1, e2⟩ := oI h
                    have h := hO57
                    rw [e1, e2] at h
                    clear e1 e2
                    clear hO57
                    refine Or.inr (⟨hc51, ?_⟩)
                    exact zret zy_304 h rfl rfl
theorem m_find {sv : Nat → Int32} {L n : Nat} {lf : dlf} {g : cg} {o : cg × Option cv} {a b c : Int} (h : zr sv L n 306 0 lf [] g o) (hl0 : lf 0 = (4, 253)) (hl1 : lf 1 = (0, a)) (hl2 : lf 2 = (0, b)) (hl3 : lf 3 = (0, c)) : (((a < 0) ∨ (0 ≤ a ∧ g 254 1 ≤ a) ∨ (0 ≤ a ∧ a < g 254 1 ∧ b < 0) ∨ (0 ≤ a ∧ a < g 254 1 ∧ 0 ≤ b ∧ g 254 0 ≤ b) ∨ (0 ≤ a ∧ a < g 254 1 ∧ 0 ≤ b ∧ b < g 254 0 ∧ c < 0) ∨ (0 ≤ a ∧ a < g 254 1 ∧ 0 ≤ b ∧ b < g 254 0 ∧ 0 ≤ c ∧ 8 ≤ c)) ∧ (o = (cup g 253 2 1, some (0, (-1))))) ∨ ((0 ≤ a ∧ a < g 254 1 ∧ 0 ≤ b ∧ b < g 254 0 ∧ 0 ≤ c ∧ c < 8) ∧ (∃ g_1 r_1, zr sv L n 234 0 (darg 0 [(4, 253), (0, a), (0, b), (0, c)]) [] g (g_1, some (0, r_1)) ∧ (o = (cup g_1 253 2 0, some (0, r_1))))) := by
  rw [zov hl0, zov hl1, zov hl2, zov hl3] at h
  have h := zm zy_306 h 4 (q := (4, dset (dset (dset (dset lf 3 (0, c)) 2 (0, b)) 1 (0, a)) 0 (4, 253), [(0, c), (0, b), (0, a), (4, 253)], g)) rfl
  dsimp only at h
  obtain ⟨gz1, rz2, hk, h⟩ := zcallI zy_306 h rfl rfl zy_219 zk_219
  dsimp only at hk h
  have hO3 := h
  have h := hk
  clear hk
  have h := zm zy_219 h 2 (q := (2, darg 0 [(4, 253), (0, a), (0, b), (0, c)], [(0, a), (4, 253)], g)) rfl
  dsimp only at h
  obtain ⟨gz4, rz5, hk, h⟩ := zcallI zy_219 h rfl rfl zy_208 zk_208
  dsimp only at hk h
  have hO6 := h
  have h := hk
  clear hk
  have h := zm zy_208 h 2 (q := (cond (crel .lt a 0) 18 4, darg 0 [(4, 253), (0, a)], [], g)) rfl
  dsimp only at h
  rcases zif_lt h with ⟨hc7, h⟩ | ⟨hc7, h⟩
  · have h := zm zy_208 h 1 (q := (19, darg 0 [(4, 253), (0, a)], [(0, 0)], g)) rfl
    dsimp only at h
    have h := zret zy_208 h rfl rfl
    obtain ⟨e1, e2⟩ := oI h
    have h := hO6
    rw [e1, e2] at h
    clear e1 e2
    clear hO6
    have h := zm zy_219 h 2 (q := (28, darg 0 [(4, 253), (0, a), (0, b), (0, c)], [(0, 0)], g)) rfl
    dsimp only at h
    have h := zret zy_219 h rfl rfl
    obtain ⟨e1, e2⟩ := oI h
    have h := hO3
    rw [e1, e2] at h
    clear e1 e2
    clear hO3
    have h := zm zy_306 h 3 (q := (26, dset (dset (dset (dset lf 3 (0, c)) 2 (0, b)) 1 (0, a)) 0 (4, 253), [(0, 1), (4, 253)], g)) rfl
    dsimp only at h
    obtain ⟨gz8, rz9, hk, h⟩ := zcallI zy_306 h rfl rfl zy_170 zk_170
    dsimp only at hk h
    have hO10 := h
    have h := hk
    clear hk
    have h := zm zy_170 h 4 (q := (6, darg 0 [(4, 253), (0, 1)], [(0, (-1))], cup g 253 2 1)) rfl
    dsimp only at h
    have h := zret zy_170 h rfl rfl
    obtain ⟨e1, e2⟩ := oI h
    have h := hO10
    rw [e1, e2] at h
    clear e1 e2
    clear hO10
    refine Or.inl (⟨Or.inl (hc7), ?_⟩)
    exact zret zy_306 h rfl rfl
  · have h := zm zy_208 h 6 (q := (cond (crel .ge a (g 254 1)) 18 14, darg 0 [(4, 253), (0, a)], [], g)) rfl
    dsimp only at h
    rcases zif_ge h with ⟨hc11, h⟩ | ⟨hc11, h⟩
    · have h := zm zy_208 h 1 (q := (19, darg 0 [(4, 253), (0, a)], [(0, 0)], g)) rfl
      dsimp only at h
      have h := zret zy_208 h rfl rfl
      obtain ⟨e1, e2⟩ := oI h
      have h := hO6
      rw [e1, e2] at h
      clear e1 e2
      clear hO6
      have h := zm zy_219 h 2 (q := (28, darg 0 [(4, 253), (0, a), (0, b), (0, c)], [(0, 0)], g)) rfl
      dsimp only at h
      have h := zret zy_219 h rfl rfl
      obtain ⟨e1, e2⟩ := oI h
      have h := hO3
      rw [e1, e2] at h
      clear e1 e2
      clear hO3
      have h := zm zy_306 h 3 (q := (26, dset (dset (dset (dset lf 3 (0, c)) 2 (0, b)) 1 (0, a)) 0 (4, 253), [(0, 1), (4, 253)], g)) rfl
      dsimp only at h
      obtain ⟨gz12, rz13, hk, h⟩ := zcallI zy_306 h rfl rfl zy_170 zk_170
      dsimp only at hk h
      have hO14 := h
      have h := hk
      clear hk
      have h := zm zy_170 h 4 (q := (6, darg 0 [(4, 253), (0, 1)], [(0, (-1))], cup g 253 2 1)) rfl
      dsimp only at h
      have h := zret zy_170 h rfl rfl
      obtain ⟨e1, e2⟩ := oI h
      have h := hO14
      rw [e1, e2] at h
      clear e1 e2
      clear hO14
      refine Or.inl (⟨Or.inr (Or.inl (⟨hc7, hc11⟩)), ?_⟩)
      exact zret zy_306 h rfl rfl
    · have h := zm zy_208 h 2 (q := (19, darg 0 [(4, 253), (0, a)], [(0, 1)], g)) rfl
      dsimp only at h
      have h := zret zy_208 h rfl rfl
      obtain ⟨e1, e2⟩ := oI h
      have h := hO6
      rw [e1, e2] at h
      clear e1 e2
      clear hO6
      have h := zm zy_219 h 3 (q := (10, darg 0 [(4, 253), (0, a), (0, b), (0, c)], [(0, b), (4, 253)], g)) rfl
      dsimp only at h
      obtain ⟨gz15, rz16, hk, h⟩ := zcallI zy_219 h rfl rfl zy_207 zk_207
      dsimp only at hk h
      have hO17 := h
      have h := hk
      clear hk
      have h := zm zy_207 h 2 (q := (cond (crel .lt b 0) 18 4, darg 0 [(4, 253), (0, b)], [], g)) rfl
      dsimp only at h
      rcases zif_lt h with ⟨hc18, h⟩ | ⟨hc18, h⟩
      · have h := zm zy_207 h 1 (q := (19, darg 0 [(4, 253), (0, b)], [(0, 0)], g)) rfl
        dsimp only at h
        have h := zret zy_207 h rfl rfl
        obtain ⟨e1, e2⟩ := oI h
        have h := hO17
        rw [e1, e2] at h
        clear e1 e2
        clear hO17
        have h := zm zy_219 h 2 (q := (28, darg 0 [(4, 253), (0, a), (0, b), (0, c)], [(0, 0)], g)) rfl
        dsimp only at h
        have h := zret zy_219 h rfl rfl
        obtain ⟨e1, e2⟩ := oI h
        have h := hO3
        rw [e1, e2] at h
        clear e1 e2
        clear hO3
        have h := zm zy_306 h 3 (q := (26, dset (dset (dset (dset lf 3 (0, c)) 2 (0, b)) 1 (0, a)) 0 (4, 253), [(0, 1), (4, 253)], g)) rfl
        dsimp only at h
        obtain ⟨gz19, rz20, hk, h⟩ := zcallI zy_306 h rfl rfl zy_170 zk_170
        dsimp only at hk h
        have hO21 := h
        have h := hk
        clear hk
        have h := zm zy_170 h 4 (q := (6, darg 0 [(4, 253), (0, 1)], [(0, (-1))], cup g 253 2 1)) rfl
        dsimp only at h
        have h := zret zy_170 h rfl rfl
        obtain ⟨e1, e2⟩ := oI h
        have h := hO21
        rw [e1, e2] at h
        clear e1 e2
        clear hO21
        refine Or.inl (⟨Or.inr (Or.inr (Or.inl (⟨hc7, hc11, hc18⟩))), ?_⟩)
        exact zret zy_306 h rfl rfl
      · have h := zm zy_207 h 6 (q := (cond (crel .ge b (g 254 0)) 18 14, darg 0 [(4, 253), (0, b)], [], g)) rfl
        dsimp only at h
        rcases zif_ge h with ⟨hc22, h⟩ | ⟨hc22, h⟩
        · have h := zm zy_207 h 1 (q := (19, darg 0 [(4, 253), (0, b)], [(0, 0)], g)) rfl
          dsimp only at h
          have h := zret zy_207 h rfl rfl
          obtain ⟨e1, e2⟩ := oI h
          have h := hO17
          rw [e1, e2] at h
          clear e1 e2
          clear hO17
          have h := zm zy_219 h 2 (q := (28, darg 0 [(4, 253), (0, a), (0, b), (0, c)], [(0, 0)], g)) rfl
          dsimp only at h
          have h := zret zy_219 h rfl rfl
          obtain ⟨e1, e2⟩ := oI h
          have h := hO3
          rw [e1, e2] at h
          clear e1 e2
          clear hO3
          have h := zm zy_306 h 3 (q := (26, dset (dset (dset (dset lf 3 (0, c)) 2 (0, b)) 1 (0, a)) 0 (4, 253), [(0, 1), (4, 253)], g)) rfl
          dsimp only at h
          obtain ⟨gz23, rz24, hk, h⟩ := zcallI zy_306 h rfl rfl zy_170 zk_170
          dsimp only at hk h
          have hO25 := h
          have h := hk
          clear hk
          have h := zm zy_170 h 4 (q := (6, darg 0 [(4, 253), (0, 1)], [(0, (-1))], cup g 253 2 1)) rfl
          dsimp only at h
          have h := zret zy_170 h rfl rfl
          obtain ⟨e1, e2⟩ := oI h
          have h := hO25
          rw [e1, e2] at h
          clear e1 e2
          clear hO25
          refine Or.inl (⟨Or.inr (Or.inr (Or.inr (Or.inl (⟨hc7, hc11, hc18, hc22⟩)))), ?_⟩)
          exact zret zy_306 h rfl rfl
        · have h := zm zy_207 h 2 (q := (19, darg 0 [(4, 253), (0, b)], [(0, 1)], g)) rfl
          dsimp only at h
          have h := zret zy_207 h rfl rfl
          obtain ⟨e1, e2⟩ := oI h
          have h := hO17
          rw [e1, e2] at h
          clear e1 e2
          clear hO17
          have h := zm zy_219 h 2 (q := (17, darg 0 [(4, 253), (0, a), (0, b), (0, c)], [(0, c)], g)) rfl
          dsimp only at h
          obtain ⟨gz26, rz27, hk, h⟩ := zcallI zy_219 h rfl rfl zy_216 zk_216
          dsimp only at hk h
          have hO28 := h
          have h := hk
          clear hk
          have h := zm zy_216 h 2 (q := (cond (crel .lt c 0) 14 4, darg 0 [(0, c)], [], g)) rfl
          dsimp only at h
          rcases zif_lt h with ⟨hc29, h⟩ | ⟨hc29, h⟩
          · have h := zm zy_216 h 1 (q := (15, darg 0 [(0, c)], [(0, 0)], g)) rfl
            dsimp only at h
            have h := zret zy_216 h rfl rfl
            obtain ⟨e1, e2⟩ := oI h
            have h := hO28
            rw [e1, e2] at h
            clear e1 e2
            clear hO28
            have h := zm zy_219 h 2 (q := (28, darg 0 [(4, 253), (0, a), (0, b), (0, c)], [(0, 0)], g)) rfl
            dsimp only at h
            have h := zret zy_219 h rfl rfl
            obtain ⟨e1, e2⟩ := oI h
            have h := hO3
            rw [e1, e2] at h
            clear e1 e2
            clear hO3
            have h := zm zy_306 h 3 (q := (26, dset (dset (dset (dset lf 3 (0, c)) 2 (0, b)) 1 (0, a)) 0 (4, 253), [(0, 1), (4, 253)], g)) rfl
            dsimp only at h
            obtain ⟨gz30, rz31, hk, h⟩ := zcallI zy_306 h rfl rfl zy_170 zk_170
            dsimp only at hk h
            have hO32 := h
            have h := hk
            clear hk
            have h := zm zy_170 h 4 (q := (6, darg 0 [(4, 253), (0, 1)], [(0, (-1))], cup g 253 2 1)) rfl
            dsimp only at h
            have h := zret zy_170 h rfl rfl
            obtain ⟨e1, e2⟩ := oI h
            have h := hO32
            rw [e1, e2] at h
            clear e1 e2
            clear hO32
            refine Or.inl (⟨Or.inr (Or.inr (Or.inr (Or.inr (Or.inl (⟨hc7, hc11, hc18, hc22, hc29⟩))))), ?_⟩)
            exact zret zy_306 h rfl rfl
          · have h := zm zy_216 h 3 (q := (cond (crel .ge c 8) 14 10, darg 0 [(0, c)], [], g)) rfl
            dsimp only at h
            rcases zif_ge h with ⟨hc33, h⟩ | ⟨hc33, h⟩
            · have h := zm zy_216 h 1 (q := (15, darg 0 [(0, c)], [(0, 0)], g)) rfl
              dsimp only at h
              have h := zret zy_216 h rfl rfl
              obtain ⟨e1, e2⟩ := oI h
              have h := hO28
              rw [e1, e2] at h
              clear e1 e2
              clear hO28
              have h := zm zy_219 h 2 (q := (28, darg 0 [(4, 253), (0, a), (0, b), (0, c)], [(0, 0)], g)) rfl
              dsimp only at h
              have h := zret zy_219 h rfl rfl
              obtain ⟨e1, e2⟩ := oI h
              have h := hO3
              rw [e1, e2] at h
              clear e1 e2
              clear hO3
              have h := zm zy_306 h 3 (q := (26, dset (dset (dset (dset lf 3 (0, c)) 2 (0, b)) 1 (0, a)) 0 (4, 253), [(0, 1), (4, 253)], g)) rfl
              dsimp only at h
              obtain ⟨gz34, rz35, hk, h⟩ := zcallI zy_306 h rfl rfl zy_170 zk_170
              dsimp only at hk h
              have hO36 := h
              have h := hk
              clear hk
              have h := zm zy_170 h 4 (q := (6, darg 0 [(4, 253), (0, 1)], [(0, (-1))], cup g 253 2 1)) rfl
              dsimp only at h
              have h := zret zy_170 h rfl rfl
              obtain ⟨e1, e2⟩ := oI h
              have h := hO36
              rw [e1, e2] at h
              clear e1 e2
              clear hO36
              refine Or.inl (⟨Or.inr (Or.inr (Or.inr (Or.inr (Or.inr (⟨hc7, hc11, hc18, hc22, hc29, hc33⟩))))), ?_⟩)
              exact zret zy_306 h rfl rfl
            · have h := zm zy_216 h 2 (q := (15, darg 0 [(0, c)], [(0, 1)], g)) rfl
              dsimp only at h
              have h := zret zy_216 h rfl rfl
              obtain ⟨e1, e2⟩ := oI h
              have h := hO28
              rw [e1, e2] at h
              clear e1 e2
              clear hO28
              have h := zm zy_219 h 3 (q := (28, darg 0 [(4, 253), (0, a), (0, b), (0, c)], [(0, 1)], g)) rfl
              dsimp only at h
              have h := zret zy_219 h rfl rfl
              obtain ⟨e1, e2⟩ := oI h
              have h := hO3
              rw [e1, e2] at h
              clear e1 e2
              clear hO3
              have h := zm zy_306 h 6 (q := (15, dset (dset (dset (dset lf 3 (0, c)) 2 (0, b)) 1 (0, a)) 0 (4, 253), [(0, c), (0, b), (0, a), (4, 253), (4, 253)], g)) rfl
              dsimp only at h
              obtain ⟨g_1, r_1, hk, h⟩ := zcallI zy_306 h rfl rfl zy_234 zk_234
              dsimp only at hk h
              refine Or.inr (⟨⟨hc7, hc11, hc18, hc22, hc29, hc33⟩, ?_⟩)
              refine ⟨g_1, r_1, hk, ?_⟩
              obtain ⟨gz37, rz38, hk, h⟩ := zcallI zy_306 h rfl rfl zy_192 zk_192
              dsimp only at hk h
              have hO39 := h
              have h := hk
              clear hk
              have h := zm zy_192 h 4 (q := (6, darg 0 [(4, 253), (0, r_1)], [(0, r_1)], cup g_1 253 2 0)) rfl
              dsimp only at h
              have h := zret zy_192 h rfl rfl
              obtain ⟨e1, e2⟩ := oI h
              have h := hO39
              rw [e1, e2] at h
              clear e1 e2
              clear hO39
              have h := zm zy_306 h 1 (q := (29, dset (dset (dset (dset lf 3 (0, c)) 2 (0, b)) 1 (0, a)) 0 (4, 253), [(0, r_1)], cup g_1 253 2 0)) rfl
              dsimp only at h
              exact zret zy_306 h rfl rfl
theorem m_ride {sv : Nat → Int32} {L n : Nat} {lf : dlf} {g : cg} {o : cg × Option cv} {a : Int} (h : zr sv L n 314 0 lf [] g o) (hl0 : lf 0 = (4, 253)) (hl1 : lf 1 = (0, a)) : (((csgn (a - 0) < 0) ∨ (0 ≤ csgn (a - 0) ∧ 0 < csgn (a - 60))) ∧ (o = (cup g 253 2 1, some (0, 0)))) ∨ ((0 ≤ csgn (a - 0) ∧ csgn (a - 60) ≤ 0) ∧ (o = (cup (cup g 254 5 a) 253 2 0, some (0, 1)))) := by
  rw [zov hl0, zov hl1] at h
  have h := zm zy_314 h 4 (q := (6, dset (dset lf 1 (0, a)) 0 (4, 253), [(2, 60), (2, 0), (2, a)], g)) rfl
  dsimp only at h
  obtain ⟨gz1, rz2, hk, h⟩ := zcallI zy_314 h rfl rfl zy_236 zk_236
  dsimp only at hk h
  have hO3 := h
  have h := hk
  clear hk
  have h := zm zy_236 h 4 (q := (cond (crel .lt (csgn (a - 0)) 0) 17 6, darg 0 [(2, a), (2, 0), (2, 60)], [], g)) rfl
  dsimp only at h
  rcases zif_lt h with ⟨hc4, h⟩ | ⟨hc4, h⟩
  · have h := zm zy_236 h 1 (q := (18, darg 0 [(2, a), (2, 0), (2, 60)], [(0, 0)], g)) rfl
    dsimp only at h
    have h := zret zy_236 h rfl rfl
    obtain ⟨e1, e2⟩ := oI h
    have h := hO3
    rw [e1, e2] at h
    clear e1 e2
    clear hO3
    have h := zm zy_314 h 3 (q := (14, dset (dset lf 1 (0, a)) 0 (4, 253), [(0, 1), (4, 253)], g)) rfl
    dsimp only at h
    obtain ⟨gz5, rz6, hk, h⟩ := zcallI zy_314 h rfl rfl zy_161 zk_161
    dsimp only at hk h
    have hO7 := h
    have h := hk
    clear hk
    have h := zm zy_161 h 6 (q := (14, darg 0 [(4, 253), (0, 1)], [(0, 0)], cup g 253 2 1)) rfl
    dsimp only at h
    have h := zret zy_161 h rfl rfl
    obtain ⟨e1, e2⟩ := oI h
    have h := hO7
    rw [e1, e2] at h
    clear e1 e2
    clear hO7
    refine Or.inl (⟨Or.inl (hc4), ?_⟩)
    exact zret zy_314 h rfl rfl
  · have h := zm zy_236 h 4 (q := (cond (crel .gt (csgn (a - 60)) 0) 17 13, darg 0 [(2, a), (2, 0), (2, 60)], [], g)) rfl
    dsimp only at h
    rcases zif_gt h with ⟨hc8, h⟩ | ⟨hc8, h⟩
    · have h := zm zy_236 h 1 (q := (18, darg 0 [(2, a), (2, 0), (2, 60)], [(0, 0)], g)) rfl
      dsimp only at h
      have h := zret zy_236 h rfl rfl
      obtain ⟨e1, e2⟩ := oI h
      have h := hO3
      rw [e1, e2] at h
      clear e1 e2
      clear hO3
      have h := zm zy_314 h 3 (q := (14, dset (dset lf 1 (0, a)) 0 (4, 253), [(0, 1), (4, 253)], g)) rfl
      dsimp only at h
      obtain ⟨gz9, rz10, hk, h⟩ := zcallI zy_314 h rfl rfl zy_161 zk_161
      dsimp only at hk h
      have hO11 := h
      have h := hk
      clear hk
      have h := zm zy_161 h 6 (q := (14, darg 0 [(4, 253), (0, 1)], [(0, 0)], cup g 253 2 1)) rfl
      dsimp only at h
      have h := zret zy_161 h rfl rfl
      obtain ⟨e1, e2⟩ := oI h
      have h := hO11
      rw [e1, e2] at h
      clear e1 e2
      clear hO11
      refine Or.inl (⟨Or.inr (⟨hc4, hc8⟩), ?_⟩)
      exact zret zy_314 h rfl rfl
    · have h := zm zy_236 h 2 (q := (18, darg 0 [(2, a), (2, 0), (2, 60)], [(0, 1)], g)) rfl
      dsimp only at h
      have h := zret zy_236 h rfl rfl
      obtain ⟨e1, e2⟩ := oI h
      have h := hO3
      rw [e1, e2] at h
      clear e1 e2
      clear hO3
      have h := zm zy_314 h 8 (q := (27, dset (dset lf 1 (0, a)) 0 (4, 253), [(0, 0), (4, 253)], cup g 254 5 a)) rfl
      dsimp only at h
      obtain ⟨gz12, rz13, hk, h⟩ := zcallI zy_314 h rfl rfl zy_161 zk_161
      dsimp only at hk h
      have hO14 := h
      have h := hk
      clear hk
      have h := zm zy_161 h 7 (q := (14, darg 0 [(4, 253), (0, 0)], [(0, 1)], cup (cup g 254 5 a) 253 2 0)) rfl
      dsimp only at h
      have h := zret zy_161 h rfl rfl
      obtain ⟨e1, e2⟩ := oI h
      have h := hO14
      rw [e1, e2] at h
      clear e1 e2
      clear hO14
      refine Or.inr (⟨⟨hc4, hc8⟩, ?_⟩)
      exact zret zy_314 h rfl rfl
theorem t_swear {sv : Nat → Int32} {L n : Nat} {lf : dlf} {g : cg} {o : cg × Option cv} {a b c d : Int} (h : zr sv L n 303 0 lf [] g o) (hl0 : lf 0 = (4, 0)) (hl1 : lf 1 = (0, a)) (hl2 : lf 2 = (0, b)) (hl3 : lf 3 = (0, c)) (hl4 : lf 4 = (0, d)) : ∃ g_1 r_1, zr sv L n 89 0 (darg 0 [(4, 0), (0, a), (0, b), (0, c), (0, d)]) [] g (g_1, some (0, r_1)) ∧ (((r_1 ≠ 0) ∧ (∃ g_2 r_2, zr sv L n 94 0 (darg 0 [(4, 92), (0, c), (0, d)]) [] g_1 (g_2, some (0, r_2)) ∧ (((r_2 = 0) ∧ (∃ g_3 r_3, zr sv L n 96 0 (darg 0 [(4, 92), (0, c), (0, d)]) [] g_2 (g_3, some (0, r_3)) ∧ (∃ g_4 r_4, zr sv L n 103 0 (darg 0 [(4, 3), (0, a), (0, b), (0, c), (0, d), (0, r_3)]) [] g_3 (g_4, some (0, r_4)) ∧ (o = (cup g_4 0 0 0, some (0, r_4)))))) ∨ ((r_2 ≠ 0) ∧ (o = (cup g_2 0 0 7, some (0, (-1)))))))) ∨ ((r_1 = 0) ∧ (o = (cup g_1 0 0 1, some (0, (-1)))))) := by
  rw [zov hl0, zov hl1, zov hl2, zov hl3, zov hl4] at h
  have h := zm zy_303 h 5 (q := (6, dset (dset (dset (dset (dset lf 4 (0, d)) 3 (0, c)) 2 (0, b)) 1 (0, a)) 0 (4, 0), [(0, d), (0, c), (0, b), (0, a), (4, 0)], g)) rfl
  dsimp only at h
  obtain ⟨g_1, r_1, hk, h⟩ := zcallI zy_303 h rfl rfl zy_89 zk_89
  dsimp only at hk h
  refine ⟨g_1, r_1, hk, ?_⟩
  have h := zm zy_303 h 1 (q := (cond (crel .ne r_1 0) 18 12, dset (dset (dset (dset (dset lf 4 (0, d)) 3 (0, c)) 2 (0, b)) 1 (0, a)) 0 (4, 0), [], g_1)) rfl
  dsimp only at h
  rcases zif_ne h with ⟨hc1, h⟩ | ⟨hc1, h⟩
  · have h := zm zy_303 h 4 (q := (25, dset (dset (dset (dset (dset lf 4 (0, d)) 3 (0, c)) 2 (0, b)) 1 (0, a)) 0 (4, 0), [(0, d), (0, c), (4, 92)], g_1)) rfl
    dsimp only at h
    obtain ⟨g_2, r_2, hk, h⟩ := zcallI zy_303 h rfl rfl zy_94 zk_94
    dsimp only at hk h
    refine Or.inl (⟨hc1, ?_⟩)
    refine ⟨g_2, r_2, hk, ?_⟩
    have h := zm zy_303 h 1 (q := (cond (crel .eq r_2 0) 38 31, dset (dset (dset (dset (dset lf 4 (0, d)) 3 (0, c)) 2 (0, b)) 1 (0, a)) 0 (4, 0), [], g_2)) rfl
    dsimp only at h
    rcases zif_eq h with ⟨hc2, h⟩ | ⟨hc2, h⟩
    · have h := zm zy_303 h 11 (q := (55, dset (dset (dset (dset (dset lf 4 (0, d)) 3 (0, c)) 2 (0, b)) 1 (0, a)) 0 (4, 0), [(0, d), (0, c), (4, 92), (0, d), (0, c), (0, b), (0, a), (4, 3), (4, 0)], g_2)) rfl
      dsimp only at h
      obtain ⟨g_3, r_3, hk, h⟩ := zcallI zy_303 h rfl rfl zy_96 zk_96
      dsimp only at hk h
      refine Or.inl (⟨hc2, ?_⟩)
      refine ⟨g_3, r_3, hk, ?_⟩
      obtain ⟨g_4, r_4, hk, h⟩ := zcallI zy_303 h rfl rfl zy_103 zk_103
      dsimp only at hk h
      refine ⟨g_4, r_4, hk, ?_⟩
      obtain ⟨gz3, rz4, hk, h⟩ := zcallI zy_303 h rfl rfl zy_64 zk_64
      dsimp only at hk h
      have hO5 := h
      have h := hk
      clear hk
      have h := zm zy_64 h 4 (q := (6, darg 0 [(4, 0), (0, r_4)], [(0, r_4)], cup g_4 0 0 0)) rfl
      dsimp only at h
      have h := zret zy_64 h rfl rfl
      obtain ⟨e1, e2⟩ := oI h
      have h := hO5
      rw [e1, e2] at h
      clear e1 e2
      clear hO5
      exact zret zy_303 h rfl rfl
    · have h := zm zy_303 h 2 (q := (34, dset (dset (dset (dset (dset lf 4 (0, d)) 3 (0, c)) 2 (0, b)) 1 (0, a)) 0 (4, 0), [(0, 7), (4, 0)], g_2)) rfl
      dsimp only at h
      obtain ⟨gz6, rz7, hk, h⟩ := zcallI zy_303 h rfl rfl zy_29 zk_29
      dsimp only at hk h
      have hO8 := h
      have h := hk
      clear hk
      have h := zm zy_29 h 4 (q := (6, darg 0 [(4, 0), (0, 7)], [(0, (-1))], cup g_2 0 0 7)) rfl
      dsimp only at h
      have h := zret zy_29 h rfl rfl
      obtain ⟨e1, e2⟩ := oI h
      have h := hO8
      rw [e1, e2] at h
      clear e1 e2
      clear hO8
      refine Or.inr (⟨hc2, ?_⟩)
      exact zret zy_303 h rfl rfl
  · have h := zm zy_303 h 2 (q := (14, dset (dset (dset (dset (dset lf 4 (0, d)) 3 (0, c)) 2 (0, b)) 1 (0, a)) 0 (4, 0), [(0, 1), (4, 0)], g_1)) rfl
    dsimp only at h
    obtain ⟨gz9, rz10, hk, h⟩ := zcallI zy_303 h rfl rfl zy_29 zk_29
    dsimp only at hk h
    have hO11 := h
    have h := hk
    clear hk
    have h := zm zy_29 h 4 (q := (6, darg 0 [(4, 0), (0, 1)], [(0, (-1))], cup g_1 0 0 1)) rfl
    dsimp only at h
    have h := zret zy_29 h rfl rfl
    obtain ⟨e1, e2⟩ := oI h
    have h := hO11
    rw [e1, e2] at h
    clear e1 e2
    clear hO11
    refine Or.inr (⟨hc1, ?_⟩)
    exact zret zy_303 h rfl rfl
theorem t_isAsked {sv : Nat → Int32} {L n : Nat} {lf : dlf} {g : cg} {o : cg × Option cv} {a b c d : Int} (h : zr sv L n 89 0 lf [] g o) (hl0 : lf 0 = (4, 0)) (hl1 : lf 1 = (0, a)) (hl2 : lf 2 = (0, b)) (hl3 : lf 3 = (0, c)) (hl4 : lf 4 = (0, d)) : (((a < 0) ∨ (0 ≤ a ∧ g 3 3 ≤ a) ∨ (0 ≤ a ∧ a < g 3 3 ∧ b < 0) ∨ (0 ≤ a ∧ a < g 3 3 ∧ 0 ≤ b ∧ g 3 3 ≤ b) ∨ (0 ≤ a ∧ a < g 3 3 ∧ 0 ≤ b ∧ b < g 3 3 ∧ c < 0) ∨ (0 ≤ a ∧ a < g 3 3 ∧ 0 ≤ b ∧ b < g 3 3 ∧ 0 ≤ c ∧ g 3 0 ≤ c) ∨ (0 ≤ a ∧ a < g 3 3 ∧ 0 ≤ b ∧ b < g 3 3 ∧ 0 ≤ c ∧ c < g 3 0 ∧ d < 0) ∨ (0 ≤ a ∧ a < g 3 3 ∧ 0 ≤ b ∧ b < g 3 3 ∧ 0 ≤ c ∧ c < g 3 0 ∧ 0 ≤ d ∧ 8 ≤ d)) ∧ (o = (g, some (0, 0)))) ∨ ((0 ≤ a ∧ a < g 3 3 ∧ 0 ≤ b ∧ b < g 3 3 ∧ 0 ≤ c ∧ c < g 3 0 ∧ 0 ≤ d ∧ d < 8) ∧ (∃ g_1, zr sv L n 91 0 (darg 0 [(4, 92), (0, a), (0, b)]) [] g (g_1, none) ∧ (o = (g_1, some (0, 1))))) := by
  rw [zov hl0, zov hl1, zov hl2, zov hl3, zov hl4] at h
  have h := zm zy_89 h 3 (q := (5, dset (dset (dset (dset (dset lf 4 (0, d)) 3 (0, c)) 2 (0, b)) 1 (0, a)) 0 (4, 0), [(0, a), (4, 3)], g)) rfl
  dsimp only at h
  obtain ⟨gz1, rz2, hk, h⟩ := zcallI zy_89 h rfl rfl zy_81 zk_81
  dsimp only at hk h
  have hO3 := h
  have h := hk
  clear hk
  have h := zm zy_81 h 2 (q := (cond (crel .lt a 0) 16 4, darg 0 [(4, 3), (0, a)], [], g)) rfl
  dsimp only at h
  rcases zif_lt h with ⟨hc4, h⟩ | ⟨hc4, h⟩
  · have h := zm zy_81 h 1 (q := (17, darg 0 [(4, 3), (0, a)], [(0, 0)], g)) rfl
    dsimp only at h
    have h := zret zy_81 h rfl rfl
    obtain ⟨e1, e2⟩ := oI h
    have h := hO3
    rw [e1, e2] at h
    clear e1 e2
    clear hO3
    have h := zm zy_89 h 2 (q := (26, dset (dset (dset (dset (dset lf 4 (0, d)) 3 (0, c)) 2 (0, b)) 1 (0, a)) 0 (4, 0), [(0, 0)], g)) rfl
    dsimp only at h
    refine Or.inl (⟨Or.inl (hc4), ?_⟩)
    exact zret zy_89 h rfl rfl
  · have h := zm zy_81 h 4 (q := (cond (crel .ge a (g 3 3)) 16 12, darg 0 [(4, 3), (0, a)], [], g)) rfl
    dsimp only at h
    rcases zif_ge h with ⟨hc5, h⟩ | ⟨hc5, h⟩
    · have h := zm zy_81 h 1 (q := (17, darg 0 [(4, 3), (0, a)], [(0, 0)], g)) rfl
      dsimp only at h
      have h := zret zy_81 h rfl rfl
      obtain ⟨e1, e2⟩ := oI h
      have h := hO3
      rw [e1, e2] at h
      clear e1 e2
      clear hO3
      have h := zm zy_89 h 2 (q := (26, dset (dset (dset (dset (dset lf 4 (0, d)) 3 (0, c)) 2 (0, b)) 1 (0, a)) 0 (4, 0), [(0, 0)], g)) rfl
      dsimp only at h
      refine Or.inl (⟨Or.inr (Or.inl (⟨hc4, hc5⟩)), ?_⟩)
      exact zret zy_89 h rfl rfl
    · have h := zm zy_81 h 2 (q := (17, darg 0 [(4, 3), (0, a)], [(0, 1)], g)) rfl
      dsimp only at h
      have h := zret zy_81 h rfl rfl
      obtain ⟨e1, e2⟩ := oI h
      have h := hO3
      rw [e1, e2] at h
      clear e1 e2
      clear hO3
      have h := zm zy_89 h 6 (q := (19, dset (dset (dset (dset (dset lf 4 (0, d)) 3 (0, c)) 2 (0, b)) 1 (0, a)) 0 (4, 0), [(0, d), (0, c), (0, b), (4, 3)], g)) rfl
      dsimp only at h
      obtain ⟨gz6, rz7, hk, h⟩ := zcallI zy_89 h rfl rfl zy_90 zk_90
      dsimp only at hk h
      have hO8 := h
      have h := hk
      clear hk
      have h := zm zy_90 h 2 (q := (2, darg 0 [(4, 3), (0, b), (0, c), (0, d)], [(0, b), (4, 3)], g)) rfl
      dsimp only at h
      obtain ⟨gz9, rz10, hk, h⟩ := zcallI zy_90 h rfl rfl zy_81 zk_81
      dsimp only at hk h
      have hO11 := h
      have h := hk
      clear hk
      have h := zm zy_81 h 2 (q := (cond (crel .lt b 0) 16 4, darg 0 [(4, 3), (0, b)], [], g)) rfl
      dsimp only at h
      rcases zif_lt h with ⟨hc12, h⟩ | ⟨hc12, h⟩
      · have h := zm zy_81 h 1 (q := (17, darg 0 [(4, 3), (0, b)], [(0, 0)], g)) rfl
        dsimp only at h
        have h := zret zy_81 h rfl rfl
        obtain ⟨e1, e2⟩ := oI h
        have h := hO11
        rw [e1, e2] at h
        clear e1 e2
        clear hO11
        have h := zm zy_90 h 2 (q := (28, darg 0 [(4, 3), (0, b), (0, c), (0, d)], [(0, 0)], g)) rfl
        dsimp only at h
        have h := zret zy_90 h rfl rfl
        obtain ⟨e1, e2⟩ := oI h
        have h := hO8
        rw [e1, e2] at h
        clear e1 e2
        clear hO8
        have h := zm zy_89 h 2 (q := (26, dset (dset (dset (dset (dset lf 4 (0, d)) 3 (0, c)) 2 (0, b)) 1 (0, a)) 0 (4, 0), [(0, 0)], g)) rfl
        dsimp only at h
        refine Or.inl (⟨Or.inr (Or.inr (Or.inl (⟨hc4, hc5, hc12⟩))), ?_⟩)
        exact zret zy_89 h rfl rfl
      · have h := zm zy_81 h 4 (q := (cond (crel .ge b (g 3 3)) 16 12, darg 0 [(4, 3), (0, b)], [], g)) rfl
        dsimp only at h
        rcases zif_ge h with ⟨hc13, h⟩ | ⟨hc13, h⟩
        · have h := zm zy_81 h 1 (q := (17, darg 0 [(4, 3), (0, b)], [(0, 0)], g)) rfl
          dsimp only at h
          have h := zret zy_81 h rfl rfl
          obtain ⟨e1, e2⟩ := oI h
          have h := hO11
          rw [e1, e2] at h
          clear e1 e2
          clear hO11
          have h := zm zy_90 h 2 (q := (28, darg 0 [(4, 3), (0, b), (0, c), (0, d)], [(0, 0)], g)) rfl
          dsimp only at h
          have h := zret zy_90 h rfl rfl
          obtain ⟨e1, e2⟩ := oI h
          have h := hO8
          rw [e1, e2] at h
          clear e1 e2
          clear hO8
          have h := zm zy_89 h 2 (q := (26, dset (dset (dset (dset (dset lf 4 (0, d)) 3 (0, c)) 2 (0, b)) 1 (0, a)) 0 (4, 0), [(0, 0)], g)) rfl
          dsimp only at h
          refine Or.inl (⟨Or.inr (Or.inr (Or.inr (Or.inl (⟨hc4, hc5, hc12, hc13⟩)))), ?_⟩)
          exact zret zy_89 h rfl rfl
        · have h := zm zy_81 h 2 (q := (17, darg 0 [(4, 3), (0, b)], [(0, 1)], g)) rfl
          dsimp only at h
          have h := zret zy_81 h rfl rfl
          obtain ⟨e1, e2⟩ := oI h
          have h := hO11
          rw [e1, e2] at h
          clear e1 e2
          clear hO11
          have h := zm zy_90 h 3 (q := (10, darg 0 [(4, 3), (0, b), (0, c), (0, d)], [(0, c), (4, 3)], g)) rfl
          dsimp only at h
          obtain ⟨gz14, rz15, hk, h⟩ := zcallI zy_90 h rfl rfl zy_80 zk_80
          dsimp only at hk h
          have hO16 := h
          have h := hk
          clear hk
          have h := zm zy_80 h 2 (q := (cond (crel .lt c 0) 16 4, darg 0 [(4, 3), (0, c)], [], g)) rfl
          dsimp only at h
          rcases zif_lt h with ⟨hc17, h⟩ | ⟨hc17, h⟩
          · have h := zm zy_80 h 1 (q := (17, darg 0 [(4, 3), (0, c)], [(0, 0)], g)) rfl
            dsimp only at h
            have h := zret zy_80 h rfl rfl
            obtain ⟨e1, e2⟩ := oI h
            have h := hO16
            rw [e1, e2] at h
            clear e1 e2
            clear hO16
            have h := zm zy_90 h 2 (q := (28, darg 0 [(4, 3), (0, b), (0, c), (0, d)], [(0, 0)], g)) rfl
            dsimp only at h
            have h := zret zy_90 h rfl rfl
            obtain ⟨e1, e2⟩ := oI h
            have h := hO8
            rw [e1, e2] at h
            clear e1 e2
            clear hO8
            have h := zm zy_89 h 2 (q := (26, dset (dset (dset (dset (dset lf 4 (0, d)) 3 (0, c)) 2 (0, b)) 1 (0, a)) 0 (4, 0), [(0, 0)], g)) rfl
            dsimp only at h
            refine Or.inl (⟨Or.inr (Or.inr (Or.inr (Or.inr (Or.inl (⟨hc4, hc5, hc12, hc13, hc17⟩))))), ?_⟩)
            exact zret zy_89 h rfl rfl
          · have h := zm zy_80 h 4 (q := (cond (crel .ge c (g 3 0)) 16 12, darg 0 [(4, 3), (0, c)], [], g)) rfl
            dsimp only at h
            rcases zif_ge h with ⟨hc18, h⟩ | ⟨hc18, h⟩
            · have h := zm zy_80 h 1 (q := (17, darg 0 [(4, 3), (0, c)], [(0, 0)], g)) rfl
              dsimp only at h
              have h := zret zy_80 h rfl rfl
              obtain ⟨e1, e2⟩ := oI h
              have h := hO16
              rw [e1, e2] at h
              clear e1 e2
              clear hO16
              have h := zm zy_90 h 2 (q := (28, darg 0 [(4, 3), (0, b), (0, c), (0, d)], [(0, 0)], g)) rfl
              dsimp only at h
              have h := zret zy_90 h rfl rfl
              obtain ⟨e1, e2⟩ := oI h
              have h := hO8
              rw [e1, e2] at h
              clear e1 e2
              clear hO8
              have h := zm zy_89 h 2 (q := (26, dset (dset (dset (dset (dset lf 4 (0, d)) 3 (0, c)) 2 (0, b)) 1 (0, a)) 0 (4, 0), [(0, 0)], g)) rfl
              dsimp only at h
              refine Or.inl (⟨Or.inr (Or.inr (Or.inr (Or.inr (Or.inr (Or.inl (⟨hc4, hc5, hc12, hc13, hc17, hc18⟩)))))), ?_⟩)
              exact zret zy_89 h rfl rfl
            · have h := zm zy_80 h 2 (q := (17, darg 0 [(4, 3), (0, c)], [(0, 1)], g)) rfl
              dsimp only at h
              have h := zret zy_80 h rfl rfl
              obtain ⟨e1, e2⟩ := oI h
              have h := hO16
              rw [e1, e2] at h
              clear e1 e2
              clear hO16
              have h := zm zy_90 h 2 (q := (17, darg 0 [(4, 3), (0, b), (0, c), (0, d)], [(0, d)], g)) rfl
              dsimp only at h
              obtain ⟨gz19, rz20, hk, h⟩ := zcallI zy_90 h rfl rfl zy_86 zk_86
              dsimp only at hk h
              have hO21 := h
              have h := hk
              clear hk
              have h := zm zy_86 h 2 (q := (cond (crel .lt d 0) 14 4, darg 0 [(0, d)], [], g)) rfl
              dsimp only at h
              rcases zif_lt h with ⟨hc22, h⟩ | ⟨hc22, h⟩
              · have h := zm zy_86 h 1 (q := (15, darg 0 [(0, d)], [(0, 0)], g)) rfl
                dsimp only at h
                have h := zret zy_86 h rfl rfl
                obtain ⟨e1, e2⟩ := oI h
                have h := hO21
                rw [e1, e2] at h
                clear e1 e2
                clear hO21
                have h := zm zy_90 h 2 (q := (28, darg 0 [(4, 3), (0, b), (0, c), (0, d)], [(0, 0)], g)) rfl
                dsimp only at h
                have h := zret zy_90 h rfl rfl
                obtain ⟨e1, e2⟩ := oI h
                have h := hO8
                rw [e1, e2] at h
                clear e1 e2
                clear hO8
                have h := zm zy_89 h 2 (q := (26, dset (dset (dset (dset (dset lf 4 (0, d)) 3 (0, c)) 2 (0, b)) 1 (0, a)) 0 (4, 0), [(0, 0)], g)) rfl
                dsimp only at h
                refine Or.inl (⟨Or.inr (Or.inr (Or.inr (Or.inr (Or.inr (Or.inr (Or.inl (⟨hc4, hc5, hc12, hc13, hc17, hc18, hc22⟩))))))), ?_⟩)
                exact zret zy_89 h rfl rfl
              · have h := zm zy_86 h 3 (q := (cond (crel .ge d 8) 14 10, darg 0 [(0, d)], [], g)) rfl
                dsimp only at h
                rcases zif_ge h with ⟨hc23, h⟩ | ⟨hc23, h⟩
                · have h := zm zy_86 h 1 (q := (15, darg 0 [(0, d)], [(0, 0)], g)) rfl
                  dsimp only at h
                  have h := zret zy_86 h rfl rfl
                  obtain ⟨e1, e2⟩ := oI h
                  have h := hO21
                  rw [e1, e2] at h
                  clear e1 e2
                  clear hO21
                  have h := zm zy_90 h 2 (q := (28, darg 0 [(4, 3), (0, b), (0, c), (0, d)], [(0, 0)], g)) rfl
                  dsimp only at h
                  have h := zret zy_90 h rfl rfl
                  obtain ⟨e1, e2⟩ := oI h
                  have h := hO8
                  rw [e1, e2] at h
                  clear e1 e2
                  clear hO8
                  have h := zm zy_89 h 2 (q := (26, dset (dset (dset (dset (dset lf 4 (0, d)) 3 (0, c)) 2 (0, b)) 1 (0, a)) 0 (4, 0), [(0, 0)], g)) rfl
                  dsimp only at h
                  refine Or.inl (⟨Or.inr (Or.inr (Or.inr (Or.inr (Or.inr (Or.inr (Or.inr (⟨hc4, hc5, hc12, hc13, hc17, hc18, hc22, hc23⟩))))))), ?_⟩)
                  exact zret zy_89 h rfl rfl
                · have h := zm zy_86 h 2 (q := (15, darg 0 [(0, d)], [(0, 1)], g)) rfl
                  dsimp only at h
                  have h := zret zy_86 h rfl rfl
                  obtain ⟨e1, e2⟩ := oI h
                  have h := hO21
                  rw [e1, e2] at h
                  clear e1 e2
                  clear hO21
                  have h := zm zy_90 h 3 (q := (28, darg 0 [(4, 3), (0, b), (0, c), (0, d)], [(0, 1)], g)) rfl
                  dsimp only at h
                  have h := zret zy_90 h rfl rfl
                  obtain ⟨e1, e2⟩ := oI h
                  have h := hO8
                  rw [e1, e2] at h
                  clear e1 e2
                  clear hO8
                  have h := zm zy_89 h 5 (q := (33, dset (dset (dset (dset (dset lf 4 (0, d)) 3 (0, c)) 2 (0, b)) 1 (0, a)) 0 (4, 0), [(0, b), (0, a), (4, 92)], g)) rfl
                  dsimp only at h
                  obtain ⟨g_1, hk, h⟩ := zcallV zy_89 h rfl rfl zy_91 zk_91
                  dsimp only at hk h
                  refine Or.inr (⟨⟨hc4, hc5, hc12, hc13, hc17, hc18, hc22, hc23⟩, ?_⟩)
                  refine ⟨g_1, hk, ?_⟩
                  have h := zm zy_89 h 1 (q := (37, dset (dset (dset (dset (dset lf 4 (0, d)) 3 (0, c)) 2 (0, b)) 1 (0, a)) 0 (4, 0), [(0, 1)], g_1)) rfl
                  dsimp only at h
                  exact zret zy_89 h rfl rfl
theorem t_find {sv : Nat → Int32} {L n : Nat} {lf : dlf} {g : cg} {o : cg × Option cv} {a b c : Int} (h : zr sv L n 305 0 lf [] g o) (hl0 : lf 0 = (4, 0)) (hl1 : lf 1 = (0, a)) (hl2 : lf 2 = (0, b)) (hl3 : lf 3 = (0, c)) : (((a < 0) ∨ (0 ≤ a ∧ g 3 3 ≤ a) ∨ (0 ≤ a ∧ a < g 3 3 ∧ b < 0) ∨ (0 ≤ a ∧ a < g 3 3 ∧ 0 ≤ b ∧ g 3 0 ≤ b) ∨ (0 ≤ a ∧ a < g 3 3 ∧ 0 ≤ b ∧ b < g 3 0 ∧ c < 0) ∨ (0 ≤ a ∧ a < g 3 3 ∧ 0 ≤ b ∧ b < g 3 0 ∧ 0 ≤ c ∧ 8 ≤ c)) ∧ (o = (cup g 0 0 1, some (0, (-1))))) ∨ ((0 ≤ a ∧ a < g 3 3 ∧ 0 ≤ b ∧ b < g 3 0 ∧ 0 ≤ c ∧ c < 8) ∧ (∃ g_1 r_1, zr sv L n 104 0 (darg 0 [(4, 3), (0, a), (0, b), (0, c)]) [] g (g_1, some (0, r_1)) ∧ (o = (cup g_1 0 0 0, some (0, r_1))))) := by
  rw [zov hl0, zov hl1, zov hl2, zov hl3] at h
  have h := zm zy_305 h 5 (q := (7, dset (dset (dset (dset lf 3 (0, c)) 2 (0, b)) 1 (0, a)) 0 (4, 0), [(0, c), (0, b), (0, a), (4, 3)], g)) rfl
  dsimp only at h
  obtain ⟨gz1, rz2, hk, h⟩ := zcallI zy_305 h rfl rfl zy_90 zk_90
  dsimp only at hk h
  have hO3 := h
  have h := hk
  clear hk
  have h := zm zy_90 h 2 (q := (2, darg 0 [(4, 3), (0, a), (0, b), (0, c)], [(0, a), (4, 3)], g)) rfl
  dsimp only at h
  obtain ⟨gz4, rz5, hk, h⟩ := zcallI zy_90 h rfl rfl zy_81 zk_81
  dsimp only at hk h
  have hO6 := h
  have h := hk
  clear hk
  have h := zm zy_81 h 2 (q := (cond (crel .lt a 0) 16 4, darg 0 [(4, 3), (0, a)], [], g)) rfl
  dsimp only at h
  rcases zif_lt h with ⟨hc7, h⟩ | ⟨hc7, h⟩
  · have h := zm zy_81 h 1 (q := (17, darg 0 [(4, 3), (0, a)], [(0, 0)], g)) rfl
    dsimp only at h
    have h := zret zy_81 h rfl rfl
    obtain ⟨e1, e2⟩ := oI h
    have h := hO6
    rw [e1, e2] at h
    clear e1 e2
    clear hO6
    have h := zm zy_90 h 2 (q := (28, darg 0 [(4, 3), (0, a), (0, b), (0, c)], [(0, 0)], g)) rfl
    dsimp only at h
    have h := zret zy_90 h rfl rfl
    obtain ⟨e1, e2⟩ := oI h
    have h := hO3
    rw [e1, e2] at h
    clear e1 e2
    clear hO3
    have h := zm zy_305 h 3 (q := (15, dset (dset (dset (dset lf 3 (0, c)) 2 (0, b)) 1 (0, a)) 0 (4, 0), [(0, 1), (4, 0)], g)) rfl
    dsimp only at h
    obtain ⟨gz8, rz9, hk, h⟩ := zcallI zy_305 h rfl rfl zy_29 zk_29
    dsimp only at hk h
    have hO10 := h
    have h := hk
    clear hk
    have h := zm zy_29 h 4 (q := (6, darg 0 [(4, 0), (0, 1)], [(0, (-1))], cup g 0 0 1)) rfl
    dsimp only at h
    have h := zret zy_29 h rfl rfl
    obtain ⟨e1, e2⟩ := oI h
    have h := hO10
    rw [e1, e2] at h
    clear e1 e2
    clear hO10
    refine Or.inl (⟨Or.inl (hc7), ?_⟩)
    exact zret zy_305 h rfl rfl
  · have h := zm zy_81 h 4 (q := (cond (crel .ge a (g 3 3)) 16 12, darg 0 [(4, 3), (0, a)], [], g)) rfl
    dsimp only at h
    rcases zif_ge h with ⟨hc11, h⟩ | ⟨hc11, h⟩
    · have h := zm zy_81 h 1 (q := (17, darg 0 [(4, 3), (0, a)], [(0, 0)], g)) rfl
      dsimp only at h
      have h := zret zy_81 h rfl rfl
      obtain ⟨e1, e2⟩ := oI h
      have h := hO6
      rw [e1, e2] at h
      clear e1 e2
      clear hO6
      have h := zm zy_90 h 2 (q := (28, darg 0 [(4, 3), (0, a), (0, b), (0, c)], [(0, 0)], g)) rfl
      dsimp only at h
      have h := zret zy_90 h rfl rfl
      obtain ⟨e1, e2⟩ := oI h
      have h := hO3
      rw [e1, e2] at h
      clear e1 e2
      clear hO3
      have h := zm zy_305 h 3 (q := (15, dset (dset (dset (dset lf 3 (0, c)) 2 (0, b)) 1 (0, a)) 0 (4, 0), [(0, 1), (4, 0)], g)) rfl
      dsimp only at h
      obtain ⟨gz12, rz13, hk, h⟩ := zcallI zy_305 h rfl rfl zy_29 zk_29
      dsimp only at hk h
      have hO14 := h
      have h := hk
      clear hk
      have h := zm zy_29 h 4 (q := (6, darg 0 [(4, 0), (0, 1)], [(0, (-1))], cup g 0 0 1)) rfl
      dsimp only at h
      have h := zret zy_29 h rfl rfl
      obtain ⟨e1, e2⟩ := oI h
      have h := hO14
      rw [e1, e2] at h
      clear e1 e2
      clear hO14
      refine Or.inl (⟨Or.inr (Or.inl (⟨hc7, hc11⟩)), ?_⟩)
      exact zret zy_305 h rfl rfl
    · have h := zm zy_81 h 2 (q := (17, darg 0 [(4, 3), (0, a)], [(0, 1)], g)) rfl
      dsimp only at h
      have h := zret zy_81 h rfl rfl
      obtain ⟨e1, e2⟩ := oI h
      have h := hO6
      rw [e1, e2] at h
      clear e1 e2
      clear hO6
      have h := zm zy_90 h 3 (q := (10, darg 0 [(4, 3), (0, a), (0, b), (0, c)], [(0, b), (4, 3)], g)) rfl
      dsimp only at h
      obtain ⟨gz15, rz16, hk, h⟩ := zcallI zy_90 h rfl rfl zy_80 zk_80
      dsimp only at hk h
      have hO17 := h
      have h := hk
      clear hk
      have h := zm zy_80 h 2 (q := (cond (crel .lt b 0) 16 4, darg 0 [(4, 3), (0, b)], [], g)) rfl
      dsimp only at h
      rcases zif_lt h with ⟨hc18, h⟩ | ⟨hc18, h⟩
      · have h := zm zy_80 h 1 (q := (17, darg 0 [(4, 3), (0, b)], [(0, 0)], g)) rfl
        dsimp only at h
        have h := zret zy_80 h rfl rfl
        obtain ⟨e1, e2⟩ := oI h
        have h := hO17
        rw [e1, e2] at h
        clear e1 e2
        clear hO17
        have h := zm zy_90 h 2 (q := (28, darg 0 [(4, 3), (0, a), (0, b), (0, c)], [(0, 0)], g)) rfl
        dsimp only at h
        have h := zret zy_90 h rfl rfl
        obtain ⟨e1, e2⟩ := oI h
        have h := hO3
        rw [e1, e2] at h
        clear e1 e2
        clear hO3
        have h := zm zy_305 h 3 (q := (15, dset (dset (dset (dset lf 3 (0, c)) 2 (0, b)) 1 (0, a)) 0 (4, 0), [(0, 1), (4, 0)], g)) rfl
        dsimp only at h
        obtain ⟨gz19, rz20, hk, h⟩ := zcallI zy_305 h rfl rfl zy_29 zk_29
        dsimp only at hk h
        have hO21 := h
        have h := hk
        clear hk
        have h := zm zy_29 h 4 (q := (6, darg 0 [(4, 0), (0, 1)], [(0, (-1))], cup g 0 0 1)) rfl
        dsimp only at h
        have h := zret zy_29 h rfl rfl
        obtain ⟨e1, e2⟩ := oI h
        have h := hO21
        rw [e1, e2] at h
        clear e1 e2
        clear hO21
        refine Or.inl (⟨Or.inr (Or.inr (Or.inl (⟨hc7, hc11, hc18⟩))), ?_⟩)
        exact zret zy_305 h rfl rfl
      · have h := zm zy_80 h 4 (q := (cond (crel .ge b (g 3 0)) 16 12, darg 0 [(4, 3), (0, b)], [], g)) rfl
        dsimp only at h
        rcases zif_ge h with ⟨hc22, h⟩ | ⟨hc22, h⟩
        · have h := zm zy_80 h 1 (q := (17, darg 0 [(4, 3), (0, b)], [(0, 0)], g)) rfl
          dsimp only at h
          have h := zret zy_80 h rfl rfl
          obtain ⟨e1, e2⟩ := oI h
          have h := hO17
          rw [e1, e2] at h
          clear e1 e2
          clear hO17
          have h := zm zy_90 h 2 (q := (28, darg 0 [(4, 3), (0, a), (0, b), (0, c)], [(0, 0)], g)) rfl
          dsimp only at h
          have h := zret zy_90 h rfl rfl
          obtain ⟨e1, e2⟩ := oI h
          have h := hO3
          rw [e1, e2] at h
          clear e1 e2
          clear hO3
          have h := zm zy_305 h 3 (q := (15, dset (dset (dset (dset lf 3 (0, c)) 2 (0, b)) 1 (0, a)) 0 (4, 0), [(0, 1), (4, 0)], g)) rfl
          dsimp only at h
          obtain ⟨gz23, rz24, hk, h⟩ := zcallI zy_305 h rfl rfl zy_29 zk_29
          dsimp only at hk h
          have hO25 := h
          have h := hk
          clear hk
          have h := zm zy_29 h 4 (q := (6, darg 0 [(4, 0), (0, 1)], [(0, (-1))], cup g 0 0 1)) rfl
          dsimp only at h
          have h := zret zy_29 h rfl rfl
          obtain ⟨e1, e2⟩ := oI h
          have h := hO25
          rw [e1, e2] at h
          clear e1 e2
          clear hO25
          refine Or.inl (⟨Or.inr (Or.inr (Or.inr (Or.inl (⟨hc7, hc11, hc18, hc22⟩)))), ?_⟩)
          exact zret zy_305 h rfl rfl
        · have h := zm zy_80 h 2 (q := (17, darg 0 [(4, 3), (0, b)], [(0, 1)], g)) rfl
          dsimp only at h
          have h := zret zy_80 h rfl rfl
          obtain ⟨e1, e2⟩ := oI h
          have h := hO17
          rw [e1, e2] at h
          clear e1 e2
          clear hO17
          have h := zm zy_90 h 2 (q := (17, darg 0 [(4, 3), (0, a), (0, b), (0, c)], [(0, c)], g)) rfl
          dsimp only at h
          obtain ⟨gz26, rz27, hk, h⟩ := zcallI zy_90 h rfl rfl zy_86 zk_86
          dsimp only at hk h
          have hO28 := h
          have h := hk
          clear hk
          have h := zm zy_86 h 2 (q := (cond (crel .lt c 0) 14 4, darg 0 [(0, c)], [], g)) rfl
          dsimp only at h
          rcases zif_lt h with ⟨hc29, h⟩ | ⟨hc29, h⟩
          · have h := zm zy_86 h 1 (q := (15, darg 0 [(0, c)], [(0, 0)], g)) rfl
            dsimp only at h
            have h := zret zy_86 h rfl rfl
            obtain ⟨e1, e2⟩ := oI h
            have h := hO28
            rw [e1, e2] at h
            clear e1 e2
            clear hO28
            have h := zm zy_90 h 2 (q := (28, darg 0 [(4, 3), (0, a), (0, b), (0, c)], [(0, 0)], g)) rfl
            dsimp only at h
            have h := zret zy_90 h rfl rfl
            obtain ⟨e1, e2⟩ := oI h
            have h := hO3
            rw [e1, e2] at h
            clear e1 e2
            clear hO3
            have h := zm zy_305 h 3 (q := (15, dset (dset (dset (dset lf 3 (0, c)) 2 (0, b)) 1 (0, a)) 0 (4, 0), [(0, 1), (4, 0)], g)) rfl
            dsimp only at h
            obtain ⟨gz30, rz31, hk, h⟩ := zcallI zy_305 h rfl rfl zy_29 zk_29
            dsimp only at hk h
            have hO32 := h
            have h := hk
            clear hk
            have h := zm zy_29 h 4 (q := (6, darg 0 [(4, 0), (0, 1)], [(0, (-1))], cup g 0 0 1)) rfl
            dsimp only at h
            have h := zret zy_29 h rfl rfl
            obtain ⟨e1, e2⟩ := oI h
            have h := hO32
            rw [e1, e2] at h
            clear e1 e2
            clear hO32
            refine Or.inl (⟨Or.inr (Or.inr (Or.inr (Or.inr (Or.inl (⟨hc7, hc11, hc18, hc22, hc29⟩))))), ?_⟩)
            exact zret zy_305 h rfl rfl
          · have h := zm zy_86 h 3 (q := (cond (crel .ge c 8) 14 10, darg 0 [(0, c)], [], g)) rfl
            dsimp only at h
            rcases zif_ge h with ⟨hc33, h⟩ | ⟨hc33, h⟩
            · have h := zm zy_86 h 1 (q := (15, darg 0 [(0, c)], [(0, 0)], g)) rfl
              dsimp only at h
              have h := zret zy_86 h rfl rfl
              obtain ⟨e1, e2⟩ := oI h
              have h := hO28
              rw [e1, e2] at h
              clear e1 e2
              clear hO28
              have h := zm zy_90 h 2 (q := (28, darg 0 [(4, 3), (0, a), (0, b), (0, c)], [(0, 0)], g)) rfl
              dsimp only at h
              have h := zret zy_90 h rfl rfl
              obtain ⟨e1, e2⟩ := oI h
              have h := hO3
              rw [e1, e2] at h
              clear e1 e2
              clear hO3
              have h := zm zy_305 h 3 (q := (15, dset (dset (dset (dset lf 3 (0, c)) 2 (0, b)) 1 (0, a)) 0 (4, 0), [(0, 1), (4, 0)], g)) rfl
              dsimp only at h
              obtain ⟨gz34, rz35, hk, h⟩ := zcallI zy_305 h rfl rfl zy_29 zk_29
              dsimp only at hk h
              have hO36 := h
              have h := hk
              clear hk
              have h := zm zy_29 h 4 (q := (6, darg 0 [(4, 0), (0, 1)], [(0, (-1))], cup g 0 0 1)) rfl
              dsimp only at h
              have h := zret zy_29 h rfl rfl
              obtain ⟨e1, e2⟩ := oI h
              have h := hO36
              rw [e1, e2] at h
              clear e1 e2
              clear hO36
              refine Or.inl (⟨Or.inr (Or.inr (Or.inr (Or.inr (Or.inr (⟨hc7, hc11, hc18, hc22, hc29, hc33⟩))))), ?_⟩)
              exact zret zy_305 h rfl rfl
            · have h := zm zy_86 h 2 (q := (15, darg 0 [(0, c)], [(0, 1)], g)) rfl
              dsimp only at h
              have h := zret zy_86 h rfl rfl
              obtain ⟨e1, e2⟩ := oI h
              have h := hO28
              rw [e1, e2] at h
              clear e1 e2
              clear hO28
              have h := zm zy_90 h 3 (q := (28, darg 0 [(4, 3), (0, a), (0, b), (0, c)], [(0, 1)], g)) rfl
              dsimp only at h
              have h := zret zy_90 h rfl rfl
              obtain ⟨e1, e2⟩ := oI h
              have h := hO3
              rw [e1, e2] at h
              clear e1 e2
              clear hO3
              have h := zm zy_305 h 7 (q := (27, dset (dset (dset (dset lf 3 (0, c)) 2 (0, b)) 1 (0, a)) 0 (4, 0), [(0, c), (0, b), (0, a), (4, 3), (4, 0)], g)) rfl
              dsimp only at h
              obtain ⟨g_1, r_1, hk, h⟩ := zcallI zy_305 h rfl rfl zy_104 zk_104
              dsimp only at hk h
              refine Or.inr (⟨⟨hc7, hc11, hc18, hc22, hc29, hc33⟩, ?_⟩)
              refine ⟨g_1, r_1, hk, ?_⟩
              obtain ⟨gz37, rz38, hk, h⟩ := zcallI zy_305 h rfl rfl zy_64 zk_64
              dsimp only at hk h
              have hO39 := h
              have h := hk
              clear hk
              have h := zm zy_64 h 4 (q := (6, darg 0 [(4, 0), (0, r_1)], [(0, r_1)], cup g_1 0 0 0)) rfl
              dsimp only at h
              have h := zret zy_64 h rfl rfl
              obtain ⟨e1, e2⟩ := oI h
              have h := hO39
              rw [e1, e2] at h
              clear e1 e2
              clear hO39
              exact zret zy_305 h rfl rfl
theorem t_ride {sv : Nat → Int32} {L n : Nat} {lf : dlf} {g : cg} {o : cg × Option cv} {a : Int} (h : zr sv L n 313 0 lf [] g o) (hl0 : lf 0 = (4, 0)) (hl1 : lf 1 = (0, a)) : (((a < 0) ∨ (0 ≤ a ∧ 60 < a)) ∧ (o = (cup g 0 0 1, some (0, 0)))) ∨ ((0 ≤ a ∧ a ≤ 60) ∧ (o = (cup (cup g 3 7 a) 0 0 0, some (0, 1)))) := by
  rw [zov hl0, zov hl1] at h
  have h := zm zy_313 h 3 (q := (4, dset (dset lf 1 (0, a)) 0 (4, 0), [(0, 60), (0, 0), (0, a)], g)) rfl
  dsimp only at h
  obtain ⟨gz1, rz2, hk, h⟩ := zcallI zy_313 h rfl rfl zy_23 zk_23
  dsimp only at hk h
  have hO3 := h
  have h := hk
  clear hk
  have h := zm zy_23 h 3 (q := (cond (crel .lt a 0) 14 5, darg 0 [(0, a), (0, 0), (0, 60)], [], g)) rfl
  dsimp only at h
  rcases zif_lt h with ⟨hc4, h⟩ | ⟨hc4, h⟩
  · have h := zm zy_23 h 1 (q := (15, darg 0 [(0, a), (0, 0), (0, 60)], [(0, 0)], g)) rfl
    dsimp only at h
    have h := zret zy_23 h rfl rfl
    obtain ⟨e1, e2⟩ := oI h
    have h := hO3
    rw [e1, e2] at h
    clear e1 e2
    clear hO3
    have h := zm zy_313 h 3 (q := (12, dset (dset lf 1 (0, a)) 0 (4, 0), [(0, 1), (4, 0)], g)) rfl
    dsimp only at h
    obtain ⟨gz5, rz6, hk, h⟩ := zcallI zy_313 h rfl rfl zy_26 zk_26
    dsimp only at hk h
    have hO7 := h
    have h := hk
    clear hk
    have h := zm zy_26 h 4 (q := (6, darg 0 [(4, 0), (0, 1)], [(0, 0)], cup g 0 0 1)) rfl
    dsimp only at h
    have h := zret zy_26 h rfl rfl
    obtain ⟨e1, e2⟩ := oI h
    have h := hO7
    rw [e1, e2] at h
    clear e1 e2
    clear hO7
    refine Or.inl (⟨Or.inl (hc4), ?_⟩)
    exact zret zy_313 h rfl rfl
  · have h := zm zy_23 h 3 (q := (cond (crel .gt a 60) 14 10, darg 0 [(0, a), (0, 0), (0, 60)], [], g)) rfl
    dsimp only at h
    rcases zif_gt h with ⟨hc8, h⟩ | ⟨hc8, h⟩
    · have h := zm zy_23 h 1 (q := (15, darg 0 [(0, a), (0, 0), (0, 60)], [(0, 0)], g)) rfl
      dsimp only at h
      have h := zret zy_23 h rfl rfl
      obtain ⟨e1, e2⟩ := oI h
      have h := hO3
      rw [e1, e2] at h
      clear e1 e2
      clear hO3
      have h := zm zy_313 h 3 (q := (12, dset (dset lf 1 (0, a)) 0 (4, 0), [(0, 1), (4, 0)], g)) rfl
      dsimp only at h
      obtain ⟨gz9, rz10, hk, h⟩ := zcallI zy_313 h rfl rfl zy_26 zk_26
      dsimp only at hk h
      have hO11 := h
      have h := hk
      clear hk
      have h := zm zy_26 h 4 (q := (6, darg 0 [(4, 0), (0, 1)], [(0, 0)], cup g 0 0 1)) rfl
      dsimp only at h
      have h := zret zy_26 h rfl rfl
      obtain ⟨e1, e2⟩ := oI h
      have h := hO11
      rw [e1, e2] at h
      clear e1 e2
      clear hO11
      refine Or.inl (⟨Or.inr (⟨hc4, hc8⟩), ?_⟩)
      exact zret zy_313 h rfl rfl
    · have h := zm zy_23 h 2 (q := (15, darg 0 [(0, a), (0, 0), (0, 60)], [(0, 1)], g)) rfl
      dsimp only at h
      have h := zret zy_23 h rfl rfl
      obtain ⟨e1, e2⟩ := oI h
      have h := hO3
      rw [e1, e2] at h
      clear e1 e2
      clear hO3
      have h := zm zy_313 h 6 (q := (25, dset (dset lf 1 (0, a)) 0 (4, 0), [(4, 0)], cup g 3 7 a)) rfl
      dsimp only at h
      obtain ⟨gz12, rz13, hk, h⟩ := zcallI zy_313 h rfl rfl zy_25 zk_25
      dsimp only at hk h
      have hO14 := h
      have h := hk
      clear hk
      have h := zm zy_25 h 4 (q := (6, darg 0 [(4, 0)], [(0, 1)], cup (cup g 3 7 a) 0 0 0)) rfl
      dsimp only at h
      have h := zret zy_25 h rfl rfl
      obtain ⟨e1, e2⟩ := oI h
      have h := hO14
      rw [e1, e2] at h
      clear e1 e2
      clear hO14
      refine Or.inr (⟨⟨hc4, hc8⟩, ?_⟩)
      exact zret zy_313 h rfl rfl
theorem t_inst0 {sv : Nat → Int32} {L n : Nat} {lf : dlf} {g : cg} {o : cg × Option cv} {a : Int} (h : zr sv L n 76 0 lf [] g o) (hl0 : lf 0 = (4, 3)) (hl1 : lf 1 = (0, a)) : ∃ lf', lf' 0 = (4, 3) ∧ lf' 1 = (0, a) ∧ lf' 2 = (0, 0) ∧ lf' 3 = (0, 0) ∧ zr sv L n 76 4 lf' [] g o := by
  rw [zov hl0, zov hl1] at h
  have h := zm zy_76 h 4 (q := (4, dset (dset (dset (dset lf 1 (0, a)) 0 (4, 3)) 2 (0, 0)) 3 (0, 0), [], g)) rfl
  dsimp only at h
  exact ⟨_, rfl, rfl, rfl, rfl, h⟩
theorem t_inst_s {sv : Nat → Int32} {L n : Nat} {lf : dlf} {g : cg} {o : cg × Option cv} {w p q t k N c : Nat} {f s b a : Int} (rw : w ≤ 5) (rp : p ≤ 5) (rq : q ≤ 4) (rt : t ≤ 7) (rk : k ≤ 15) (rN : N ≤ 16) (rc : c ≤ 15) (hN : g 3 9 = (N : Int)) (hO : OHC g k w p q t f s b) (hlt : k < N) (h : zr sv L (n + 1) 76 4 lf [] g o) (hl0 : lf 0 = (4, 3)) (hl1 : lf 1 = (0, a)) (hl2 : lf 2 = (0, (c : Int))) (hl3 : lf 3 = (0, (k : Int))) : ((s ≠ a) ∧ (∃ lf', lf' 0 = (4, 3) ∧ lf' 1 = (0, a) ∧ lf' 2 = (0, (c : Int)) ∧ lf' 3 = (0, 1 + (k : Int)) ∧ zr sv L n 76 4 lf' [] g o)) ∨ ((s = a) ∧ (∃ lf', lf' 0 = (4, 3) ∧ lf' 1 = (0, a) ∧ lf' 2 = (0, 1 + (c : Int)) ∧ lf' 3 = (0, 1 + (k : Int)) ∧ zr sv L n 76 4 lf' [] g o)) := by
  rw [zov hl0, zov hl1, zov hl2, zov hl3] at h
  have h := zm1 zy_76 h 3 (q := (cond (crel .ge ((k : Int)) (g 3 9)) 34 12, dset (dset (dset (dset lf 3 (0, (k : Int))) 2 (0, (c : Int))) 1 (0, a)) 0 (4, 3), [], g)) rfl
  dsimp only at h
  try rw [hN] at h
  rcases zif_ge h with ⟨hc1, h⟩ | ⟨hc1, h⟩
  · exact absurd hc1 (by omega)
  · have h := zm zy_76 h 3 (q := (17, dset (dset (dset (dset lf 3 (0, (k : Int))) 2 (0, (c : Int))) 1 (0, a)) 0 (4, 3), [(0, (k : Int)), (4, 7)], g)) rfl
    dsimp only at h
    have h := zald zy_76 h rfl rfl (dvp_7 (i := (k : Int)) (by omega) (by omega))
    dsimp only at h
    have h := zgf zy_76 h rfl rfl (dvf_29_5 (i := (k : Int)) (by omega) (by omega))
    dsimp only at h
    try rw [show (29 + ((k : Int))).toNat = 29 + k from by omega] at h
    try rw [hO.2.2.2.2.2.1] at h
    have h := zm zy_76 h 2 (q := (cond (crel .ne s a) 28 25, dset (dset (dset (dset lf 3 (0, (k : Int))) 2 (0, (c : Int))) 1 (0, a)) 0 (4, 3), [], g)) rfl
    dsimp only at h
    rcases zif_ne h with ⟨hc2, h⟩ | ⟨hc2, h⟩
    · have h := zm zy_76 h 2 (q := (4, dset (dset (dset (dset (dset lf 3 (0, (k : Int))) 2 (0, (c : Int))) 1 (0, a)) 0 (4, 3)) 3 (0, w32 (((k : Int)) + 1)), [], g)) rfl
      dsimp only at h
      try rw [w32_eq (z := ((k : Int)) + 1) (v := 1 + (k : Int)) (by omega) (by omega) (by omega)] at h
      refine Or.inl (⟨hc2, ?_⟩)
      exact ⟨_, rfl, rfl, rfl, rfl, h⟩
    · have h := zm zy_76 h 3 (q := (4, dset (dset (dset (dset (dset (dset lf 3 (0, (k : Int))) 2 (0, (c : Int))) 1 (0, a)) 0 (4, 3)) 2 (0, w32 (((c : Int)) + 1))) 3 (0, w32 (((k : Int)) + 1)), [], g)) rfl
      dsimp only at h
      try rw [w32_eq (z := ((c : Int)) + 1) (v := 1 + (c : Int)) (by omega) (by omega) (by omega)] at h
      try rw [w32_eq (z := ((k : Int)) + 1) (v := 1 + (k : Int)) (by omega) (by omega) (by omega)] at h
      refine Or.inr (⟨hc2, ?_⟩)
      exact ⟨_, rfl, rfl, rfl, rfl, h⟩
theorem t_inst_e {sv : Nat → Int32} {L n : Nat} {lf : dlf} {g : cg} {o : cg × Option cv} {k N c : Nat} {a : Int} (rk : k ≤ 16) (rN : N ≤ 16) (rc : c ≤ 16) (hN : g 3 9 = (N : Int)) (hge : N ≤ k) (h : zr sv L (n + 1) 76 4 lf [] g o) (hl0 : lf 0 = (4, 3)) (hl1 : lf 1 = (0, a)) (hl2 : lf 2 = (0, (c : Int))) (hl3 : lf 3 = (0, (k : Int))) : o = (g, some (0, (c : Int))) := by
  rw [zov hl0, zov hl1, zov hl2, zov hl3] at h
  have h := zm1 zy_76 h 3 (q := (cond (crel .ge ((k : Int)) (g 3 9)) 34 12, dset (dset (dset (dset lf 3 (0, (k : Int))) 2 (0, (c : Int))) 1 (0, a)) 0 (4, 3), [], g)) rfl
  dsimp only at h
  try rw [hN] at h
  rcases zif_ge h with ⟨hc1, h⟩ | ⟨hc1, h⟩
  · have h := zm zy_76 h 1 (q := (35, dset (dset (dset (dset lf 3 (0, (k : Int))) 2 (0, (c : Int))) 1 (0, a)) 0 (4, 3), [(0, (c : Int))], g)) rfl
    dsimp only at h
    exact zret zy_76 h rfl rfl
  · exact absurd hc1 (by omega)
theorem t_rev0 {sv : Nat → Int32} {L n : Nat} {lf : dlf} {g : cg} {o : cg × Option cv} {P Q T : Nat} {v : Int} (rP : P ≤ 5) (rQ : Q ≤ 4) (rT : T ≤ 7) (hv : g (18 + 2 * P) T = v) (h : zr sv L n 104 0 lf [] g o) (hl0 : lf 0 = (4, 3)) (hl1 : lf 1 = (0, (P : Int))) (hl2 : lf 2 = (0, (Q : Int))) (hl3 : lf 3 = (0, (T : Int))) : ((v ≠ (Q : Int)) ∧ (∃ lf', lf' 0 = (4, 3) ∧ lf' 1 = (0, (P : Int)) ∧ lf' 2 = (0, (Q : Int)) ∧ lf' 3 = (0, (T : Int)) ∧ lf' 4 = (0, 1) ∧ lf' 5 = (0, 0) ∧ lf' 6 = (0, 0) ∧ zr sv L n 104 23 lf' [] g o)) ∨ ((v = (Q : Int)) ∧ (∃ lf', lf' 0 = (4, 3) ∧ lf' 1 = (0, (P : Int)) ∧ lf' 2 = (0, (Q : Int)) ∧ lf' 3 = (0, (T : Int)) ∧ lf' 4 = (0, 0) ∧ lf' 5 = (0, 0) ∧ lf' 6 = (0, 0) ∧ zr sv L n 104 23 lf' [] g o)) := by
  rw [zov hl0, zov hl1, zov hl2, zov hl3] at h
  have h := zm zy_104 h 4 (q := (4, dset (dset (dset (dset lf 3 (0, (T : Int))) 2 (0, (Q : Int))) 1 (0, (P : Int))) 0 (4, 3), [(0, (T : Int)), (0, (Q : Int)), (0, (P : Int)), (4, 3)], g)) rfl
  dsimp only at h
  obtain ⟨gz1, rz2, hk, h⟩ := zcallI zy_104 h rfl rfl zy_95 zk_95
  dsimp only at hk h
  have hO3 := h
  have h := hk
  clear hk
  have h := zm zy_95 h 3 (q := (5, darg 0 [(4, 3), (0, (P : Int)), (0, (Q : Int)), (0, (T : Int))], [(0, (P : Int)), (4, 6)], g)) rfl
  dsimp only at h
  have h := zald zy_95 h rfl rfl (dvp_6 (i := (P : Int)) (by omega) (by omega))
  dsimp only at h
  have h := zgf zy_95 h rfl rfl (dvf_17_6 (i := (P : Int)) (by omega) (by omega))
  have h := zm zy_95 h 1 (q := (10, darg 0 [(4, 3), (0, (P : Int)), (0, (Q : Int)), (0, (T : Int))], [(0, (T : Int)), (4, 18 + 2 * ((P : Int)))], g)) rfl
  dsimp only at h
  have h := zald zy_95 h rfl rfl (dvr_18 (i := (P : Int)) (j := (T : Int)) (by omega) (by omega) (by omega) (by omega))
  dsimp only at h
  try rw [show (18 + 2 * ((P : Int))).toNat = 18 + 2 * P from by omega] at h
  try rw [show ((T : Int)).toNat = T from by omega] at h
  try rw [hv] at h
  have h := zm zy_95 h 2 (q := (cond (crel .ne v ((Q : Int))) 19 15, darg 0 [(4, 3), (0, (P : Int)), (0, (Q : Int)), (0, (T : Int))], [], g)) rfl
  dsimp only at h
  rcases zif_ne h with ⟨hc4, h⟩ | ⟨hc4, h⟩
  · have h := zm zy_95 h 1 (q := (20, darg 0 [(4, 3), (0, (P : Int)), (0, (Q : Int)), (0, (T : Int))], [(0, 0)], g)) rfl
    dsimp only at h
    have h := zret zy_95 h rfl rfl
    obtain ⟨e1, e2⟩ := oI h
    have h := hO3
    rw [e1, e2] at h
    clear e1 e2
    clear hO3
    have h := zm zy_104 h 8 (q := (23, dset (dset (dset (dset (dset (dset (dset lf 3 (0, (T : Int))) 2 (0, (Q : Int))) 1 (0, (P : Int))) 0 (4, 3)) 4 (0, 1)) 5 (0, 0)) 6 (0, 0), [], g)) rfl
    dsimp only at h
    refine Or.inl (⟨hc4, ?_⟩)
    exact ⟨_, rfl, rfl, rfl, rfl, rfl, rfl, rfl, h⟩
  · have h := zm zy_95 h 2 (q := (20, darg 0 [(4, 3), (0, (P : Int)), (0, (Q : Int)), (0, (T : Int))], [(0, 1)], g)) rfl
    dsimp only at h
    have h := zret zy_95 h rfl rfl
    obtain ⟨e1, e2⟩ := oI h
    have h := hO3
    rw [e1, e2] at h
    clear e1 e2
    clear hO3
    have h := zm zy_104 h 7 (q := (23, dset (dset (dset (dset (dset (dset (dset lf 3 (0, (T : Int))) 2 (0, (Q : Int))) 1 (0, (P : Int))) 0 (4, 3)) 4 (0, 0)) 5 (0, 0)) 6 (0, 0), [], g)) rfl
    dsimp only at h
    refine Or.inr (⟨hc4, ?_⟩)
    exact ⟨_, rfl, rfl, rfl, rfl, rfl, rfl, rfl, h⟩
theorem t_rev_s {sv : Nat → Int32} {L n : Nat} {lf : dlf} {g : cg} {o : cg × Option cv} {P Q T w p q t k N c : Nat} {f s b u pu : Int} (rP : P ≤ 5) (rQ : Q ≤ 4) (rT : T ≤ 7) (rw : w ≤ 5) (rp : p ≤ 5) (rq : q ≤ 4) (rt : t ≤ 7) (rk : k ≤ 15) (rN : N ≤ 16) (rc : c ≤ 16) (hN : g 3 9 = (N : Int)) (hO : OHC g k w p q t f s b) (hpu : g (17 + 2 * w) 1 = pu) (hlt : k < N) (h : zr sv L (n + 1) 104 23 lf [] g o) (hl0 : lf 0 = (4, 3)) (hl1 : lf 1 = (0, (P : Int))) (hl2 : lf 2 = (0, (Q : Int))) (hl3 : lf 3 = (0, (T : Int))) (hl4 : lf 4 = (0, u)) (hl5 : lf 5 = (0, (c : Int))) (hl6 : lf 6 = (0, (k : Int))) : (((s ≠ 0) ∨ (s = 0 ∧ (p : Int) ≠ (P : Int)) ∨ (s = 0 ∧ (p : Int) = (P : Int) ∧ (t : Int) ≠ (T : Int)) ∨ (s = 0 ∧ (p : Int) = (P : Int) ∧ (t : Int) = (T : Int) ∧ (q : Int) = (Q : Int) ∧ u = 0)) ∧ (∃ lf', lf' 0 = (4, 3) ∧ lf' 1 = (0, (P : Int)) ∧ lf' 2 = (0, (Q : Int)) ∧ lf' 3 = (0, (T : Int)) ∧ lf' 4 = (0, u) ∧ lf' 5 = (0, (c : Int)) ∧ lf' 6 = (0, 1 + (k : Int)) ∧ zr sv L n 104 23 lf' [] g o)) ∨ ((s = 0 ∧ (p : Int) = (P : Int) ∧ (t : Int) = (T : Int) ∧ (q : Int) = (Q : Int) ∧ u ≠ 0) ∧ (∃ lf', lf' 0 = (4, 3) ∧ lf' 1 = (0, (P : Int)) ∧ lf' 2 = (0, (Q : Int)) ∧ lf' 3 = (0, (T : Int)) ∧ lf' 4 = (0, u) ∧ lf' 5 = (0, 1 + (c : Int)) ∧ lf' 6 = (0, 1 + (k : Int)) ∧ zr sv L n 104 23 lf' [] (cup (cup (cup g (29 + k) 6 1) (17 + 2 * w) 1 (w32 (pu + f))) 3 8 (w32 ((g 3 8) - f))) o)) ∨ ((s = 0 ∧ (p : Int) = (P : Int) ∧ (t : Int) = (T : Int) ∧ (q : Int) ≠ (Q : Int)) ∧ (∃ lf', lf' 0 = (4, 3) ∧ lf' 1 = (0, (P : Int)) ∧ lf' 2 = (0, (Q : Int)) ∧ lf' 3 = (0, (T : Int)) ∧ lf' 4 = (0, u) ∧ lf' 5 = (0, (c : Int)) ∧ lf' 6 = (0, 1 + (k : Int)) ∧ zr sv L n 104 23 lf' [] (cup g (29 + k) 5 1) o)) := by
  rw [zov hl0, zov hl1, zov hl2, zov hl3, zov hl4, zov hl5, zov hl6] at h
  have h := zm1 zy_104 h 3 (q := (cond (crel .ge ((k : Int)) (g 3 9)) 92 32, dset (dset (dset (dset (dset (dset (dset lf 6 (0, (k : Int))) 5 (0, (c : Int))) 4 (0, u)) 3 (0, (T : Int))) 2 (0, (Q : Int))) 1 (0, (P : Int))) 0 (4, 3), [], g)) rfl
  dsimp only at h
  try rw [hN] at h
  rcases zif_ge h with ⟨hc1, h⟩ | ⟨hc1, h⟩
  · exact absurd hc1 (by omega)
  · have h := zm zy_104 h 3 (q := (38, dset (dset (dset (dset (dset (dset (dset lf 6 (0, (k : Int))) 5 (0, (c : Int))) 4 (0, u)) 3 (0, (T : Int))) 2 (0, (Q : Int))) 1 (0, (P : Int))) 0 (4, 3), [(0, (k : Int)), (4, 7)], g)) rfl
    dsimp only at h
    have h := zald zy_104 h rfl rfl (dvp_7 (i := (k : Int)) (by omega) (by omega))
    dsimp only at h
    have h := zm zy_104 h 4 (q := (45, dset (dset (dset (dset (dset (dset (dset (dset lf 6 (0, (k : Int))) 5 (0, (c : Int))) 4 (0, u)) 3 (0, (T : Int))) 2 (0, (Q : Int))) 1 (0, (P : Int))) 0 (4, 3)) 7 (4, 29 + ((k : Int))), [(0, (T : Int)), (0, (P : Int)), (4, 29 + ((k : Int)))], g)) rfl
    dsimp only at h
    obtain ⟨gz2, rz3, hk, h⟩ := zcallI zy_104 h rfl rfl zy_99 zk_99
    dsimp only at hk h
    have hO4 := h
    have h := hk
    clear hk
    have h := zm zy_99 h 1 (q := (1, darg 0 [(4, 29 + ((k : Int))), (0, (P : Int)), (0, (T : Int))], [(4, 29 + ((k : Int)))], g)) rfl
    dsimp only at h
    have h := zgf zy_99 h rfl rfl (dvf_29_5 (i := (k : Int)) (by omega) (by omega))
    dsimp only at h
    try rw [show (29 + ((k : Int))).toNat = 29 + k from by omega] at h
    try rw [hO.2.2.2.2.2.1] at h
    have h := zm zy_99 h 1 (q := (cond (crel .ne s 0) 27 7, darg 0 [(4, 29 + ((k : Int))), (0, (P : Int)), (0, (T : Int))], [], g)) rfl
    dsimp only at h
    rcases zif_ne h with ⟨hc5, h⟩ | ⟨hc5, h⟩
    · have h := zm zy_99 h 1 (q := (28, darg 0 [(4, 29 + ((k : Int))), (0, (P : Int)), (0, (T : Int))], [(0, 0)], g)) rfl
      dsimp only at h
      have h := zret zy_99 h rfl rfl
      obtain ⟨e1, e2⟩ := oI h
      have h := hO4
      rw [e1, e2] at h
      clear e1 e2
      clear hO4
      have h := zm zy_104 h 4 (q := (23, dset (dset (dset (dset (dset (dset (dset (dset (dset lf 6 (0, (k : Int))) 5 (0, (c : Int))) 4 (0, u)) 3 (0, (T : Int))) 2 (0, (Q : Int))) 1 (0, (P : Int))) 0 (4, 3)) 7 (4, 29 + ((k : Int)))) 6 (0, w32 (((k : Int)) + 1)), [], g)) rfl
      dsimp only at h
      try rw [w32_eq (z := ((k : Int)) + 1) (v := 1 + (k : Int)) (by omega) (by omega) (by omega)] at h
      refine Or.inl (⟨Or.inl (hc5), ?_⟩)
      exact ⟨_, rfl, rfl, rfl, rfl, rfl, rfl, rfl, h⟩
    · have h := zm zy_99 h 1 (q := (8, darg 0 [(4, 29 + ((k : Int))), (0, (P : Int)), (0, (T : Int))], [(4, 29 + ((k : Int)))], g)) rfl
      dsimp only at h
      have h := zgf zy_99 h rfl rfl (dvf_29_1 (i := (k : Int)) (by omega) (by omega))
      dsimp only at h
      try rw [show (29 + ((k : Int))).toNat = 29 + k from by omega] at h
      try rw [hO.2.1] at h
      have h := zm zy_99 h 2 (q := (cond (crel .ne ((p : Int)) ((P : Int))) 27 15, darg 0 [(4, 29 + ((k : Int))), (0, (P : Int)), (0, (T : Int))], [], g)) rfl
      dsimp only at h
      rcases zif_ne h with ⟨hc7, h⟩ | ⟨hc7, h⟩
      · have h := zm zy_99 h 1 (q := (28, darg 0 [(4, 29 + ((k : Int))), (0, (P : Int)), (0, (T : Int))], [(0, 0)], g)) rfl
        dsimp only at h
        have h := zret zy_99 h rfl rfl
        obtain ⟨e1, e2⟩ := oI h
        have h := hO4
        rw [e1, e2] at h
        clear e1 e2
        clear hO4
        have h := zm zy_104 h 4 (q := (23, dset (dset (dset (dset (dset (dset (dset (dset (dset lf 6 (0, (k : Int))) 5 (0, (c : Int))) 4 (0, u)) 3 (0, (T : Int))) 2 (0, (Q : Int))) 1 (0, (P : Int))) 0 (4, 3)) 7 (4, 29 + ((k : Int)))) 6 (0, w32 (((k : Int)) + 1)), [], g)) rfl
        dsimp only at h
        try rw [w32_eq (z := ((k : Int)) + 1) (v := 1 + (k : Int)) (by omega) (by omega) (by omega)] at h
        refine Or.inl (⟨Or.inr (Or.inl (⟨hc5, hc7⟩)), ?_⟩)
        exact ⟨_, rfl, rfl, rfl, rfl, rfl, rfl, rfl, h⟩
      · have h := zm zy_99 h 1 (q := (16, darg 0 [(4, 29 + ((k : Int))), (0, (P : Int)), (0, (T : Int))], [(4, 29 + ((k : Int)))], g)) rfl
        dsimp only at h
        have h := zgf zy_99 h rfl rfl (dvf_29_3 (i := (k : Int)) (by omega) (by omega))
        dsimp only at h
        try rw [show (29 + ((k : Int))).toNat = 29 + k from by omega] at h
        try rw [hO.2.2.2.1] at h
        have h := zm zy_99 h 2 (q := (cond (crel .ne ((t : Int)) ((T : Int))) 27 23, darg 0 [(4, 29 + ((k : Int))), (0, (P : Int)), (0, (T : Int))], [], g)) rfl
        dsimp only at h
        rcases zif_ne h with ⟨hc9, h⟩ | ⟨hc9, h⟩
        · have h := zm zy_99 h 1 (q := (28, darg 0 [(4, 29 + ((k : Int))), (0, (P : Int)), (0, (T : Int))], [(0, 0)], g)) rfl
          dsimp only at h
          have h := zret zy_99 h rfl rfl
          obtain ⟨e1, e2⟩ := oI h
          have h := hO4
          rw [e1, e2] at h
          clear e1 e2
          clear hO4
          have h := zm zy_104 h 4 (q := (23, dset (dset (dset (dset (dset (dset (dset (dset (dset lf 6 (0, (k : Int))) 5 (0, (c : Int))) 4 (0, u)) 3 (0, (T : Int))) 2 (0, (Q : Int))) 1 (0, (P : Int))) 0 (4, 3)) 7 (4, 29 + ((k : Int)))) 6 (0, w32 (((k : Int)) + 1)), [], g)) rfl
          dsimp only at h
          try rw [w32_eq (z := ((k : Int)) + 1) (v := 1 + (k : Int)) (by omega) (by omega) (by omega)] at h
          refine Or.inl (⟨Or.inr (Or.inr (Or.inl (⟨hc5, hc7, hc9⟩))), ?_⟩)
          exact ⟨_, rfl, rfl, rfl, rfl, rfl, rfl, rfl, h⟩
        · have h := zm zy_99 h 2 (q := (28, darg 0 [(4, 29 + ((k : Int))), (0, (P : Int)), (0, (T : Int))], [(0, 1)], g)) rfl
          dsimp only at h
          have h := zret zy_99 h rfl rfl
          obtain ⟨e1, e2⟩ := oI h
          have h := hO4
          rw [e1, e2] at h
          clear e1 e2
          clear hO4
          have h := zm zy_104 h 2 (q := (56, dset (dset (dset (dset (dset (dset (dset (dset lf 6 (0, (k : Int))) 5 (0, (c : Int))) 4 (0, u)) 3 (0, (T : Int))) 2 (0, (Q : Int))) 1 (0, (P : Int))) 0 (4, 3)) 7 (4, 29 + ((k : Int))), [(4, 29 + ((k : Int)))], g)) rfl
          dsimp only at h
          have h := zgf zy_104 h rfl rfl (dvf_29_2 (i := (k : Int)) (by omega) (by omega))
          dsimp only at h
          try rw [show (29 + ((k : Int))).toNat = 29 + k from by omega] at h
          try rw [hO.2.2.1] at h
          have h := zm zy_104 h 2 (q := (cond (crel .eq ((q : Int)) ((Q : Int))) 72 63, dset (dset (dset (dset (dset (dset (dset (dset lf 6 (0, (k : Int))) 5 (0, (c : Int))) 4 (0, u)) 3 (0, (T : Int))) 2 (0, (Q : Int))) 1 (0, (P : Int))) 0 (4, 3)) 7 (4, 29 + ((k : Int))), [], g)) rfl
          dsimp only at h
          rcases zif_eq h with ⟨hc11, h⟩ | ⟨hc11, h⟩
          · have h := zm zy_104 h 2 (q := (cond (crel .eq u 0) 86 77, dset (dset (dset (dset (dset (dset (dset (dset lf 6 (0, (k : Int))) 5 (0, (c : Int))) 4 (0, u)) 3 (0, (T : Int))) 2 (0, (Q : Int))) 1 (0, (P : Int))) 0 (4, 3)) 7 (4, 29 + ((k : Int))), [], g)) rfl
            dsimp only at h
            rcases zif_eq h with ⟨hc12, h⟩ | ⟨hc12, h⟩
            · have h := zm zy_104 h 2 (q := (23, dset (dset (dset (dset (dset (dset (dset (dset (dset lf 6 (0, (k : Int))) 5 (0, (c : Int))) 4 (0, u)) 3 (0, (T : Int))) 2 (0, (Q : Int))) 1 (0, (P : Int))) 0 (4, 3)) 7 (4, 29 + ((k : Int)))) 6 (0, w32 (((k : Int)) + 1)), [], g)) rfl
              dsimp only at h
              try rw [w32_eq (z := ((k : Int)) + 1) (v := 1 + (k : Int)) (by omega) (by omega) (by omega)] at h
              refine Or.inl (⟨Or.inr (Or.inr (Or.inr (⟨hc5, hc7, hc9, hc11, hc12⟩))), ?_⟩)
              exact ⟨_, rfl, rfl, rfl, rfl, rfl, rfl, rfl, h⟩
            · have h := zm zy_104 h 2 (q := (80, dset (dset (dset (dset (dset (dset (dset (dset lf 6 (0, (k : Int))) 5 (0, (c : Int))) 4 (0, u)) 3 (0, (T : Int))) 2 (0, (Q : Int))) 1 (0, (P : Int))) 0 (4, 3)) 7 (4, 29 + ((k : Int))), [(4, 29 + ((k : Int))), (4, 3)], g)) rfl
              dsimp only at h
              obtain ⟨gz14, hk, h⟩ := zcallV zy_104 h rfl rfl zy_105 zk_105
              dsimp only at hk h
              have hO16 := h
              have h := hk
              clear hk
              have h := zm zy_105 h 6 (q := (10, darg 0 [(4, 3), (4, 29 + ((k : Int)))], [(4, 29 + ((k : Int))), (4, 6)], cup g ((29 + ((k : Int))).toNat) 6 1)) rfl
              dsimp only at h
              try rw [show (29 + ((k : Int))).toNat = 29 + k from by omega] at h
              have h := zgf zy_105 h rfl rfl (dvf_29_0 (i := (k : Int)) (by omega) (by omega))
              dsimp only at h
              try rw [show (29 + ((k : Int))).toNat = 29 + k from by omega] at h
              try rw [cup_ne (g := g) (k := 29 + k) (j := 6) (k' := 29 + k) (j' := 0) (by omega)] at h
              try rw [hO.1] at h
              have h := zald zy_105 h rfl rfl (dvp_6 (i := (w : Int)) (by omega) (by omega))
              dsimp only at h
              have h := zm zy_105 h 1 (q := (15, darg 0 [(4, 3), (4, 29 + ((k : Int)))], [(4, 17 + 2 * ((w : Int))), (4, 17 + 2 * ((w : Int)))], cup g (29 + k) 6 1)) rfl
              dsimp only at h
              have h := zgf zy_105 h rfl rfl (dvf_17_1 (i := (w : Int)) (by omega) (by omega))
              dsimp only at h
              try rw [show (17 + 2 * ((w : Int))).toNat = 17 + 2 * w from by omega] at h
              try rw [cup_ne (g := g) (k := 29 + k) (j := 6) (k' := 17 + 2 * w) (j' := 1) (by omega)] at h
              try rw [hpu] at h
              have h := zm zy_105 h 1 (q := (19, darg 0 [(4, 3), (4, 29 + ((k : Int)))], [(4, 29 + ((k : Int))), (0, pu), (4, 17 + 2 * ((w : Int)))], cup g (29 + k) 6 1)) rfl
              dsimp only at h
              have h := zgf zy_105 h rfl rfl (dvf_29_4 (i := (k : Int)) (by omega) (by omega))
              dsimp only at h
              try rw [show (29 + ((k : Int))).toNat = 29 + k from by omega] at h
              try rw [cup_ne (g := g) (k := 29 + k) (j := 6) (k' := 29 + k) (j' := 4) (by omega)] at h
              try rw [hO.2.2.2.2.1] at h
              have h := zm zy_105 h 5 (q := (31, darg 0 [(4, 3), (4, 29 + ((k : Int)))], [(0, (cup (cup g (29 + k) 6 1) ((17 + 2 * ((w : Int))).toNat) 1 (w32 (pu + f))) 3 8), (4, 3)], cup (cup g (29 + k) 6 1) ((17 + 2 * ((w : Int))).toNat) 1 (w32 (pu + f)))) rfl
              dsimp only at h
              try rw [show (17 + 2 * ((w : Int))).toNat = 17 + 2 * w from by omega] at h
              try rw [cup_ne (g := cup g (29 + k) 6 1) (k := 17 + 2 * w) (j := 1) (k' := 3) (j' := 8) (by omega)] at h
              try rw [cup_ne (g := g) (k := 29 + k) (j := 6) (k' := 3) (j' := 8) (by omega)] at h
              have h := zm zy_105 h 1 (q := (32, darg 0 [(4, 3), (4, 29 + ((k : Int)))], [(4, 29 + ((k : Int))), (0, g 3 8), (4, 3)], cup (cup g (29 + k) 6 1) (17 + 2 * w) 1 (w32 (pu + f)))) rfl
              dsimp only at h
              have h := zgf zy_105 h rfl rfl (dvf_29_4 (i := (k : Int)) (by omega) (by omega))
              dsimp only at h
              try rw [show (29 + ((k : Int))).toNat = 29 + k from by omega] at h
              try rw [cup_ne (g := cup g (29 + k) 6 1) (k := 17 + 2 * w) (j := 1) (k' := 29 + k) (j' := 4) (by omega)] at h
              try rw [cup_ne (g := g) (k := 29 + k) (j := 6) (k' := 29 + k) (j' := 4) (by omega)] at h
              try rw [hO.2.2.2.2.1] at h
              have h := zm zy_105 h 2 (q := (39, darg 0 [(4, 3), (4, 29 + ((k : Int)))], [], cup (cup (cup g (29 + k) 6 1) (17 + 2 * w) 1 (w32 (pu + f))) 3 8 (w32 ((g 3 8) - f)))) rfl
              dsimp only at h
              have h := zret zy_105 h rfl rfl
              have e1 := oV h
              have h := hO16
              rw [e1] at h
              clear e1
              clear hO16
              have h := zm zy_104 h 3 (q := (23, dset (dset (dset (dset (dset (dset (dset (dset (dset (dset lf 6 (0, (k : Int))) 5 (0, (c : Int))) 4 (0, u)) 3 (0, (T : Int))) 2 (0, (Q : Int))) 1 (0, (P : Int))) 0 (4, 3)) 7 (4, 29 + ((k : Int)))) 5 (0, w32 (((c : Int)) + 1))) 6 (0, w32 (((k : Int)) + 1)), [], cup (cup (cup g (29 + k) 6 1) (17 + 2 * w) 1 (w32 (pu + f))) 3 8 (w32 ((g 3 8) - f)))) rfl
              dsimp only at h
              try rw [w32_eq (z := ((c : Int)) + 1) (v := 1 + (c : Int)) (by omega) (by omega) (by omega)] at h
              try rw [w32_eq (z := ((k : Int)) + 1) (v := 1 + (k : Int)) (by omega) (by omega) (by omega)] at h
              refine Or.inr (Or.inl (⟨⟨hc5, hc7, hc9, hc11, hc12⟩, ?_⟩))
              exact ⟨_, rfl, rfl, rfl, rfl, rfl, rfl, rfl, h⟩
          · have h := zm zy_104 h 6 (q := (23, dset (dset (dset (dset (dset (dset (dset (dset (dset lf 6 (0, (k : Int))) 5 (0, (c : Int))) 4 (0, u)) 3 (0, (T : Int))) 2 (0, (Q : Int))) 1 (0, (P : Int))) 0 (4, 3)) 7 (4, 29 + ((k : Int)))) 6 (0, w32 (((k : Int)) + 1)), [], cup g ((29 + ((k : Int))).toNat) 5 1)) rfl
            dsimp only at h
            try rw [w32_eq (z := ((k : Int)) + 1) (v := 1 + (k : Int)) (by omega) (by omega) (by omega)] at h
            try rw [show (29 + ((k : Int))).toNat = 29 + k from by omega] at h
            refine Or.inr (Or.inr (⟨⟨hc5, hc7, hc9, hc11⟩, ?_⟩))
            exact ⟨_, rfl, rfl, rfl, rfl, rfl, rfl, rfl, h⟩
theorem t_rev_e {sv : Nat → Int32} {L n : Nat} {lf : dlf} {g : cg} {o : cg × Option cv} {P Q T k N c : Nat} {u : Int} (rP : P ≤ 5) (rQ : Q ≤ 4) (rT : T ≤ 7) (rk : k ≤ 16) (rN : N ≤ 16) (rc : c ≤ 16) (hN : g 3 9 = (N : Int)) (hge : N ≤ k) (h : zr sv L (n + 1) 104 23 lf [] g o) (hl0 : lf 0 = (4, 3)) (hl1 : lf 1 = (0, (P : Int))) (hl2 : lf 2 = (0, (Q : Int))) (hl3 : lf 3 = (0, (T : Int))) (hl4 : lf 4 = (0, u)) (hl5 : lf 5 = (0, (c : Int))) (hl6 : lf 6 = (0, (k : Int))) : o = (cup g (18 + 2 * P) T ((Q : Int)), some (0, (c : Int))) := by
  rw [zov hl0, zov hl1, zov hl2, zov hl3, zov hl4, zov hl5, zov hl6] at h
  have h := zm1 zy_104 h 3 (q := (cond (crel .ge ((k : Int)) (g 3 9)) 92 32, dset (dset (dset (dset (dset (dset (dset lf 6 (0, (k : Int))) 5 (0, (c : Int))) 4 (0, u)) 3 (0, (T : Int))) 2 (0, (Q : Int))) 1 (0, (P : Int))) 0 (4, 3), [], g)) rfl
  dsimp only at h
  try rw [hN] at h
  rcases zif_ge h with ⟨hc1, h⟩ | ⟨hc1, h⟩
  · have h := zm zy_104 h 3 (q := (97, dset (dset (dset (dset (dset (dset (dset lf 6 (0, (k : Int))) 5 (0, (c : Int))) 4 (0, u)) 3 (0, (T : Int))) 2 (0, (Q : Int))) 1 (0, (P : Int))) 0 (4, 3), [(0, (P : Int)), (4, 6)], g)) rfl
    dsimp only at h
    have h := zald zy_104 h rfl rfl (dvp_6 (i := (P : Int)) (by omega) (by omega))
    dsimp only at h
    have h := zgf zy_104 h rfl rfl (dvf_17_6 (i := (P : Int)) (by omega) (by omega))
    have h := zm zy_104 h 4 (q := (106, dset (dset (dset (dset (dset (dset (dset lf 6 (0, (k : Int))) 5 (0, (c : Int))) 4 (0, u)) 3 (0, (T : Int))) 2 (0, (Q : Int))) 1 (0, (P : Int))) 0 (4, 3), [(0, (c : Int))], cup g ((18 + 2 * ((P : Int))).toNat) (((T : Int)).toNat) ((Q : Int)))) rfl
    dsimp only at h
    try rw [show (18 + 2 * ((P : Int))).toNat = 18 + 2 * P from by omega] at h
    try rw [show ((T : Int)).toNat = T from by omega] at h
    exact zret zy_104 h rfl rfl
  · exact absurd hc1 (by omega)
theorem t_ask0_92 {sv : Nat → Int32} {L n : Nat} {lf : dlf} {g : cg} {o : cg × Option cv} {W P : Nat} (rW : W ≤ 5) (rP : P ≤ 5) (h : zr sv L n 91 0 lf [] g o) (hl0 : lf 0 = (4, 92)) (hl1 : lf 1 = (0, (W : Int))) (hl2 : lf 2 = (0, (P : Int))) : ∃ lf', lf' 0 = (4, 92) ∧ lf' 3 = (0, 0) ∧ zr sv L n 91 27 lf' [] (cup (cup (cup (cup (cup g 92 1 ((W : Int))) 92 2 ((P : Int))) 92 3 0) 92 8 0) 92 4 0) o := by
  rw [zov hl0, zov hl1, zov hl2] at h
  have h := zm zy_91 h 17 (q := (27, dset (dset (dset (dset lf 2 (0, (P : Int))) 1 (0, (W : Int))) 0 (4, 92)) 3 (0, 0), [], cup (cup (cup (cup (cup g 92 1 ((W : Int))) 92 2 ((P : Int))) 92 3 0) 92 8 0) 92 4 0)) rfl
  dsimp only at h
  exact ⟨_, rfl, rfl, h⟩
theorem t_ask27s_92 {sv : Nat → Int32} {L n : Nat} {lf : dlf} {g : cg} {o : cg × Option cv} {k : Nat} (rk : k ≤ 7) (h : zr sv L (n + 1) 91 27 lf [] g o) (hl0 : lf 0 = (4, 92)) (hl3 : lf 3 = (0, (k : Int))) : ∃ lf', lf' 0 = (4, 92) ∧ lf' 3 = (0, 1 + (k : Int)) ∧ zr sv L n 91 27 lf' [] (cup g 93 k 0) o := by
  rw [zov hl0, zov hl3] at h
  have h := zm1 zy_91 h 2 (q := (cond (crel .ge ((k : Int)) 8) 46 33, dset (dset lf 3 (0, (k : Int))) 0 (4, 92), [], g)) rfl
  dsimp only at h
  rcases zif_ge h with ⟨hc1, h⟩ | ⟨hc1, h⟩
  · exact absurd hc1 (by omega)
  · have h := zm zy_91 h 7 (q := (27, dset (dset (dset lf 3 (0, (k : Int))) 0 (4, 92)) 3 (0, w32 (((k : Int)) + 1)), [], cup g 93 (((k : Int)).toNat) 0)) rfl
    dsimp only at h
    try rw [w32_eq (z := ((k : Int)) + 1) (v := 1 + (k : Int)) (by omega) (by omega) (by omega)] at h
    try rw [show ((k : Int)).toNat = k from by omega] at h
    exact ⟨_, rfl, rfl, h⟩
theorem t_ask27e_92 {sv : Nat → Int32} {L n : Nat} {lf : dlf} {g : cg} {o : cg × Option cv} (h : zr sv L (n + 1) 91 27 lf [] g o) (hl0 : lf 0 = (4, 92)) (hl3 : lf 3 = (0, 8)) : ∃ lf', lf' 0 = (4, 92) ∧ lf' 3 = (0, 0) ∧ zr sv L n 91 48 lf' [] g o := by
  rw [zov hl0, zov hl3] at h
  have h := zm1 zy_91 h 4 (q := (48, dset (dset (dset lf 3 (0, 8)) 0 (4, 92)) 3 (0, 0), [], g)) rfl
  dsimp only at h
  exact ⟨_, rfl, rfl, h⟩
theorem t_ask48s_92 {sv : Nat → Int32} {L n : Nat} {lf : dlf} {g : cg} {o : cg × Option cv} {k : Nat} (rk : k ≤ 39) (h : zr sv L (n + 1) 91 48 lf [] g o) (hl0 : lf 0 = (4, 92)) (hl3 : lf 3 = (0, (k : Int))) : ∃ lf', lf' 0 = (4, 92) ∧ lf' 3 = (0, 1 + (k : Int)) ∧ zr sv L n 91 48 lf' [] (cup g 94 k 0) o := by
  rw [zov hl0, zov hl3] at h
  have h := zm1 zy_91 h 2 (q := (cond (crel .ge ((k : Int)) 40) 67 54, dset (dset lf 3 (0, (k : Int))) 0 (4, 92), [], g)) rfl
  dsimp only at h
  rcases zif_ge h with ⟨hc1, h⟩ | ⟨hc1, h⟩
  · exact absurd hc1 (by omega)
  · have h := zm zy_91 h 7 (q := (48, dset (dset (dset lf 3 (0, (k : Int))) 0 (4, 92)) 3 (0, w32 (((k : Int)) + 1)), [], cup g 94 (((k : Int)).toNat) 0)) rfl
    dsimp only at h
    try rw [w32_eq (z := ((k : Int)) + 1) (v := 1 + (k : Int)) (by omega) (by omega) (by omega)] at h
    try rw [show ((k : Int)).toNat = k from by omega] at h
    exact ⟨_, rfl, rfl, h⟩
theorem t_ask48e_92 {sv : Nat → Int32} {L n : Nat} {lf : dlf} {g : cg} {o : cg × Option cv} (h : zr sv L (n + 1) 91 48 lf [] g o) (hl0 : lf 0 = (4, 92)) (hl3 : lf 3 = (0, 40)) : ∃ lf', lf' 0 = (4, 92) ∧ lf' 3 = (2, 0) ∧ lf' 5 = (0, 0) ∧ lf' 6 = (0, 0) ∧ zr sv L n 91 75 lf' [] g o := by
  rw [zov hl0, zov hl3] at h
  have h := zm1 zy_91 h 8 (q := (75, dset (dset (dset (dset (dset lf 3 (0, 40)) 0 (4, 92)) 3 (2, 0)) 5 (0, 0)) 6 (0, 0), [], g)) rfl
  dsimp only at h
  exact ⟨_, rfl, rfl, rfl, rfl, h⟩
theorem t_ask75s_92 {sv : Nat → Int32} {L n : Nat} {lf : dlf} {g : cg} {o : cg × Option cv} {W P w p q t k N : Nat} {f s b sd li v : Int} (rW : W ≤ 5) (rP : P ≤ 5) (rw : w ≤ 5) (rp : p ≤ 5) (rq : q ≤ 4) (rt : t ≤ 7) (rk : k ≤ 15) (rN : N ≤ 16) (hN : g 3 9 = (N : Int)) (hW : g 92 1 = (W : Int)) (hQ : g 92 2 = (P : Int)) (hO : OHC g k w p q t f s b) (hv : g (18 + 2 * p) t = v) (hlt : k < N) (h : zr sv L (n + 1) 91 75 lf [] g o) (hl0 : lf 0 = (4, 92)) (hl3 : lf 3 = (2, sd)) (hl5 : lf 5 = (0, li)) (hl6 : lf 6 = (0, (k : Int))) : (((s ≠ 0) ∨ (s = 0 ∧ (p : Int) ≠ (P : Int))) ∧ (∃ lf', lf' 0 = (4, 92) ∧ lf' 3 = (2, sd) ∧ lf' 5 = (0, li) ∧ lf' 6 = (0, 1 + (k : Int)) ∧ zr sv L n 91 75 lf' [] g o)) ∨ (((s = 0 ∧ (p : Int) = (P : Int) ∧ csgn ((lan (lsr sd (5 * (t : Int))) 31) - 0) = 0 ∧ v ≠ (q : Int)) ∨ (s = 0 ∧ (p : Int) = (P : Int) ∧ csgn ((lan (lsr sd (5 * (t : Int))) 31) - 0) ≠ 0 ∧ csgn ((lan (lsr sd (5 * (t : Int))) 31) - (lsl 1 ((q : Int)))) = 0 ∧ v ≠ (q : Int))) ∧ (∃ g_1, zr sv L n 93 0 (darg 0 [(4, 92), (4, 29 + ((k : Int)))]) [] (cup g 92 4 (bor (g 92 4) 0)) (g_1, none) ∧ (∃ lf', lf' 0 = (4, 92) ∧ lf' 3 = (2, lor sd (lsl 1 ((q : Int) + 5 * (t : Int)))) ∧ lf' 5 = (0, bor li (bsl 1 ((w : Int)))) ∧ lf' 6 = (0, 1 + (k : Int)) ∧ zr sv L n 91 75 lf' [] g_1 o))) ∨ (((s = 0 ∧ (p : Int) = (P : Int) ∧ csgn ((lan (lsr sd (5 * (t : Int))) 31) - 0) = 0 ∧ v = (q : Int)) ∨ (s = 0 ∧ (p : Int) = (P : Int) ∧ csgn ((lan (lsr sd (5 * (t : Int))) 31) - 0) ≠ 0 ∧ csgn ((lan (lsr sd (5 * (t : Int))) 31) - (lsl 1 ((q : Int)))) = 0 ∧ v = (q : Int))) ∧ (∃ g_1, zr sv L n 93 0 (darg 0 [(4, 92), (4, 29 + ((k : Int)))]) [] (cup g 92 4 (bor (g 92 4) 0)) (g_1, none) ∧ (∃ lf', lf' 0 = (4, 92) ∧ lf' 3 = (2, lor sd (lsl 1 ((q : Int) + 5 * (t : Int)))) ∧ lf' 5 = (0, bor li 0) ∧ lf' 6 = (0, 1 + (k : Int)) ∧ zr sv L n 91 75 lf' [] g_1 o))) ∨ ((s = 0 ∧ (p : Int) = (P : Int) ∧ csgn ((lan (lsr sd (5 * (t : Int))) 31) - 0) ≠ 0 ∧ csgn ((lan (lsr sd (5 * (t : Int))) 31) - (lsl 1 ((q : Int)))) ≠ 0 ∧ v ≠ (q : Int)) ∧ (∃ g_1, zr sv L n 93 0 (darg 0 [(4, 92), (4, 29 + ((k : Int)))]) [] (cup g 92 4 (bor (g 92 4) 1)) (g_1, none) ∧ (∃ lf', lf' 0 = (4, 92) ∧ lf' 3 = (2, lor sd (lsl 1 ((q : Int) + 5 * (t : Int)))) ∧ lf' 5 = (0, bor li (bsl 1 ((w : Int)))) ∧ lf' 6 = (0, 1 + (k : Int)) ∧ zr sv L n 91 75 lf' [] g_1 o))) ∨ ((s = 0 ∧ (p : Int) = (P : Int) ∧ csgn ((lan (lsr sd (5 * (t : Int))) 31) - 0) ≠ 0 ∧ csgn ((lan (lsr sd (5 * (t : Int))) 31) - (lsl 1 ((q : Int)))) ≠ 0 ∧ v = (q : Int)) ∧ (∃ g_1, zr sv L n 93 0 (darg 0 [(4, 92), (4, 29 + ((k : Int)))]) [] (cup g 92 4 (bor (g 92 4) 1)) (g_1, none) ∧ (∃ lf', lf' 0 = (4, 92) ∧ lf' 3 = (2, lor sd (lsl 1 ((q : Int) + 5 * (t : Int)))) ∧ lf' 5 = (0, bor li 0) ∧ lf' 6 = (0, 1 + (k : Int)) ∧ zr sv L n 91 75 lf' [] g_1 o))) := by
  rw [zov hl0, zov hl3, zov hl5, zov hl6] at h
  have h := zm1 zy_91 h 4 (q := (cond (crel .ge ((k : Int)) (g 3 9)) 218 87, dset (dset (dset (dset lf 6 (0, (k : Int))) 5 (0, li)) 3 (2, sd)) 0 (4, 92), [], g)) rfl
  dsimp only at h
  try rw [hN] at h
  rcases zif_ge h with ⟨hc1, h⟩ | ⟨hc1, h⟩
  · exact absurd hc1 (by omega)
  · have h := zm zy_91 h 4 (q := (96, dset (dset (dset (dset lf 6 (0, (k : Int))) 5 (0, li)) 3 (2, sd)) 0 (4, 92), [(0, (k : Int)), (4, 7)], g)) rfl
    dsimp only at h
    have h := zald zy_91 h rfl rfl (dvp_7 (i := (k : Int)) (by omega) (by omega))
    dsimp only at h
    have h := zm zy_91 h 4 (q := (105, dset (dset (dset (dset (dset lf 6 (0, (k : Int))) 5 (0, li)) 3 (2, sd)) 0 (4, 92)) 7 (4, 29 + ((k : Int))), [(0, g 92 2), (4, 29 + ((k : Int)))], g)) rfl
    dsimp only at h
    try rw [hQ] at h
    obtain ⟨gz2, rz3, hk, h⟩ := zcallI zy_91 h rfl rfl zy_92 zk_92
    dsimp only at hk h
    have hO4 := h
    have h := hk
    clear hk
    have h := zm zy_92 h 1 (q := (1, darg 0 [(4, 29 + ((k : Int))), (0, (P : Int))], [(4, 29 + ((k : Int)))], g)) rfl
    dsimp only at h
    have h := zgf zy_92 h rfl rfl (dvf_29_5 (i := (k : Int)) (by omega) (by omega))
    dsimp only at h
    try rw [show (29 + ((k : Int))).toNat = 29 + k from by omega] at h
    try rw [hO.2.2.2.2.2.1] at h
    have h := zm zy_92 h 1 (q := (cond (crel .ne s 0) 19 7, darg 0 [(4, 29 + ((k : Int))), (0, (P : Int))], [], g)) rfl
    dsimp only at h
    rcases zif_ne h with ⟨hc5, h⟩ | ⟨hc5, h⟩
    · have h := zm zy_92 h 1 (q := (20, darg 0 [(4, 29 + ((k : Int))), (0, (P : Int))], [(0, 0)], g)) rfl
      dsimp only at h
      have h := zret zy_92 h rfl rfl
      obtain ⟨e1, e2⟩ := oI h
      have h := hO4
      rw [e1, e2] at h
      clear e1 e2
      clear hO4
      have h := zm zy_91 h 3 (q := (75, dset (dset (dset (dset (dset (dset lf 6 (0, (k : Int))) 5 (0, li)) 3 (2, sd)) 0 (4, 92)) 7 (4, 29 + ((k : Int)))) 6 (0, w32 (((k : Int)) + 1)), [], g)) rfl
      dsimp only at h
      try rw [w32_eq (z := ((k : Int)) + 1) (v := 1 + (k : Int)) (by omega) (by omega) (by omega)] at h
      refine Or.inl (⟨Or.inl (hc5), ?_⟩)
      exact ⟨_, rfl, rfl, rfl, rfl, h⟩
    · have h := zm zy_92 h 1 (q := (8, darg 0 [(4, 29 + ((k : Int))), (0, (P : Int))], [(4, 29 + ((k : Int)))], g)) rfl
      dsimp only at h
      have h := zgf zy_92 h rfl rfl (dvf_29_1 (i := (k : Int)) (by omega) (by omega))
      dsimp only at h
      try rw [show (29 + ((k : Int))).toNat = 29 + k from by omega] at h
      try rw [hO.2.1] at h
      have h := zm zy_92 h 2 (q := (cond (crel .ne ((p : Int)) ((P : Int))) 19 15, darg 0 [(4, 29 + ((k : Int))), (0, (P : Int))], [], g)) rfl
      dsimp only at h
      rcases zif_ne h with ⟨hc7, h⟩ | ⟨hc7, h⟩
      · have h := zm zy_92 h 1 (q := (20, darg 0 [(4, 29 + ((k : Int))), (0, (P : Int))], [(0, 0)], g)) rfl
        dsimp only at h
        have h := zret zy_92 h rfl rfl
        obtain ⟨e1, e2⟩ := oI h
        have h := hO4
        rw [e1, e2] at h
        clear e1 e2
        clear hO4
        have h := zm zy_91 h 3 (q := (75, dset (dset (dset (dset (dset (dset lf 6 (0, (k : Int))) 5 (0, li)) 3 (2, sd)) 0 (4, 92)) 7 (4, 29 + ((k : Int)))) 6 (0, w32 (((k : Int)) + 1)), [], g)) rfl
        dsimp only at h
        try rw [w32_eq (z := ((k : Int)) + 1) (v := 1 + (k : Int)) (by omega) (by omega) (by omega)] at h
        refine Or.inl (⟨Or.inr (⟨hc5, hc7⟩), ?_⟩)
        exact ⟨_, rfl, rfl, rfl, rfl, h⟩
      · have h := zm zy_92 h 2 (q := (20, darg 0 [(4, 29 + ((k : Int))), (0, (P : Int))], [(0, 1)], g)) rfl
        dsimp only at h
        have h := zret zy_92 h rfl rfl
        obtain ⟨e1, e2⟩ := oI h
        have h := hO4
        rw [e1, e2] at h
        clear e1 e2
        clear hO4
        have h := zm zy_91 h 3 (q := (114, dset (dset (dset (dset (dset lf 6 (0, (k : Int))) 5 (0, li)) 3 (2, sd)) 0 (4, 92)) 7 (4, 29 + ((k : Int))), [(4, 29 + ((k : Int))), (2, sd)], g)) rfl
        dsimp only at h
        have h := zgf zy_91 h rfl rfl (dvf_29_3 (i := (k : Int)) (by omega) (by omega))
        dsimp only at h
        try rw [show (29 + ((k : Int))).toNat = 29 + k from by omega] at h
        try rw [hO.2.2.2.1] at h
        have h := zm zy_91 h 13 (q := (cond (crel .eq (csgn ((lan (lsr sd (w32 (((t : Int)) * 5))) 31) - 0)) 0) 155 138, dset (dset (dset (dset (dset (dset lf 6 (0, (k : Int))) 5 (0, li)) 3 (2, sd)) 0 (4, 92)) 7 (4, 29 + ((k : Int)))) 8 (2, lan (lsr sd (w32 (((t : Int)) * 5))) 31), [(0, g 92 4), (4, 92)], g)) rfl
        dsimp only at h
        try rw [w32_eq (z := ((t : Int)) * 5) (v := 5 * (t : Int)) (by omega) (by omega) (by omega)] at h
        rcases zif_eq h with ⟨hc9, h⟩ | ⟨hc9, h⟩
        · have h := zm zy_91 h 6 (q := (164, dset (dset (dset (dset (dset (dset lf 6 (0, (k : Int))) 5 (0, li)) 3 (2, sd)) 0 (4, 92)) 7 (4, 29 + ((k : Int)))) 8 (2, lan (lsr sd (5 * (t : Int))) 31), [(4, 29 + ((k : Int))), (2, 1), (2, sd)], cup g 92 4 (bor (g 92 4) 0))) rfl
          dsimp only at h
          have h := zgf zy_91 h rfl rfl (dvf_29_3 (i := (k : Int)) (by omega) (by omega))
          dsimp only at h
          try rw [show (29 + ((k : Int))).toNat = 29 + k from by omega] at h
          try rw [cup_ne (g := g) (k := 92) (j := 4) (k' := 29 + k) (j' := 3) (by omega)] at h
          try rw [hO.2.2.2.1] at h
          have h := zm zy_91 h 3 (q := (171, dset (dset (dset (dset (dset (dset lf 6 (0, (k : Int))) 5 (0, li)) 3 (2, sd)) 0 (4, 92)) 7 (4, 29 + ((k : Int)))) 8 (2, lan (lsr sd (5 * (t : Int))) 31), [(4, 29 + ((k : Int))), (0, w32 (((t : Int)) * 5)), (2, 1), (2, sd)], cup g 92 4 (bor (g 92 4) 0))) rfl
          dsimp only at h
          try rw [w32_eq (z := ((t : Int)) * 5) (v := 5 * (t : Int)) (by omega) (by omega) (by omega)] at h
          have h := zgf zy_91 h rfl rfl (dvf_29_2 (i := (k : Int)) (by omega) (by omega))
          dsimp only at h
          try rw [show (29 + ((k : Int))).toNat = 29 + k from by omega] at h
          try rw [cup_ne (g := g) (k := 92) (j := 4) (k' := 29 + k) (j' := 2) (by omega)] at h
          try rw [hO.2.2.1] at h
          have h := zm zy_91 h 8 (q := (186, dset (dset (dset (dset (dset (dset (dset lf 6 (0, (k : Int))) 5 (0, li)) 3 (2, sd)) 0 (4, 92)) 7 (4, 29 + ((k : Int)))) 8 (2, lan (lsr sd (5 * (t : Int))) 31)) 3 (2, lor sd (lsl 1 (w32 ((5 * (t : Int)) + ((q : Int)))))), [(4, 29 + ((k : Int))), (4, 3), (0, li)], cup g 92 4 (bor (g 92 4) 0))) rfl
          dsimp only at h
          try rw [w32_eq (z := (5 * (t : Int)) + ((q : Int))) (v := (q : Int) + 5 * (t : Int)) (by omega) (by omega) (by omega)] at h
          obtain ⟨gz10, rz11, hk, h⟩ := zcallI zy_91 h rfl rfl zy_88 zk_88
          dsimp only at hk h
          have hO12 := h
          have h := hk
          clear hk
          have h := zm zy_88 h 3 (q := (5, darg 0 [(4, 3), (4, 29 + ((k : Int)))], [(4, 29 + ((k : Int))), (4, 6)], cup g 92 4 (bor (g 92 4) 0))) rfl
          dsimp only at h
          have h := zgf zy_88 h rfl rfl (dvf_29_1 (i := (k : Int)) (by omega) (by omega))
          dsimp only at h
          try rw [show (29 + ((k : Int))).toNat = 29 + k from by omega] at h
          try rw [cup_ne (g := g) (k := 92) (j := 4) (k' := 29 + k) (j' := 1) (by omega)] at h
          try rw [hO.2.1] at h
          have h := zald zy_88 h rfl rfl (dvp_6 (i := (p : Int)) (by omega) (by omega))
          dsimp only at h
          have h := zgf zy_88 h rfl rfl (dvf_17_6 (i := (p : Int)) (by omega) (by omega))
          have h := zm zy_88 h 1 (q := (13, darg 0 [(4, 3), (4, 29 + ((k : Int)))], [(4, 29 + ((k : Int))), (4, 18 + 2 * ((p : Int)))], cup g 92 4 (bor (g 92 4) 0))) rfl
          dsimp only at h
          have h := zgf zy_88 h rfl rfl (dvf_29_3 (i := (k : Int)) (by omega) (by omega))
          dsimp only at h
          try rw [show (29 + ((k : Int))).toNat = 29 + k from by omega] at h
          try rw [cup_ne (g := g) (k := 92) (j := 4) (k' := 29 + k) (j' := 3) (by omega)] at h
          try rw [hO.2.2.2.1] at h
          have h := zald zy_88 h rfl rfl (dvr_18 (i := (p : Int)) (j := (t : Int)) (by omega) (by omega) (by omega) (by omega))
          dsimp only at h
          try rw [show (18 + 2 * ((p : Int))).toNat = 18 + 2 * p from by omega] at h
          try rw [show ((t : Int)).toNat = t from by omega] at h
          try rw [cup_ne (g := g) (k := 92) (j := 4) (k' := 18 + 2 * p) (j' := t) (by omega)] at h
          try rw [hv] at h
          have h := zm zy_88 h 1 (q := (18, darg 0 [(4, 3), (4, 29 + ((k : Int)))], [(4, 29 + ((k : Int))), (0, v)], cup g 92 4 (bor (g 92 4) 0))) rfl
          dsimp only at h
          have h := zgf zy_88 h rfl rfl (dvf_29_2 (i := (k : Int)) (by omega) (by omega))
          dsimp only at h
          try rw [show (29 + ((k : Int))).toNat = 29 + k from by omega] at h
          try rw [cup_ne (g := g) (k := 92) (j := 4) (k' := 29 + k) (j' := 2) (by omega)] at h
          try rw [hO.2.2.1] at h
          have h := zm zy_88 h 1 (q := (cond (crel .ne v ((q : Int))) 28 24, darg 0 [(4, 3), (4, 29 + ((k : Int)))], [], cup g 92 4 (bor (g 92 4) 0))) rfl
          dsimp only at h
          rcases zif_ne h with ⟨hc13, h⟩ | ⟨hc13, h⟩
          · have h := zm zy_88 h 1 (q := (29, darg 0 [(4, 3), (4, 29 + ((k : Int)))], [(0, 0)], cup g 92 4 (bor (g 92 4) 0))) rfl
            dsimp only at h
            have h := zret zy_88 h rfl rfl
            obtain ⟨e1, e2⟩ := oI h
            have h := hO12
            rw [e1, e2] at h
            clear e1 e2
            clear hO12
            have h := zm zy_91 h 3 (q := (199, dset (dset (dset (dset (dset (dset (dset lf 6 (0, (k : Int))) 5 (0, li)) 3 (2, sd)) 0 (4, 92)) 7 (4, 29 + ((k : Int)))) 8 (2, lan (lsr sd (5 * (t : Int))) 31)) 3 (2, lor sd (lsl 1 ((q : Int) + 5 * (t : Int)))), [(4, 29 + ((k : Int))), (0, 1), (0, li)], cup g 92 4 (bor (g 92 4) 0))) rfl
            dsimp only at h
            have h := zgf zy_91 h rfl rfl (dvf_29_0 (i := (k : Int)) (by omega) (by omega))
            dsimp only at h
            try rw [show (29 + ((k : Int))).toNat = 29 + k from by omega] at h
            try rw [cup_ne (g := g) (k := 92) (j := 4) (k' := 29 + k) (j' := 0) (by omega)] at h
            try rw [hO.1] at h
            have h := zm zy_91 h 5 (q := (209, dset (dset (dset (dset (dset (dset (dset (dset lf 6 (0, (k : Int))) 5 (0, li)) 3 (2, sd)) 0 (4, 92)) 7 (4, 29 + ((k : Int)))) 8 (2, lan (lsr sd (5 * (t : Int))) 31)) 3 (2, lor sd (lsl 1 ((q : Int) + 5 * (t : Int))))) 5 (0, bor li (bsl 1 ((w : Int)))), [(4, 29 + ((k : Int))), (4, 92)], cup g 92 4 (bor (g 92 4) 0))) rfl
            dsimp only at h
            obtain ⟨g_1, hk, h⟩ := zcallV zy_91 h rfl rfl zy_93 zk_93
            dsimp only at hk h
            refine Or.inr (Or.inl (⟨Or.inl (⟨hc5, hc7, hc9, hc13⟩), ?_⟩))
            refine ⟨g_1, hk, ?_⟩
            have h := zm zy_91 h 2 (q := (75, dset (dset (dset (dset (dset (dset (dset (dset (dset lf 6 (0, (k : Int))) 5 (0, li)) 3 (2, sd)) 0 (4, 92)) 7 (4, 29 + ((k : Int)))) 8 (2, lan (lsr sd (5 * (t : Int))) 31)) 3 (2, lor sd (lsl 1 ((q : Int) + 5 * (t : Int))))) 5 (0, bor li (bsl 1 ((w : Int))))) 6 (0, w32 (((k : Int)) + 1)), [], g_1)) rfl
            dsimp only at h
            try rw [w32_eq (z := ((k : Int)) + 1) (v := 1 + (k : Int)) (by omega) (by omega) (by omega)] at h
            exact ⟨_, rfl, rfl, rfl, rfl, h⟩
          · have h := zm zy_88 h 2 (q := (29, darg 0 [(4, 3), (4, 29 + ((k : Int)))], [(0, 1)], cup g 92 4 (bor (g 92 4) 0))) rfl
            dsimp only at h
            have h := zret zy_88 h rfl rfl
            obtain ⟨e1, e2⟩ := oI h
            have h := hO12
            rw [e1, e2] at h
            clear e1 e2
            clear hO12
            have h := zm zy_91 h 7 (q := (209, dset (dset (dset (dset (dset (dset (dset (dset lf 6 (0, (k : Int))) 5 (0, li)) 3 (2, sd)) 0 (4, 92)) 7 (4, 29 + ((k : Int)))) 8 (2, lan (lsr sd (5 * (t : Int))) 31)) 3 (2, lor sd (lsl 1 ((q : Int) + 5 * (t : Int))))) 5 (0, bor li 0), [(4, 29 + ((k : Int))), (4, 92)], cup g 92 4 (bor (g 92 4) 0))) rfl
            dsimp only at h
            obtain ⟨g_1, hk, h⟩ := zcallV zy_91 h rfl rfl zy_93 zk_93
            dsimp only at hk h
            refine Or.inr (Or.inr (Or.inl (⟨Or.inl (⟨hc5, hc7, hc9, hc13⟩), ?_⟩)))
            refine ⟨g_1, hk, ?_⟩
            have h := zm zy_91 h 2 (q := (75, dset (dset (dset (dset (dset (dset (dset (dset (dset lf 6 (0, (k : Int))) 5 (0, li)) 3 (2, sd)) 0 (4, 92)) 7 (4, 29 + ((k : Int)))) 8 (2, lan (lsr sd (5 * (t : Int))) 31)) 3 (2, lor sd (lsl 1 ((q : Int) + 5 * (t : Int))))) 5 (0, bor li 0)) 6 (0, w32 (((k : Int)) + 1)), [], g_1)) rfl
            dsimp only at h
            try rw [w32_eq (z := ((k : Int)) + 1) (v := 1 + (k : Int)) (by omega) (by omega) (by omega)] at h
            exact ⟨_, rfl, rfl, rfl, rfl, h⟩
        · have h := zm zy_91 h 3 (q := (143, dset (dset (dset (dset (dset (dset lf 6 (0, (k : Int))) 5 (0, li)) 3 (2, sd)) 0 (4, 92)) 7 (4, 29 + ((k : Int)))) 8 (2, lan (lsr sd (5 * (t : Int))) 31), [(4, 29 + ((k : Int))), (2, 1), (2, lan (lsr sd (5 * (t : Int))) 31), (0, g 92 4), (4, 92)], g)) rfl
          dsimp only at h
          have h := zgf zy_91 h rfl rfl (dvf_29_2 (i := (k : Int)) (by omega) (by omega))
          dsimp only at h
          try rw [show (29 + ((k : Int))).toNat = 29 + k from by omega] at h
          try rw [hO.2.2.1] at h
          have h := zm zy_91 h 3 (q := (cond (crel .eq (csgn ((lan (lsr sd (5 * (t : Int))) 31) - (lsl 1 ((q : Int))))) 0) 155 151, dset (dset (dset (dset (dset (dset lf 6 (0, (k : Int))) 5 (0, li)) 3 (2, sd)) 0 (4, 92)) 7 (4, 29 + ((k : Int)))) 8 (2, lan (lsr sd (5 * (t : Int))) 31), [(0, g 92 4), (4, 92)], g)) rfl
          dsimp only at h
          rcases zif_eq h with ⟨hc16, h⟩ | ⟨hc16, h⟩
          · have h := zm zy_91 h 6 (q := (164, dset (dset (dset (dset (dset (dset lf 6 (0, (k : Int))) 5 (0, li)) 3 (2, sd)) 0 (4, 92)) 7 (4, 29 + ((k : Int)))) 8 (2, lan (lsr sd (5 * (t : Int))) 31), [(4, 29 + ((k : Int))), (2, 1), (2, sd)], cup g 92 4 (bor (g 92 4) 0))) rfl
            dsimp only at h
            have h := zgf zy_91 h rfl rfl (dvf_29_3 (i := (k : Int)) (by omega) (by omega))
            dsimp only at h
            try rw [show (29 + ((k : Int))).toNat = 29 + k from by omega] at h
            try rw [cup_ne (g := g) (k := 92) (j := 4) (k' := 29 + k) (j' := 3) (by omega)] at h
            try rw [hO.2.2.2.1] at h
            have h := zm zy_91 h 3 (q := (171, dset (dset (dset (dset (dset (dset lf 6 (0, (k : Int))) 5 (0, li)) 3 (2, sd)) 0 (4, 92)) 7 (4, 29 + ((k : Int)))) 8 (2, lan (lsr sd (5 * (t : Int))) 31), [(4, 29 + ((k : Int))), (0, w32 (((t : Int)) * 5)), (2, 1), (2, sd)], cup g 92 4 (bor (g 92 4) 0))) rfl
            dsimp only at h
            try rw [w32_eq (z := ((t : Int)) * 5) (v := 5 * (t : Int)) (by omega) (by omega) (by omega)] at h
            have h := zgf zy_91 h rfl rfl (dvf_29_2 (i := (k : Int)) (by omega) (by omega))
            dsimp only at h
            try rw [show (29 + ((k : Int))).toNat = 29 + k from by omega] at h
            try rw [cup_ne (g := g) (k := 92) (j := 4) (k' := 29 + k) (j' := 2) (by omega)] at h
            try rw [hO.2.2.1] at h
            have h := zm zy_91 h 8 (q := (186, dset (dset (dset (dset (dset (dset (dset lf 6 (0, (k : Int))) 5 (0, li)) 3 (2, sd)) 0 (4, 92)) 7 (4, 29 + ((k : Int)))) 8 (2, lan (lsr sd (5 * (t : Int))) 31)) 3 (2, lor sd (lsl 1 (w32 ((5 * (t : Int)) + ((q : Int)))))), [(4, 29 + ((k : Int))), (4, 3), (0, li)], cup g 92 4 (bor (g 92 4) 0))) rfl
            dsimp only at h
            try rw [w32_eq (z := (5 * (t : Int)) + ((q : Int))) (v := (q : Int) + 5 * (t : Int)) (by omega) (by omega) (by omega)] at h
            obtain ⟨gz17, rz18, hk, h⟩ := zcallI zy_91 h rfl rfl zy_88 zk_88
            dsimp only at hk h
            have hO19 := h
            have h := hk
            clear hk
            have h := zm zy_88 h 3 (q := (5, darg 0 [(4, 3), (4, 29 + ((k : Int)))], [(4, 29 + ((k : Int))), (4, 6)], cup g 92 4 (bor (g 92 4) 0))) rfl
            dsimp only at h
            have h := zgf zy_88 h rfl rfl (dvf_29_1 (i := (k : Int)) (by omega) (by omega))
            dsimp only at h
            try rw [show (29 + ((k : Int))).toNat = 29 + k from by omega] at h
            try rw [cup_ne (g := g) (k := 92) (j := 4) (k' := 29 + k) (j' := 1) (by omega)] at h
            try rw [hO.2.1] at h
            have h := zald zy_88 h rfl rfl (dvp_6 (i := (p : Int)) (by omega) (by omega))
            dsimp only at h
            have h := zgf zy_88 h rfl rfl (dvf_17_6 (i := (p : Int)) (by omega) (by omega))
            have h := zm zy_88 h 1 (q := (13, darg 0 [(4, 3), (4, 29 + ((k : Int)))], [(4, 29 + ((k : Int))), (4, 18 + 2 * ((p : Int)))], cup g 92 4 (bor (g 92 4) 0))) rfl
            dsimp only at h
            have h := zgf zy_88 h rfl rfl (dvf_29_3 (i := (k : Int)) (by omega) (by omega))
            dsimp only at h
            try rw [show (29 + ((k : Int))).toNat = 29 + k from by omega] at h
            try rw [cup_ne (g := g) (k := 92) (j := 4) (k' := 29 + k) (j' := 3) (by omega)] at h
            try rw [hO.2.2.2.1] at h
            have h := zald zy_88 h rfl rfl (dvr_18 (i := (p : Int)) (j := (t : Int)) (by omega) (by omega) (by omega) (by omega))
            dsimp only at h
            try rw [show (18 + 2 * ((p : Int))).toNat = 18 + 2 * p from by omega] at h
            try rw [show ((t : Int)).toNat = t from by omega] at h
            try rw [cup_ne (g := g) (k := 92) (j := 4) (k' := 18 + 2 * p) (j' := t) (by omega)] at h
            try rw [hv] at h
            have h := zm zy_88 h 1 (q := (18, darg 0 [(4, 3), (4, 29 + ((k : Int)))], [(4, 29 + ((k : Int))), (0, v)], cup g 92 4 (bor (g 92 4) 0))) rfl
            dsimp only at h
            have h := zgf zy_88 h rfl rfl (dvf_29_2 (i := (k : Int)) (by omega) (by omega))
            dsimp only at h
            try rw [show (29 + ((k : Int))).toNat = 29 + k from by omega] at h
            try rw [cup_ne (g := g) (k := 92) (j := 4) (k' := 29 + k) (j' := 2) (by omega)] at h
            try rw [hO.2.2.1] at h
            have h := zm zy_88 h 1 (q := (cond (crel .ne v ((q : Int))) 28 24, darg 0 [(4, 3), (4, 29 + ((k : Int)))], [], cup g 92 4 (bor (g 92 4) 0))) rfl
            dsimp only at h
            rcases zif_ne h with ⟨hc20, h⟩ | ⟨hc20, h⟩
            · have h := zm zy_88 h 1 (q := (29, darg 0 [(4, 3), (4, 29 + ((k : Int)))], [(0, 0)], cup g 92 4 (bor (g 92 4) 0))) rfl
              dsimp only at h
              have h := zret zy_88 h rfl rfl
              obtain ⟨e1, e2⟩ := oI h
              have h := hO19
              rw [e1, e2] at h
              clear e1 e2
              clear hO19
              have h := zm zy_91 h 3 (q := (199, dset (dset (dset (dset (dset (dset (dset lf 6 (0, (k : Int))) 5 (0, li)) 3 (2, sd)) 0 (4, 92)) 7 (4, 29 + ((k : Int)))) 8 (2, lan (lsr sd (5 * (t : Int))) 31)) 3 (2, lor sd (lsl 1 ((q : Int) + 5 * (t : Int)))), [(4, 29 + ((k : Int))), (0, 1), (0, li)], cup g 92 4 (bor (g 92 4) 0))) rfl
              dsimp only at h
              have h := zgf zy_91 h rfl rfl (dvf_29_0 (i := (k : Int)) (by omega) (by omega))
              dsimp only at h
              try rw [show (29 + ((k : Int))).toNat = 29 + k from by omega] at h
              try rw [cup_ne (g := g) (k := 92) (j := 4) (k' := 29 + k) (j' := 0) (by omega)] at h
              try rw [hO.1] at h
              have h := zm zy_91 h 5 (q := (209, dset (dset (dset (dset (dset (dset (dset (dset lf 6 (0, (k : Int))) 5 (0, li)) 3 (2, sd)) 0 (4, 92)) 7 (4, 29 + ((k : Int)))) 8 (2, lan (lsr sd (5 * (t : Int))) 31)) 3 (2, lor sd (lsl 1 ((q : Int) + 5 * (t : Int))))) 5 (0, bor li (bsl 1 ((w : Int)))), [(4, 29 + ((k : Int))), (4, 92)], cup g 92 4 (bor (g 92 4) 0))) rfl
              dsimp only at h
              obtain ⟨g_1, hk, h⟩ := zcallV zy_91 h rfl rfl zy_93 zk_93
              dsimp only at hk h
              refine Or.inr (Or.inl (⟨Or.inr (⟨hc5, hc7, hc9, hc16, hc20⟩), ?_⟩))
              refine ⟨g_1, hk, ?_⟩
              have h := zm zy_91 h 2 (q := (75, dset (dset (dset (dset (dset (dset (dset (dset (dset lf 6 (0, (k : Int))) 5 (0, li)) 3 (2, sd)) 0 (4, 92)) 7 (4, 29 + ((k : Int)))) 8 (2, lan (lsr sd (5 * (t : Int))) 31)) 3 (2, lor sd (lsl 1 ((q : Int) + 5 * (t : Int))))) 5 (0, bor li (bsl 1 ((w : Int))))) 6 (0, w32 (((k : Int)) + 1)), [], g_1)) rfl
              dsimp only at h
              try rw [w32_eq (z := ((k : Int)) + 1) (v := 1 + (k : Int)) (by omega) (by omega) (by omega)] at h
              exact ⟨_, rfl, rfl, rfl, rfl, h⟩
            · have h := zm zy_88 h 2 (q := (29, darg 0 [(4, 3), (4, 29 + ((k : Int)))], [(0, 1)], cup g 92 4 (bor (g 92 4) 0))) rfl
              dsimp only at h
              have h := zret zy_88 h rfl rfl
              obtain ⟨e1, e2⟩ := oI h
              have h := hO19
              rw [e1, e2] at h
              clear e1 e2
              clear hO19
              have h := zm zy_91 h 7 (q := (209, dset (dset (dset (dset (dset (dset (dset (dset lf 6 (0, (k : Int))) 5 (0, li)) 3 (2, sd)) 0 (4, 92)) 7 (4, 29 + ((k : Int)))) 8 (2, lan (lsr sd (5 * (t : Int))) 31)) 3 (2, lor sd (lsl 1 ((q : Int) + 5 * (t : Int))))) 5 (0, bor li 0), [(4, 29 + ((k : Int))), (4, 92)], cup g 92 4 (bor (g 92 4) 0))) rfl
              dsimp only at h
              obtain ⟨g_1, hk, h⟩ := zcallV zy_91 h rfl rfl zy_93 zk_93
              dsimp only at hk h
              refine Or.inr (Or.inr (Or.inl (⟨Or.inr (⟨hc5, hc7, hc9, hc16, hc20⟩), ?_⟩)))
              refine ⟨g_1, hk, ?_⟩
              have h := zm zy_91 h 2 (q := (75, dset (dset (dset (dset (dset (dset (dset (dset (dset lf 6 (0, (k : Int))) 5 (0, li)) 3 (2, sd)) 0 (4, 92)) 7 (4, 29 + ((k : Int)))) 8 (2, lan (lsr sd (5 * (t : Int))) 31)) 3 (2, lor sd (lsl 1 ((q : Int) + 5 * (t : Int))))) 5 (0, bor li 0)) 6 (0, w32 (((k : Int)) + 1)), [], g_1)) rfl
              dsimp only at h
              try rw [w32_eq (z := ((k : Int)) + 1) (v := 1 + (k : Int)) (by omega) (by omega) (by omega)] at h
              exact ⟨_, rfl, rfl, rfl, rfl, h⟩
          · have h := zm zy_91 h 7 (q := (164, dset (dset (dset (dset (dset (dset lf 6 (0, (k : Int))) 5 (0, li)) 3 (2, sd)) 0 (4, 92)) 7 (4, 29 + ((k : Int)))) 8 (2, lan (lsr sd (5 * (t : Int))) 31), [(4, 29 + ((k : Int))), (2, 1), (2, sd)], cup g 92 4 (bor (g 92 4) 1))) rfl
            dsimp only at h
            have h := zgf zy_91 h rfl rfl (dvf_29_3 (i := (k : Int)) (by omega) (by omega))
            dsimp only at h
            try rw [show (29 + ((k : Int))).toNat = 29 + k from by omega] at h
            try rw [cup_ne (g := g) (k := 92) (j := 4) (k' := 29 + k) (j' := 3) (by omega)] at h
            try rw [hO.2.2.2.1] at h
            have h := zm zy_91 h 3 (q := (171, dset (dset (dset (dset (dset (dset lf 6 (0, (k : Int))) 5 (0, li)) 3 (2, sd)) 0 (4, 92)) 7 (4, 29 + ((k : Int)))) 8 (2, lan (lsr sd (5 * (t : Int))) 31), [(4, 29 + ((k : Int))), (0, w32 (((t : Int)) * 5)), (2, 1), (2, sd)], cup g 92 4 (bor (g 92 4) 1))) rfl
            dsimp only at h
            try rw [w32_eq (z := ((t : Int)) * 5) (v := 5 * (t : Int)) (by omega) (by omega) (by omega)] at h
            have h := zgf zy_91 h rfl rfl (dvf_29_2 (i := (k : Int)) (by omega) (by omega))
            dsimp only at h
            try rw [show (29 + ((k : Int))).toNat = 29 + k from by omega] at h
            try rw [cup_ne (g := g) (k := 92) (j := 4) (k' := 29 + k) (j' := 2) (by omega)] at h
            try rw [hO.2.2.1] at h
            have h := zm zy_91 h 8 (q := (186, dset (dset (dset (dset (dset (dset (dset lf 6 (0, (k : Int))) 5 (0, li)) 3 (2, sd)) 0 (4, 92)) 7 (4, 29 + ((k : Int)))) 8 (2, lan (lsr sd (5 * (t : Int))) 31)) 3 (2, lor sd (lsl 1 (w32 ((5 * (t : Int)) + ((q : Int)))))), [(4, 29 + ((k : Int))), (4, 3), (0, li)], cup g 92 4 (bor (g 92 4) 1))) rfl
            dsimp only at h
            try rw [w32_eq (z := (5 * (t : Int)) + ((q : Int))) (v := (q : Int) + 5 * (t : Int)) (by omega) (by omega) (by omega)] at h
            obtain ⟨gz23, rz24, hk, h⟩ := zcallI zy_91 h rfl rfl zy_88 zk_88
            dsimp only at hk h
            have hO25 := h
            have h := hk
            clear hk
            have h := zm zy_88 h 3 (q := (5, darg 0 [(4, 3), (4, 29 + ((k : Int)))], [(4, 29 + ((k : Int))), (4, 6)], cup g 92 4 (bor (g 92 4) 1))) rfl
            dsimp only at h
            have h := zgf zy_88 h rfl rfl (dvf_29_1 (i := (k : Int)) (by omega) (by omega))
            dsimp only at h
            try rw [show (29 + ((k : Int))).toNat = 29 + k from by omega] at h
            try rw [cup_ne (g := g) (k := 92) (j := 4) (k' := 29 + k) (j' := 1) (by omega)] at h
            try rw [hO.2.1] at h
            have h := zald zy_88 h rfl rfl (dvp_6 (i := (p : Int)) (by omega) (by omega))
            dsimp only at h
            have h := zgf zy_88 h rfl rfl (dvf_17_6 (i := (p : Int)) (by omega) (by omega))
            have h := zm zy_88 h 1 (q := (13, darg 0 [(4, 3), (4, 29 + ((k : Int)))], [(4, 29 + ((k : Int))), (4, 18 + 2 * ((p : Int)))], cup g 92 4 (bor (g 92 4) 1))) rfl
            dsimp only at h
            have h := zgf zy_88 h rfl rfl (dvf_29_3 (i := (k : Int)) (by omega) (by omega))
            dsimp only at h
            try rw [show (29 + ((k : Int))).toNat = 29 + k from by omega] at h
            try rw [cup_ne (g := g) (k := 92) (j := 4) (k' := 29 + k) (j' := 3) (by omega)] at h
            try rw [hO.2.2.2.1] at h
            have h := zald zy_88 h rfl rfl (dvr_18 (i := (p : Int)) (j := (t : Int)) (by omega) (by omega) (by omega) (by omega))
            dsimp only at h
            try rw [show (18 + 2 * ((p : Int))).toNat = 18 + 2 * p from by omega] at h
            try rw [show ((t : Int)).toNat = t from by omega] at h
            try rw [cup_ne (g := g) (k := 92) (j := 4) (k' := 18 + 2 * p) (j' := t) (by omega)] at h
            try rw [hv] at h
            have h := zm zy_88 h 1 (q := (18, darg 0 [(4, 3), (4, 29 + ((k : Int)))], [(4, 29 + ((k : Int))), (0, v)], cup g 92 4 (bor (g 92 4) 1))) rfl
            dsimp only at h
            have h := zgf zy_88 h rfl rfl (dvf_29_2 (i := (k : Int)) (by omega) (by omega))
            dsimp only at h
            try rw [show (29 + ((k : Int))).toNat = 29 + k from by omega] at h
            try rw [cup_ne (g := g) (k := 92) (j := 4) (k' := 29 + k) (j' := 2) (by omega)] at h
            try rw [hO.2.2.1] at h
            have h := zm zy_88 h 1 (q := (cond (crel .ne v ((q : Int))) 28 24, darg 0 [(4, 3), (4, 29 + ((k : Int)))], [], cup g 92 4 (bor (g 92 4) 1))) rfl
            dsimp only at h
            rcases zif_ne h with ⟨hc26, h⟩ | ⟨hc26, h⟩
            · have h := zm zy_88 h 1 (q := (29, darg 0 [(4, 3), (4, 29 + ((k : Int)))], [(0, 0)], cup g 92 4 (bor (g 92 4) 1))) rfl
              dsimp only at h
              have h := zret zy_88 h rfl rfl
              obtain ⟨e1, e2⟩ := oI h
              have h := hO25
              rw [e1, e2] at h
              clear e1 e2
              clear hO25
              have h := zm zy_91 h 3 (q := (199, dset (dset (dset (dset (dset (dset (dset lf 6 (0, (k : Int))) 5 (0, li)) 3 (2, sd)) 0 (4, 92)) 7 (4, 29 + ((k : Int)))) 8 (2, lan (lsr sd (5 * (t : Int))) 31)) 3 (2, lor sd (lsl 1 ((q : Int) + 5 * (t : Int)))), [(4, 29 + ((k : Int))), (0, 1), (0, li)], cup g 92 4 (bor (g 92 4) 1))) rfl
              dsimp only at h
              have h := zgf zy_91 h rfl rfl (dvf_29_0 (i := (k : Int)) (by omega) (by omega))
              dsimp only at h
              try rw [show (29 + ((k : Int))).toNat = 29 + k from by omega] at h
              try rw [cup_ne (g := g) (k := 92) (j := 4) (k' := 29 + k) (j' := 0) (by omega)] at h
              try rw [hO.1] at h
              have h := zm zy_91 h 5 (q := (209, dset (dset (dset (dset (dset (dset (dset (dset lf 6 (0, (k : Int))) 5 (0, li)) 3 (2, sd)) 0 (4, 92)) 7 (4, 29 + ((k : Int)))) 8 (2, lan (lsr sd (5 * (t : Int))) 31)) 3 (2, lor sd (lsl 1 ((q : Int) + 5 * (t : Int))))) 5 (0, bor li (bsl 1 ((w : Int)))), [(4, 29 + ((k : Int))), (4, 92)], cup g 92 4 (bor (g 92 4) 1))) rfl
              dsimp only at h
              obtain ⟨g_1, hk, h⟩ := zcallV zy_91 h rfl rfl zy_93 zk_93
              dsimp only at hk h
              refine Or.inr (Or.inr (Or.inr (Or.inl (⟨⟨hc5, hc7, hc9, hc16, hc26⟩, ?_⟩))))
              refine ⟨g_1, hk, ?_⟩
              have h := zm zy_91 h 2 (q := (75, dset (dset (dset (dset (dset (dset (dset (dset (dset lf 6 (0, (k : Int))) 5 (0, li)) 3 (2, sd)) 0 (4, 92)) 7 (4, 29 + ((k : Int)))) 8 (2, lan (lsr sd (5 * (t : Int))) 31)) 3 (2, lor sd (lsl 1 ((q : Int) + 5 * (t : Int))))) 5 (0, bor li (bsl 1 ((w : Int))))) 6 (0, w32 (((k : Int)) + 1)), [], g_1)) rfl
              dsimp only at h
              try rw [w32_eq (z := ((k : Int)) + 1) (v := 1 + (k : Int)) (by omega) (by omega) (by omega)] at h
              exact ⟨_, rfl, rfl, rfl, rfl, h⟩
            · have h := zm zy_88 h 2 (q := (29, darg 0 [(4, 3), (4, 29 + ((k : Int)))], [(0, 1)], cup g 92 4 (bor (g 92 4) 1))) rfl
              dsimp only at h
              have h := zret zy_88 h rfl rfl
              obtain ⟨e1, e2⟩ := oI h
              have h := hO25
              rw [e1, e2] at h
              clear e1 e2
              clear hO25
              have h := zm zy_91 h 7 (q := (209, dset (dset (dset (dset (dset (dset (dset (dset lf 6 (0, (k : Int))) 5 (0, li)) 3 (2, sd)) 0 (4, 92)) 7 (4, 29 + ((k : Int)))) 8 (2, lan (lsr sd (5 * (t : Int))) 31)) 3 (2, lor sd (lsl 1 ((q : Int) + 5 * (t : Int))))) 5 (0, bor li 0), [(4, 29 + ((k : Int))), (4, 92)], cup g 92 4 (bor (g 92 4) 1))) rfl
              dsimp only at h
              obtain ⟨g_1, hk, h⟩ := zcallV zy_91 h rfl rfl zy_93 zk_93
              dsimp only at hk h
              refine Or.inr (Or.inr (Or.inr (Or.inr (⟨⟨hc5, hc7, hc9, hc16, hc26⟩, ?_⟩))))
              refine ⟨g_1, hk, ?_⟩
              have h := zm zy_91 h 2 (q := (75, dset (dset (dset (dset (dset (dset (dset (dset (dset lf 6 (0, (k : Int))) 5 (0, li)) 3 (2, sd)) 0 (4, 92)) 7 (4, 29 + ((k : Int)))) 8 (2, lan (lsr sd (5 * (t : Int))) 31)) 3 (2, lor sd (lsl 1 ((q : Int) + 5 * (t : Int))))) 5 (0, bor li 0)) 6 (0, w32 (((k : Int)) + 1)), [], g_1)) rfl
              dsimp only at h
              try rw [w32_eq (z := ((k : Int)) + 1) (v := 1 + (k : Int)) (by omega) (by omega) (by omega)] at h
              exact ⟨_, rfl, rfl, rfl, rfl, h⟩
theorem t_ask75e_92 {sv : Nat → Int32} {L n : Nat} {lf : dlf} {g : cg} {o : cg × Option cv} {W P k N : Nat} {sd li fr : Int} (rW : W ≤ 5) (rP : P ≤ 5) (rk : k ≤ 16) (rN : N ≤ 16) (hN : g 3 9 = (N : Int)) (hW : g 92 1 = (W : Int)) (hQ : g 92 2 = (P : Int)) (hfr : g (17 + 2 * W) 5 = fr) (hge : N ≤ k) (h : zr sv L (n + 1) 91 75 lf [] g o) (hl0 : lf 0 = (4, 92)) (hl3 : lf 3 = (2, sd)) (hl5 : lf 5 = (0, li)) (hl6 : lf 6 = (0, (k : Int))) : ((ban fr li = 0) ∧ (o = (cup g 92 5 0, none))) ∨ ((ban fr li ≠ 0) ∧ (o = (cup g 92 5 1, none))) := by
  rw [zov hl0, zov hl3, zov hl5, zov hl6] at h
  have h := zm1 zy_91 h 4 (q := (cond (crel .ge ((k : Int)) (g 3 9)) 218 87, dset (dset (dset (dset lf 6 (0, (k : Int))) 5 (0, li)) 3 (2, sd)) 0 (4, 92), [], g)) rfl
  dsimp only at h
  try rw [hN] at h
  rcases zif_ge h with ⟨hc1, h⟩ | ⟨hc1, h⟩
  · have h := zm zy_91 h 6 (q := (230, dset (dset (dset (dset lf 6 (0, (k : Int))) 5 (0, li)) 3 (2, sd)) 0 (4, 92), [(0, g 92 1), (4, 6), (4, 92)], g)) rfl
    dsimp only at h
    try rw [hW] at h
    have h := zald zy_91 h rfl rfl (dvp_6 (i := (W : Int)) (by omega) (by omega))
    dsimp only at h
    have h := zgf zy_91 h rfl rfl (dvf_17_5 (i := (W : Int)) (by omega) (by omega))
    dsimp only at h
    try rw [show (17 + 2 * ((W : Int))).toNat = 17 + 2 * W from by omega] at h
    try rw [hfr] at h
    have h := zm zy_91 h 3 (q := (cond (crel .eq (ban fr li) 0) 244 240, dset (dset (dset (dset lf 6 (0, (k : Int))) 5 (0, li)) 3 (2, sd)) 0 (4, 92), [(4, 92)], g)) rfl
    dsimp only at h
    rcases zif_eq h with ⟨hc2, h⟩ | ⟨hc2, h⟩
    · have h := zm zy_91 h 2 (q := (248, dset (dset (dset (dset lf 6 (0, (k : Int))) 5 (0, li)) 3 (2, sd)) 0 (4, 92), [], cup g 92 5 0)) rfl
      dsimp only at h
      refine Or.inl (⟨hc2, ?_⟩)
      exact zret zy_91 h rfl rfl
    · have h := zm zy_91 h 3 (q := (248, dset (dset (dset (dset lf 6 (0, (k : Int))) 5 (0, li)) 3 (2, sd)) 0 (4, 92), [], cup g 92 5 1)) rfl
      dsimp only at h
      refine Or.inr (⟨hc2, ?_⟩)
      exact zret zy_91 h rfl rfl
  · exact absurd hc1 (by omega)
theorem t_hear_92 {sv : Nat → Int32} {L n : Nat} {lf : dlf} {g : cg} {o : cg × Option cv} {W P w p q t k x y : Nat} {f s b tw : Int} (rW : W ≤ 5) (rP : P ≤ 5) (rw : w ≤ 5) (rp : p ≤ 5) (rq : q ≤ 4) (rt : t ≤ 7) (rk : k ≤ 15) (rx : x ≤ 15) (ry : y ≤ 15) (hW : g 92 1 = (W : Int)) (hQ : g 92 2 = (P : Int)) (hO : OHC g k w p q t f s b) (htw : g (17 + 2 * W) 4 = tw) (hx : g 93 t = (x : Int)) (hy : g 94 (q + 5 * t) = (y : Int)) (h : zr sv L n 93 0 lf [] g o) (hl0 : lf 0 = (4, 92)) (hl1 : lf 1 = (4, 29 + ((k : Int)))) : (((w : Int) ≠ (W : Int) ∧ (w : Int) ≠ tw) ∧ (o = (cup (cup g 93 t (1 + (x : Int))) 94 (q + 5 * t) (1 + (y : Int)), none))) ∨ (((w : Int) ≠ (W : Int) ∧ (w : Int) = tw) ∧ (o = (cup (cup (cup g 93 t (1 + (x : Int))) 94 (q + 5 * t) (1 + (y : Int))) 92 8 (lor (g 92 8) (lsl 1 ((q : Int) + 5 * (t : Int)))), none))) ∨ (((w : Int) = (W : Int)) ∧ (o = (cup g 92 3 (bor (g 92 3) (bsl 1 ((t : Int)))), none))) := by
  rw [zov hl0, zov hl1] at h
  have h := zm zy_93 h 1 (q := (1, dset (dset lf 1 (4, 29 + ((k : Int)))) 0 (4, 92), [(4, 29 + ((k : Int)))], g)) rfl
  dsimp only at h
  have h := zgf zy_93 h rfl rfl (dvf_29_0 (i := (k : Int)) (by omega) (by omega))
  dsimp only at h
  try rw [show (29 + ((k : Int))).toNat = 29 + k from by omega] at h
  try rw [hO.1] at h
  have h := zm zy_93 h 3 (q := (cond (crel .ne ((w : Int)) (g 92 1)) 27 11, dset (dset lf 1 (4, 29 + ((k : Int)))) 0 (4, 92), [], g)) rfl
  dsimp only at h
  try rw [hW] at h
  rcases zif_ne h with ⟨hc1, h⟩ | ⟨hc1, h⟩
  · have h := zm zy_93 h 1 (q := (28, dset (dset lf 1 (4, 29 + ((k : Int)))) 0 (4, 92), [(4, 29 + ((k : Int)))], g)) rfl
    dsimp only at h
    have h := zgf zy_93 h rfl rfl (dvf_29_3 (i := (k : Int)) (by omega) (by omega))
    dsimp only at h
    try rw [show (29 + ((k : Int))).toNat = 29 + k from by omega] at h
    try rw [hO.2.2.2.1] at h
    have h := zm zy_93 h 3 (q := (34, dset (dset lf 1 (4, 29 + ((k : Int)))) 0 (4, 92), [(4, 29 + ((k : Int))), (0, w32 (((t : Int)) * 5))], g)) rfl
    dsimp only at h
    try rw [w32_eq (z := ((t : Int)) * 5) (v := 5 * (t : Int)) (by omega) (by omega) (by omega)] at h
    have h := zgf zy_93 h rfl rfl (dvf_29_2 (i := (k : Int)) (by omega) (by omega))
    dsimp only at h
    try rw [show (29 + ((k : Int))).toNat = 29 + k from by omega] at h
    try rw [hO.2.2.1] at h
    have h := zm zy_93 h 5 (q := (44, dset (dset (dset lf 1 (4, 29 + ((k : Int)))) 0 (4, 92)) 2 (0, w32 ((5 * (t : Int)) + ((q : Int)))), [(4, 29 + ((k : Int))), (4, 93)], g)) rfl
    dsimp only at h
    try rw [w32_eq (z := (5 * (t : Int)) + ((q : Int))) (v := (q : Int) + 5 * (t : Int)) (by omega) (by omega) (by omega)] at h
    have h := zgf zy_93 h rfl rfl (dvf_29_3 (i := (k : Int)) (by omega) (by omega))
    dsimp only at h
    try rw [show (29 + ((k : Int))).toNat = 29 + k from by omega] at h
    try rw [hO.2.2.2.1] at h
    have h := zm zy_93 h 1 (q := (48, dset (dset (dset lf 1 (4, 29 + ((k : Int)))) 0 (4, 92)) 2 (0, (q : Int) + 5 * (t : Int)), [(0, (t : Int)), (4, 93), (0, (t : Int)), (4, 93)], g)) rfl
    dsimp only at h
    have h := zald zy_93 h rfl rfl (dvb_93 (i := (t : Int)) (by omega) (by omega))
    dsimp only at h
    try rw [show ((t : Int)).toNat = t from by omega] at h
    try rw [hx] at h
    have h := zm zy_93 h 7 (q := (58, dset (dset (dset lf 1 (4, 29 + ((k : Int)))) 0 (4, 92)) 2 (0, (q : Int) + 5 * (t : Int)), [(0, (q : Int) + 5 * (t : Int)), (4, 94), (0, (q : Int) + 5 * (t : Int)), (4, 94)], cup g 93 (((t : Int)).toNat) (w32 (((x : Int)) + 1)))) rfl
    dsimp only at h
    try rw [show ((t : Int)).toNat = t from by omega] at h
    try rw [w32_eq (z := ((x : Int)) + 1) (v := 1 + (x : Int)) (by omega) (by omega) (by omega)] at h
    have h := zald zy_93 h rfl rfl (dvb_94 (i := (q : Int) + 5 * (t : Int)) (by omega) (by omega))
    dsimp only at h
    try rw [show ((q : Int) + 5 * (t : Int)).toNat = q + 5 * t from by omega] at h
    try rw [cup_ne (g := g) (k := 93) (j := t) (k' := 94) (j' := q + 5 * t) (by omega)] at h
    try rw [hy] at h
    have h := zm zy_93 h 4 (q := (63, dset (dset (dset lf 1 (4, 29 + ((k : Int)))) 0 (4, 92)) 2 (0, (q : Int) + 5 * (t : Int)), [(4, 29 + ((k : Int)))], cup (cup g 93 t (1 + (x : Int))) 94 (((q : Int) + 5 * (t : Int)).toNat) (w32 (((y : Int)) + 1)))) rfl
    dsimp only at h
    try rw [show ((q : Int) + 5 * (t : Int)).toNat = q + 5 * t from by omega] at h
    try rw [w32_eq (z := ((y : Int)) + 1) (v := 1 + (y : Int)) (by omega) (by omega) (by omega)] at h
    have h := zgf zy_93 h rfl rfl (dvf_29_0 (i := (k : Int)) (by omega) (by omega))
    dsimp only at h
    try rw [show (29 + ((k : Int))).toNat = 29 + k from by omega] at h
    try rw [cup_ne (g := cup g 93 t (1 + (x : Int))) (k := 94) (j := q + 5 * t) (k' := 29 + k) (j' := 0) (by omega)] at h
    try rw [cup_ne (g := g) (k := 93) (j := t) (k' := 29 + k) (j' := 0) (by omega)] at h
    try rw [hO.1] at h
    have h := zm zy_93 h 5 (q := (77, dset (dset (dset lf 1 (4, 29 + ((k : Int)))) 0 (4, 92)) 2 (0, (q : Int) + 5 * (t : Int)), [(0, g 92 1), (4, 6), (0, (w : Int))], cup (cup g 93 t (1 + (x : Int))) 94 (q + 5 * t) (1 + (y : Int)))) rfl
    dsimp only at h
    try rw [hW] at h
    have h := zald zy_93 h rfl rfl (dvp_6 (i := (W : Int)) (by omega) (by omega))
    dsimp only at h
    have h := zgf zy_93 h rfl rfl (dvf_17_4 (i := (W : Int)) (by omega) (by omega))
    dsimp only at h
    try rw [show (17 + 2 * ((W : Int))).toNat = 17 + 2 * W from by omega] at h
    try rw [cup_ne (g := cup g 93 t (1 + (x : Int))) (k := 94) (j := q + 5 * t) (k' := 17 + 2 * W) (j' := 4) (by omega)] at h
    try rw [cup_ne (g := g) (k := 93) (j := t) (k' := 17 + 2 * W) (j' := 4) (by omega)] at h
    try rw [htw] at h
    have h := zm zy_93 h 1 (q := (cond (crel .ne ((w : Int)) tw) 96 84, dset (dset (dset lf 1 (4, 29 + ((k : Int)))) 0 (4, 92)) 2 (0, (q : Int) + 5 * (t : Int)), [], cup (cup g 93 t (1 + (x : Int))) 94 (q + 5 * t) (1 + (y : Int)))) rfl
    dsimp only at h
    rcases zif_ne h with ⟨hc2, h⟩ | ⟨hc2, h⟩
    · refine Or.inl (⟨⟨hc1, hc2⟩, ?_⟩)
      exact zret zy_93 h rfl rfl
    · have h := zm zy_93 h 8 (q := (96, dset (dset (dset lf 1 (4, 29 + ((k : Int)))) 0 (4, 92)) 2 (0, (q : Int) + 5 * (t : Int)), [], cup (cup (cup g 93 t (1 + (x : Int))) 94 (q + 5 * t) (1 + (y : Int))) 92 8 (lor (g 92 8) (lsl 1 ((q : Int) + 5 * (t : Int)))))) rfl
      dsimp only at h
      refine Or.inr (Or.inl (⟨⟨hc1, hc2⟩, ?_⟩))
      exact zret zy_93 h rfl rfl
  · have h := zm zy_93 h 5 (q := (18, dset (dset lf 1 (4, 29 + ((k : Int)))) 0 (4, 92), [(4, 29 + ((k : Int))), (0, 1), (0, g 92 3), (4, 92)], g)) rfl
    dsimp only at h
    have h := zgf zy_93 h rfl rfl (dvf_29_3 (i := (k : Int)) (by omega) (by omega))
    dsimp only at h
    try rw [show (29 + ((k : Int))).toNat = 29 + k from by omega] at h
    try rw [hO.2.2.2.1] at h
    have h := zm zy_93 h 3 (q := (26, dset (dset lf 1 (4, 29 + ((k : Int)))) 0 (4, 92), [], cup g 92 3 (bor (g 92 3) (bsl 1 ((t : Int)))))) rfl
    dsimp only at h
    refine Or.inr (Or.inr (⟨hc1, ?_⟩))
    exact zret zy_93 h rfl rfl
theorem t_price_92 {sv : Nat → Int32} {L n : Nat} {lf : dlf} {g : cg} {o : cg × Option cv} {W P Q T x y : Nat} {bi v : Int} (rW : W ≤ 5) (rP : P ≤ 5) (rQ : Q ≤ 4) (rT : T ≤ 7) (rx : x ≤ 16) (ry : y ≤ 16) (hW : g 92 1 = (W : Int)) (hQ : g 92 2 = (P : Int)) (hv : g (18 + 2 * P) T = v) (hx : g 93 T = (x : Int)) (hy : g 94 (Q + 5 * T) = (y : Int)) (hbi : g (17 + 2 * W) 3 = bi) (h : zr sv L n 96 0 lf [] g o) (hl0 : lf 0 = (4, 92)) (hl1 : lf 1 = (0, (Q : Int))) (hl2 : lf 2 = (0, (T : Int))) : (((bi ≠ 0) ∨ (bi = 0 ∧ v = (Q : Int))) ∧ (o = (g, some (0, 0)))) ∨ ((bi = 0 ∧ v ≠ (Q : Int) ∧ csgn ((lan (lsr (g 92 8) ((Q : Int) + 5 * (T : Int))) 1) - 0) = 0) ∧ (o = (g, some (0, w32 ((g 3 5) + (w32 ((g 3 6) * ((x : Int) - (y : Int))))))))) ∨ ((bi = 0 ∧ v ≠ (Q : Int) ∧ csgn ((lan (lsr (g 92 8) ((Q : Int) + 5 * (T : Int))) 1) - 0) ≠ 0) ∧ (o = (g, some (0, qdi (w32 ((w32 ((g 3 5) + (w32 ((g 3 6) * ((x : Int) - (y : Int)))))) + 1)) 2)))) := by
  rw [zov hl0, zov hl1, zov hl2] at h
  have h := zm zy_96 h 5 (q := (11, dset (dset (dset lf 2 (0, (T : Int))) 1 (0, (Q : Int))) 0 (4, 92), [(0, g 92 1), (4, 6)], g)) rfl
  dsimp only at h
  try rw [hW] at h
  have h := zald zy_96 h rfl rfl (dvp_6 (i := (W : Int)) (by omega) (by omega))
  dsimp only at h
  have h := zgf zy_96 h rfl rfl (dvf_17_3 (i := (W : Int)) (by omega) (by omega))
  dsimp only at h
  try rw [show (17 + 2 * ((W : Int))).toNat = 17 + 2 * W from by omega] at h
  try rw [hbi] at h
  have h := zm zy_96 h 1 (q := (cond (crel .ne bi 0) 34 18, dset (dset (dset lf 2 (0, (T : Int))) 1 (0, (Q : Int))) 0 (4, 92), [], g)) rfl
  dsimp only at h
  rcases zif_ne h with ⟨hc1, h⟩ | ⟨hc1, h⟩
  · have h := zm zy_96 h 1 (q := (35, dset (dset (dset lf 2 (0, (T : Int))) 1 (0, (Q : Int))) 0 (4, 92), [(0, 0)], g)) rfl
    dsimp only at h
    refine Or.inl (⟨Or.inl (hc1), ?_⟩)
    exact zret zy_96 h rfl rfl
  · have h := zm zy_96 h 6 (q := (28, dset (dset (dset lf 2 (0, (T : Int))) 1 (0, (Q : Int))) 0 (4, 92), [(0, (T : Int)), (0, (Q : Int)), (0, g 92 2), (4, 3)], g)) rfl
    dsimp only at h
    try rw [hQ] at h
    obtain ⟨gz2, rz3, hk, h⟩ := zcallI zy_96 h rfl rfl zy_95 zk_95
    dsimp only at hk h
    have hO4 := h
    have h := hk
    clear hk
    have h := zm zy_95 h 3 (q := (5, darg 0 [(4, 3), (0, (P : Int)), (0, (Q : Int)), (0, (T : Int))], [(0, (P : Int)), (4, 6)], g)) rfl
    dsimp only at h
    have h := zald zy_95 h rfl rfl (dvp_6 (i := (P : Int)) (by omega) (by omega))
    dsimp only at h
    have h := zgf zy_95 h rfl rfl (dvf_17_6 (i := (P : Int)) (by omega) (by omega))
    have h := zm zy_95 h 1 (q := (10, darg 0 [(4, 3), (0, (P : Int)), (0, (Q : Int)), (0, (T : Int))], [(0, (T : Int)), (4, 18 + 2 * ((P : Int)))], g)) rfl
    dsimp only at h
    have h := zald zy_95 h rfl rfl (dvr_18 (i := (P : Int)) (j := (T : Int)) (by omega) (by omega) (by omega) (by omega))
    dsimp only at h
    try rw [show (18 + 2 * ((P : Int))).toNat = 18 + 2 * P from by omega] at h
    try rw [show ((T : Int)).toNat = T from by omega] at h
    try rw [hv] at h
    have h := zm zy_95 h 2 (q := (cond (crel .ne v ((Q : Int))) 19 15, darg 0 [(4, 3), (0, (P : Int)), (0, (Q : Int)), (0, (T : Int))], [], g)) rfl
    dsimp only at h
    rcases zif_ne h with ⟨hc5, h⟩ | ⟨hc5, h⟩
    · have h := zm zy_95 h 1 (q := (20, darg 0 [(4, 3), (0, (P : Int)), (0, (Q : Int)), (0, (T : Int))], [(0, 0)], g)) rfl
      dsimp only at h
      have h := zret zy_95 h rfl rfl
      obtain ⟨e1, e2⟩ := oI h
      have h := hO4
      rw [e1, e2] at h
      clear e1 e2
      clear hO4
      have h := zm zy_96 h 10 (q := (53, dset (dset (dset lf 2 (0, (T : Int))) 1 (0, (Q : Int))) 0 (4, 92), [(0, (T : Int)), (0, (Q : Int)), (4, 92), (0, g 3 6), (0, g 3 5)], g)) rfl
      dsimp only at h
      obtain ⟨gz6, rz7, hk, h⟩ := zcallI zy_96 h rfl rfl zy_97 zk_97
      dsimp only at hk h
      have hO8 := h
      have h := hk
      clear hk
      have h := zm zy_97 h 3 (q := (5, darg 0 [(4, 92), (0, (Q : Int)), (0, (T : Int))], [(0, (T : Int)), (4, 93)], g)) rfl
      dsimp only at h
      have h := zald zy_97 h rfl rfl (dvb_93 (i := (T : Int)) (by omega) (by omega))
      dsimp only at h
      try rw [show ((T : Int)).toNat = T from by omega] at h
      try rw [hx] at h
      have h := zm zy_97 h 7 (q := (15, darg 0 [(4, 92), (0, (Q : Int)), (0, (T : Int))], [(0, w32 ((w32 (((T : Int)) * 5)) + ((Q : Int)))), (4, 94), (0, (x : Int))], g)) rfl
      dsimp only at h
      try rw [w32_eq (z := ((T : Int)) * 5) (v := 5 * (T : Int)) (by omega) (by omega) (by omega)] at h
      try rw [w32_eq (z := (5 * (T : Int)) + ((Q : Int))) (v := (Q : Int) + 5 * (T : Int)) (by omega) (by omega) (by omega)] at h
      have h := zald zy_97 h rfl rfl (dvb_94 (i := (Q : Int) + 5 * (T : Int)) (by omega) (by omega))
      dsimp only at h
      try rw [show ((Q : Int) + 5 * (T : Int)).toNat = Q + 5 * T from by omega] at h
      try rw [hy] at h
      have h := zm zy_97 h 1 (q := (17, darg 0 [(4, 92), (0, (Q : Int)), (0, (T : Int))], [(0, w32 (((x : Int)) - ((y : Int))))], g)) rfl
      dsimp only at h
      try rw [w32_eq (z := ((x : Int)) - ((y : Int))) (v := (x : Int) - (y : Int)) (by omega) (by omega) (by omega)] at h
      have h := zret zy_97 h rfl rfl
      obtain ⟨e1, e2⟩ := oI h
      have h := hO8
      rw [e1, e2] at h
      clear e1 e2
      clear hO8
      have h := zm zy_96 h 16 (q := (cond (crel .eq (csgn ((lan (lsr (g 92 8) (w32 ((w32 (((T : Int)) * 5)) + ((Q : Int))))) 1) - 0)) 0) 80 76, dset (dset (dset (dset lf 2 (0, (T : Int))) 1 (0, (Q : Int))) 0 (4, 92)) 3 (0, w32 ((g 3 5) + (w32 ((g 3 6) * ((x : Int) - (y : Int)))))), [], g)) rfl
      dsimp only at h
      try rw [w32_eq (z := ((T : Int)) * 5) (v := 5 * (T : Int)) (by omega) (by omega) (by omega)] at h
      try rw [w32_eq (z := (5 * (T : Int)) + ((Q : Int))) (v := (Q : Int) + 5 * (T : Int)) (by omega) (by omega) (by omega)] at h
      rcases zif_eq h with ⟨hc9, h⟩ | ⟨hc9, h⟩
      · have h := zm zy_96 h 5 (q := (97, dset (dset (dset (dset (dset lf 2 (0, (T : Int))) 1 (0, (Q : Int))) 0 (4, 92)) 3 (0, w32 ((g 3 5) + (w32 ((g 3 6) * ((x : Int) - (y : Int))))))) 4 (0, 0), [(0, w32 ((g 3 5) + (w32 ((g 3 6) * ((x : Int) - (y : Int))))))], g)) rfl
        dsimp only at h
        refine Or.inr (Or.inl (⟨⟨hc1, hc5, hc9⟩, ?_⟩))
        exact zret zy_96 h rfl rfl
      · have h := zm zy_96 h 11 (q := (97, dset (dset (dset (dset (dset lf 2 (0, (T : Int))) 1 (0, (Q : Int))) 0 (4, 92)) 3 (0, w32 ((g 3 5) + (w32 ((g 3 6) * ((x : Int) - (y : Int))))))) 4 (0, 1), [(0, qdi (w32 ((w32 ((g 3 5) + (w32 ((g 3 6) * ((x : Int) - (y : Int)))))) + 1)) 2)], g)) rfl
        dsimp only at h
        refine Or.inr (Or.inr (⟨⟨hc1, hc5, hc9⟩, ?_⟩))
        exact zret zy_96 h rfl rfl
    · have h := zm zy_95 h 2 (q := (20, darg 0 [(4, 3), (0, (P : Int)), (0, (Q : Int)), (0, (T : Int))], [(0, 1)], g)) rfl
      dsimp only at h
      have h := zret zy_95 h rfl rfl
      obtain ⟨e1, e2⟩ := oI h
      have h := hO4
      rw [e1, e2] at h
      clear e1 e2
      clear hO4
      have h := zm zy_96 h 2 (q := (35, dset (dset (dset lf 2 (0, (T : Int))) 1 (0, (Q : Int))) 0 (4, 92), [(0, 0)], g)) rfl
      dsimp only at h
      refine Or.inl (⟨Or.inr (⟨hc1, hc5⟩), ?_⟩)
      exact zret zy_96 h rfl rfl
theorem t_agn_92 {sv : Nat → Int32} {L n : Nat} {lf : dlf} {g : cg} {o : cg × Option cv} {Q T x y : Nat} (rQ : Q ≤ 4) (rT : T ≤ 7) (rx : x ≤ 16) (ry : y ≤ 16) (hx : g 93 T = (x : Int)) (hy : g 94 (Q + 5 * T) = (y : Int)) (h : zr sv L n 97 0 lf [] g o) (hl0 : lf 0 = (4, 92)) (hl1 : lf 1 = (0, (Q : Int))) (hl2 : lf 2 = (0, (T : Int))) : o = (g, some (0, (x : Int) - (y : Int))) := by
  rw [zov hl0, zov hl1, zov hl2] at h
  have h := zm zy_97 h 3 (q := (5, dset (dset (dset lf 2 (0, (T : Int))) 1 (0, (Q : Int))) 0 (4, 92), [(0, (T : Int)), (4, 93)], g)) rfl
  dsimp only at h
  have h := zald zy_97 h rfl rfl (dvb_93 (i := (T : Int)) (by omega) (by omega))
  dsimp only at h
  try rw [show ((T : Int)).toNat = T from by omega] at h
  try rw [hx] at h
  have h := zm zy_97 h 7 (q := (15, dset (dset (dset lf 2 (0, (T : Int))) 1 (0, (Q : Int))) 0 (4, 92), [(0, w32 ((w32 (((T : Int)) * 5)) + ((Q : Int)))), (4, 94), (0, (x : Int))], g)) rfl
  dsimp only at h
  try rw [w32_eq (z := ((T : Int)) * 5) (v := 5 * (T : Int)) (by omega) (by omega) (by omega)] at h
  try rw [w32_eq (z := (5 * (T : Int)) + ((Q : Int))) (v := (Q : Int) + 5 * (T : Int)) (by omega) (by omega) (by omega)] at h
  have h := zald zy_97 h rfl rfl (dvb_94 (i := (Q : Int) + 5 * (T : Int)) (by omega) (by omega))
  dsimp only at h
  try rw [show ((Q : Int) + 5 * (T : Int)).toNat = Q + 5 * T from by omega] at h
  try rw [hy] at h
  have h := zm zy_97 h 1 (q := (17, dset (dset (dset lf 2 (0, (T : Int))) 1 (0, (Q : Int))) 0 (4, 92), [(0, w32 (((x : Int)) - ((y : Int))))], g)) rfl
  dsimp only at h
  try rw [w32_eq (z := ((x : Int)) - ((y : Int))) (v := (x : Int) - (y : Int)) (by omega) (by omega) (by omega)] at h
  exact zret zy_97 h rfl rfl
theorem t_hind_92 {sv : Nat → Int32} {L n : Nat} {lf : dlf} {g : cg} {o : cg × Option cv} {W P Q T N x y : Nat} {v bi pu : Int} (rW : W ≤ 5) (rP : P ≤ 5) (rQ : Q ≤ 4) (rT : T ≤ 7) (rN : N ≤ 16) (rx : x ≤ 16) (ry : y ≤ 16) (hN : g 3 9 = (N : Int)) (hW : g 92 1 = (W : Int)) (hQ : g 92 2 = (P : Int)) (hv : g (18 + 2 * P) T = v) (hx : g 93 T = (x : Int)) (hy : g 94 (Q + 5 * T) = (y : Int)) (hbi : g (17 + 2 * W) 3 = bi) (hpu : g (17 + 2 * W) 1 = pu) (h : zr sv L n 94 0 lf [] g o) (hl0 : lf 0 = (4, 92)) (hl1 : lf 1 = (0, (Q : Int))) (hl2 : lf 2 = (0, (T : Int))) : ((((N : Int) < 16 ∧ ban (bsr (g 92 3) ((T : Int))) 1 = 0 ∧ v ≠ (Q : Int) ∧ v = (-1) ∧ g 92 5 = 0 ∧ bi ≠ 0 ∧ 0 ≤ pu) ∨ ((N : Int) < 16 ∧ ban (bsr (g 92 3) ((T : Int))) 1 = 0 ∧ v ≠ (Q : Int) ∧ v = (-1) ∧ g 92 5 = 0 ∧ bi = 0 ∧ csgn ((lan (lsr (g 92 8) ((Q : Int) + 5 * (T : Int))) 1) - 0) = 0 ∧ w32 ((g 3 5) + (w32 ((g 3 6) * ((x : Int) - (y : Int))))) ≤ pu) ∨ ((N : Int) < 16 ∧ ban (bsr (g 92 3) ((T : Int))) 1 = 0 ∧ v ≠ (Q : Int) ∧ v = (-1) ∧ g 92 5 = 0 ∧ bi = 0 ∧ csgn ((lan (lsr (g 92 8) ((Q : Int) + 5 * (T : Int))) 1) - 0) ≠ 0 ∧ qdi (w32 ((w32 ((g 3 5) + (w32 ((g 3 6) * ((x : Int) - (y : Int)))))) + 1)) 2 ≤ pu) ∨ ((N : Int) < 16 ∧ ban (bsr (g 92 3) ((T : Int))) 1 = 0 ∧ v ≠ (Q : Int) ∧ v ≠ (-1) ∧ g 92 4 ≠ 0 ∧ g 92 5 = 0 ∧ bi ≠ 0 ∧ 0 ≤ pu) ∨ ((N : Int) < 16 ∧ ban (bsr (g 92 3) ((T : Int))) 1 = 0 ∧ v ≠ (Q : Int) ∧ v ≠ (-1) ∧ g 92 4 ≠ 0 ∧ g 92 5 = 0 ∧ bi = 0 ∧ csgn ((lan (lsr (g 92 8) ((Q : Int) + 5 * (T : Int))) 1) - 0) = 0 ∧ w32 ((g 3 5) + (w32 ((g 3 6) * ((x : Int) - (y : Int))))) ≤ pu) ∨ ((N : Int) < 16 ∧ ban (bsr (g 92 3) ((T : Int))) 1 = 0 ∧ v ≠ (Q : Int) ∧ v ≠ (-1) ∧ g 92 4 ≠ 0 ∧ g 92 5 = 0 ∧ bi = 0 ∧ csgn ((lan (lsr (g 92 8) ((Q : Int) + 5 * (T : Int))) 1) - 0) ≠ 0 ∧ qdi (w32 ((w32 ((g 3 5) + (w32 ((g 3 6) * ((x : Int) - (y : Int)))))) + 1)) 2 ≤ pu) ∨ ((N : Int) < 16 ∧ ban (bsr (g 92 3) ((T : Int))) 1 = 0 ∧ v = (Q : Int))) ∧ (o = (g, some (0, 0)))) ∨ ((((N : Int) < 16 ∧ ban (bsr (g 92 3) ((T : Int))) 1 = 0 ∧ v ≠ (Q : Int) ∧ v = (-1) ∧ g 92 5 = 0 ∧ bi ≠ 0 ∧ pu < 0) ∨ ((N : Int) < 16 ∧ ban (bsr (g 92 3) ((T : Int))) 1 = 0 ∧ v ≠ (Q : Int) ∧ v = (-1) ∧ g 92 5 = 0 ∧ bi = 0 ∧ csgn ((lan (lsr (g 92 8) ((Q : Int) + 5 * (T : Int))) 1) - 0) = 0 ∧ pu < w32 ((g 3 5) + (w32 ((g 3 6) * ((x : Int) - (y : Int)))))) ∨ ((N : Int) < 16 ∧ ban (bsr (g 92 3) ((T : Int))) 1 = 0 ∧ v ≠ (Q : Int) ∧ v = (-1) ∧ g 92 5 = 0 ∧ bi = 0 ∧ csgn ((lan (lsr (g 92 8) ((Q : Int) + 5 * (T : Int))) 1) - 0) ≠ 0 ∧ pu < qdi (w32 ((w32 ((g 3 5) + (w32 ((g 3 6) * ((x : Int) - (y : Int)))))) + 1)) 2) ∨ ((N : Int) < 16 ∧ ban (bsr (g 92 3) ((T : Int))) 1 = 0 ∧ v ≠ (Q : Int) ∧ v ≠ (-1) ∧ g 92 4 ≠ 0 ∧ g 92 5 = 0 ∧ bi ≠ 0 ∧ pu < 0) ∨ ((N : Int) < 16 ∧ ban (bsr (g 92 3) ((T : Int))) 1 = 0 ∧ v ≠ (Q : Int) ∧ v ≠ (-1) ∧ g 92 4 ≠ 0 ∧ g 92 5 = 0 ∧ bi = 0 ∧ csgn ((lan (lsr (g 92 8) ((Q : Int) + 5 * (T : Int))) 1) - 0) = 0 ∧ pu < w32 ((g 3 5) + (w32 ((g 3 6) * ((x : Int) - (y : Int)))))) ∨ ((N : Int) < 16 ∧ ban (bsr (g 92 3) ((T : Int))) 1 = 0 ∧ v ≠ (Q : Int) ∧ v ≠ (-1) ∧ g 92 4 ≠ 0 ∧ g 92 5 = 0 ∧ bi = 0 ∧ csgn ((lan (lsr (g 92 8) ((Q : Int) + 5 * (T : Int))) 1) - 0) ≠ 0 ∧ pu < qdi (w32 ((w32 ((g 3 5) + (w32 ((g 3 6) * ((x : Int) - (y : Int)))))) + 1)) 2)) ∧ (o = (g, some (0, 5)))) ∨ ((((N : Int) < 16 ∧ ban (bsr (g 92 3) ((T : Int))) 1 = 0 ∧ v ≠ (Q : Int) ∧ v = (-1) ∧ g 92 5 ≠ 0) ∨ ((N : Int) < 16 ∧ ban (bsr (g 92 3) ((T : Int))) 1 = 0 ∧ v ≠ (Q : Int) ∧ v ≠ (-1) ∧ g 92 4 ≠ 0 ∧ g 92 5 ≠ 0)) ∧ (o = (g, some (0, 4)))) ∨ (((N : Int) < 16 ∧ ban (bsr (g 92 3) ((T : Int))) 1 = 0 ∧ v ≠ (Q : Int) ∧ v ≠ (-1) ∧ g 92 4 = 0) ∧ (o = (g, some (0, 3)))) ∨ (((N : Int) < 16 ∧ ban (bsr (g 92 3) ((T : Int))) 1 ≠ 0) ∧ (o = (g, some (0, 2)))) ∨ ((16 ≤ (N : Int)) ∧ (o = (g, some (0, 1)))) := by
  rw [zov hl0, zov hl1, zov hl2] at h
  have h := zm zy_94 h 5 (q := (cond (crel .lt (g 3 9) 16) 14 12, dset (dset (dset lf 2 (0, (T : Int))) 1 (0, (Q : Int))) 0 (4, 92), [], g)) rfl
  dsimp only at h
  try rw [hN] at h
  rcases zif_lt h with ⟨hc1, h⟩ | ⟨hc1, h⟩
  · have h := zm zy_94 h 7 (q := (cond (crel .eq (ban (bsr (g 92 3) ((T : Int))) 1) 0) 27 25, dset (dset (dset lf 2 (0, (T : Int))) 1 (0, (Q : Int))) 0 (4, 92), [], g)) rfl
    dsimp only at h
    rcases zif_eq h with ⟨hc2, h⟩ | ⟨hc2, h⟩
    · have h := zm zy_94 h 6 (q := (37, dset (dset (dset lf 2 (0, (T : Int))) 1 (0, (Q : Int))) 0 (4, 92), [(0, (T : Int)), (0, (Q : Int)), (0, g 92 2), (4, 3)], g)) rfl
      dsimp only at h
      try rw [hQ] at h
      obtain ⟨gz3, rz4, hk, h⟩ := zcallI zy_94 h rfl rfl zy_95 zk_95
      dsimp only at hk h
      have hO5 := h
      have h := hk
      clear hk
      have h := zm zy_95 h 3 (q := (5, darg 0 [(4, 3), (0, (P : Int)), (0, (Q : Int)), (0, (T : Int))], [(0, (P : Int)), (4, 6)], g)) rfl
      dsimp only at h
      have h := zald zy_95 h rfl rfl (dvp_6 (i := (P : Int)) (by omega) (by omega))
      dsimp only at h
      have h := zgf zy_95 h rfl rfl (dvf_17_6 (i := (P : Int)) (by omega) (by omega))
      have h := zm zy_95 h 1 (q := (10, darg 0 [(4, 3), (0, (P : Int)), (0, (Q : Int)), (0, (T : Int))], [(0, (T : Int)), (4, 18 + 2 * ((P : Int)))], g)) rfl
      dsimp only at h
      have h := zald zy_95 h rfl rfl (dvr_18 (i := (P : Int)) (j := (T : Int)) (by omega) (by omega) (by omega) (by omega))
      dsimp only at h
      try rw [show (18 + 2 * ((P : Int))).toNat = 18 + 2 * P from by omega] at h
      try rw [show ((T : Int)).toNat = T from by omega] at h
      try rw [hv] at h
      have h := zm zy_95 h 2 (q := (cond (crel .ne v ((Q : Int))) 19 15, darg 0 [(4, 3), (0, (P : Int)), (0, (Q : Int)), (0, (T : Int))], [], g)) rfl
      dsimp only at h
      rcases zif_ne h with ⟨hc6, h⟩ | ⟨hc6, h⟩
      · have h := zm zy_95 h 1 (q := (20, darg 0 [(4, 3), (0, (P : Int)), (0, (Q : Int)), (0, (T : Int))], [(0, 0)], g)) rfl
        dsimp only at h
        have h := zret zy_95 h rfl rfl
        obtain ⟨e1, e2⟩ := oI h
        have h := hO5
        rw [e1, e2] at h
        clear e1 e2
        clear hO5
        have h := zm zy_94 h 6 (q := (56, dset (dset (dset lf 2 (0, (T : Int))) 1 (0, (Q : Int))) 0 (4, 92), [(0, g 92 2), (4, 6)], g)) rfl
        dsimp only at h
        try rw [hQ] at h
        have h := zald zy_94 h rfl rfl (dvp_6 (i := (P : Int)) (by omega) (by omega))
        dsimp only at h
        have h := zgf zy_94 h rfl rfl (dvf_17_6 (i := (P : Int)) (by omega) (by omega))
        have h := zm zy_94 h 1 (q := (61, dset (dset (dset lf 2 (0, (T : Int))) 1 (0, (Q : Int))) 0 (4, 92), [(0, (T : Int)), (4, 18 + 2 * ((P : Int)))], g)) rfl
        dsimp only at h
        have h := zald zy_94 h rfl rfl (dvr_18 (i := (P : Int)) (j := (T : Int)) (by omega) (by omega) (by omega) (by omega))
        dsimp only at h
        try rw [show (18 + 2 * ((P : Int))).toNat = 18 + 2 * P from by omega] at h
        try rw [show ((T : Int)).toNat = T from by omega] at h
        try rw [hv] at h
        have h := zm zy_94 h 2 (q := (cond (crel .eq v ((-1))) 75 66, dset (dset (dset lf 2 (0, (T : Int))) 1 (0, (Q : Int))) 0 (4, 92), [], g)) rfl
        dsimp only at h
        rcases zif_eq h with ⟨hc7, h⟩ | ⟨hc7, h⟩
        · have h := zm zy_94 h 3 (q := (cond (crel .eq (g 92 5) 0) 84 82, dset (dset (dset lf 2 (0, (T : Int))) 1 (0, (Q : Int))) 0 (4, 92), [], g)) rfl
          dsimp only at h
          rcases zif_eq h with ⟨hc8, h⟩ | ⟨hc8, h⟩
          · have h := zm zy_94 h 3 (q := (87, dset (dset (dset lf 2 (0, (T : Int))) 1 (0, (Q : Int))) 0 (4, 92), [(0, (T : Int)), (0, (Q : Int)), (4, 92)], g)) rfl
            dsimp only at h
            obtain ⟨gz9, rz10, hk, h⟩ := zcallI zy_94 h rfl rfl zy_96 zk_96
            dsimp only at hk h
            have hO11 := h
            have h := hk
            clear hk
            have h := zm zy_96 h 5 (q := (11, darg 0 [(4, 92), (0, (Q : Int)), (0, (T : Int))], [(0, g 92 1), (4, 6)], g)) rfl
            dsimp only at h
            try rw [hW] at h
            have h := zald zy_96 h rfl rfl (dvp_6 (i := (W : Int)) (by omega) (by omega))
            dsimp only at h
            have h := zgf zy_96 h rfl rfl (dvf_17_3 (i := (W : Int)) (by omega) (by omega))
            dsimp only at h
            try rw [show (17 + 2 * ((W : Int))).toNat = 17 + 2 * W from by omega] at h
            try rw [hbi] at h
            have h := zm zy_96 h 1 (q := (cond (crel .ne bi 0) 34 18, darg 0 [(4, 92), (0, (Q : Int)), (0, (T : Int))], [], g)) rfl
            dsimp only at h
            rcases zif_ne h with ⟨hc12, h⟩ | ⟨hc12, h⟩
            · have h := zm zy_96 h 1 (q := (35, darg 0 [(4, 92), (0, (Q : Int)), (0, (T : Int))], [(0, 0)], g)) rfl
              dsimp only at h
              have h := zret zy_96 h rfl rfl
              obtain ⟨e1, e2⟩ := oI h
              have h := hO11
              rw [e1, e2] at h
              clear e1 e2
              clear hO11
              have h := zm zy_94 h 5 (q := (101, dset (dset (dset lf 2 (0, (T : Int))) 1 (0, (Q : Int))) 0 (4, 92), [(0, g 92 1), (4, 6), (0, 0)], g)) rfl
              dsimp only at h
              try rw [hW] at h
              have h := zald zy_94 h rfl rfl (dvp_6 (i := (W : Int)) (by omega) (by omega))
              dsimp only at h
              have h := zgf zy_94 h rfl rfl (dvf_17_1 (i := (W : Int)) (by omega) (by omega))
              dsimp only at h
              try rw [show (17 + 2 * ((W : Int))).toNat = 17 + 2 * W from by omega] at h
              try rw [hpu] at h
              have h := zm zy_94 h 1 (q := (cond (crel .le 0 pu) 112 108, dset (dset (dset lf 2 (0, (T : Int))) 1 (0, (Q : Int))) 0 (4, 92), [], g)) rfl
              dsimp only at h
              rcases zif_le h with ⟨hc13, h⟩ | ⟨hc13, h⟩
              · have h := zm zy_94 h 1 (q := (113, dset (dset (dset lf 2 (0, (T : Int))) 1 (0, (Q : Int))) 0 (4, 92), [(0, 0)], g)) rfl
                dsimp only at h
                refine Or.inl (⟨Or.inl (⟨hc1, hc2, hc6, hc7, hc8, hc12, hc13⟩), ?_⟩)
                exact zret zy_94 h rfl rfl
              · have h := zm zy_94 h 2 (q := (113, dset (dset (dset lf 2 (0, (T : Int))) 1 (0, (Q : Int))) 0 (4, 92), [(0, 5)], g)) rfl
                dsimp only at h
                refine Or.inr (Or.inl (⟨Or.inl (⟨hc1, hc2, hc6, hc7, hc8, hc12, hc13⟩), ?_⟩))
                exact zret zy_94 h rfl rfl
            · have h := zm zy_96 h 6 (q := (28, darg 0 [(4, 92), (0, (Q : Int)), (0, (T : Int))], [(0, (T : Int)), (0, (Q : Int)), (0, g 92 2), (4, 3)], g)) rfl
              dsimp only at h
              try rw [hQ] at h
              obtain ⟨gz14, rz15, hk, h⟩ := zcallI zy_96 h rfl rfl zy_95 zk_95
              dsimp only at hk h
              have hO16 := h
              have h := hk
              clear hk
              have h := zm zy_95 h 3 (q := (5, darg 0 [(4, 3), (0, (P : Int)), (0, (Q : Int)), (0, (T : Int))], [(0, (P : Int)), (4, 6)], g)) rfl
              dsimp only at h
              have h := zald zy_95 h rfl rfl (dvp_6 (i := (P : Int)) (by omega) (by omega))
              dsimp only at h
              have h := zgf zy_95 h rfl rfl (dvf_17_6 (i := (P : Int)) (by omega) (by omega))
              have h := zm zy_95 h 1 (q := (10, darg 0 [(4, 3), (0, (P : Int)), (0, (Q : Int)), (0, (T : Int))], [(0, (T : Int)), (4, 18 + 2 * ((P : Int)))], g)) rfl
              dsimp only at h
              have h := zald zy_95 h rfl rfl (dvr_18 (i := (P : Int)) (j := (T : Int)) (by omega) (by omega) (by omega) (by omega))
              dsimp only at h
              try rw [show (18 + 2 * ((P : Int))).toNat = 18 + 2 * P from by omega] at h
              try rw [show ((T : Int)).toNat = T from by omega] at h
              try rw [hv] at h
              have h := zm zy_95 h 2 (q := (cond (crel .ne v ((Q : Int))) 19 15, darg 0 [(4, 3), (0, (P : Int)), (0, (Q : Int)), (0, (T : Int))], [], g)) rfl
              dsimp only at h
              rcases zif_ne h with ⟨hc17, h⟩ | ⟨hc17, h⟩
              · have h := zm zy_95 h 1 (q := (20, darg 0 [(4, 3), (0, (P : Int)), (0, (Q : Int)), (0, (T : Int))], [(0, 0)], g)) rfl
                dsimp only at h
                have h := zret zy_95 h rfl rfl
                obtain ⟨e1, e2⟩ := oI h
                have h := hO16
                rw [e1, e2] at h
                clear e1 e2
                clear hO16
                have h := zm zy_96 h 10 (q := (53, darg 0 [(4, 92), (0, (Q : Int)), (0, (T : Int))], [(0, (T : Int)), (0, (Q : Int)), (4, 92), (0, g 3 6), (0, g 3 5)], g)) rfl
                dsimp only at h
                obtain ⟨gz18, rz19, hk, h⟩ := zcallI zy_96 h rfl rfl zy_97 zk_97
                dsimp only at hk h
                have hO20 := h
                have h := hk
                clear hk
                have h := zm zy_97 h 3 (q := (5, darg 0 [(4, 92), (0, (Q : Int)), (0, (T : Int))], [(0, (T : Int)), (4, 93)], g)) rfl
                dsimp only at h
                have h := zald zy_97 h rfl rfl (dvb_93 (i := (T : Int)) (by omega) (by omega))
                dsimp only at h
                try rw [show ((T : Int)).toNat = T from by omega] at h
                try rw [hx] at h
                have h := zm zy_97 h 7 (q := (15, darg 0 [(4, 92), (0, (Q : Int)), (0, (T : Int))], [(0, w32 ((w32 (((T : Int)) * 5)) + ((Q : Int)))), (4, 94), (0, (x : Int))], g)) rfl
                dsimp only at h
                try rw [w32_eq (z := ((T : Int)) * 5) (v := 5 * (T : Int)) (by omega) (by omega) (by omega)] at h
                try rw [w32_eq (z := (5 * (T : Int)) + ((Q : Int))) (v := (Q : Int) + 5 * (T : Int)) (by omega) (by omega) (by omega)] at h
                have h := zald zy_97 h rfl rfl (dvb_94 (i := (Q : Int) + 5 * (T : Int)) (by omega) (by omega))
                dsimp only at h
                try rw [show ((Q : Int) + 5 * (T : Int)).toNat = Q + 5 * T from by omega] at h
                try rw [hy] at h
                have h := zm zy_97 h 1 (q := (17, darg 0 [(4, 92), (0, (Q : Int)), (0, (T : Int))], [(0, w32 (((x : Int)) - ((y : Int))))], g)) rfl
                dsimp only at h
                try rw [w32_eq (z := ((x : Int)) - ((y : Int))) (v := (x : Int) - (y : Int)) (by omega) (by omega) (by omega)] at h
                have h := zret zy_97 h rfl rfl
                obtain ⟨e1, e2⟩ := oI h
                have h := hO20
                rw [e1, e2] at h
                clear e1 e2
                clear hO20
                have h := zm zy_96 h 16 (q := (cond (crel .eq (csgn ((lan (lsr (g 92 8) (w32 ((w32 (((T : Int)) * 5)) + ((Q : Int))))) 1) - 0)) 0) 80 76, dset (darg 0 [(4, 92), (0, (Q : Int)), (0, (T : Int))]) 3 (0, w32 ((g 3 5) + (w32 ((g 3 6) * ((x : Int) - (y : Int)))))), [], g)) rfl
                dsimp only at h
                try rw [w32_eq (z := ((T : Int)) * 5) (v := 5 * (T : Int)) (by omega) (by omega) (by omega)] at h
                try rw [w32_eq (z := (5 * (T : Int)) + ((Q : Int))) (v := (Q : Int) + 5 * (T : Int)) (by omega) (by omega) (by omega)] at h
                rcases zif_eq h with ⟨hc21, h⟩ | ⟨hc21, h⟩
                · have h := zm zy_96 h 5 (q := (97, dset (dset (darg 0 [(4, 92), (0, (Q : Int)), (0, (T : Int))]) 3 (0, w32 ((g 3 5) + (w32 ((g 3 6) * ((x : Int) - (y : Int))))))) 4 (0, 0), [(0, w32 ((g 3 5) + (w32 ((g 3 6) * ((x : Int) - (y : Int))))))], g)) rfl
                  dsimp only at h
                  have h := zret zy_96 h rfl rfl
                  obtain ⟨e1, e2⟩ := oI h
                  have h := hO11
                  rw [e1, e2] at h
                  clear e1 e2
                  clear hO11
                  have h := zm zy_94 h 5 (q := (101, dset (dset (dset lf 2 (0, (T : Int))) 1 (0, (Q : Int))) 0 (4, 92), [(0, g 92 1), (4, 6), (0, w32 ((g 3 5) + (w32 ((g 3 6) * ((x : Int) - (y : Int))))))], g)) rfl
                  dsimp only at h
                  try rw [hW] at h
                  have h := zald zy_94 h rfl rfl (dvp_6 (i := (W : Int)) (by omega) (by omega))
                  dsimp only at h
                  have h := zgf zy_94 h rfl rfl (dvf_17_1 (i := (W : Int)) (by omega) (by omega))
                  dsimp only at h
                  try rw [show (17 + 2 * ((W : Int))).toNat = 17 + 2 * W from by omega] at h
                  try rw [hpu] at h
                  have h := zm zy_94 h 1 (q := (cond (crel .le (w32 ((g 3 5) + (w32 ((g 3 6) * ((x : Int) - (y : Int)))))) pu) 112 108, dset (dset (dset lf 2 (0, (T : Int))) 1 (0, (Q : Int))) 0 (4, 92), [], g)) rfl
                  dsimp only at h
                  rcases zif_le h with ⟨hc22, h⟩ | ⟨hc22, h⟩
                  · have h := zm zy_94 h 1 (q := (113, dset (dset (dset lf 2 (0, (T : Int))) 1 (0, (Q : Int))) 0 (4, 92), [(0, 0)], g)) rfl
                    dsimp only at h
                    refine Or.inl (⟨Or.inr (Or.inl (⟨hc1, hc2, hc6, hc7, hc8, hc12, hc21, hc22⟩)), ?_⟩)
                    exact zret zy_94 h rfl rfl
                  · have h := zm zy_94 h 2 (q := (113, dset (dset (dset lf 2 (0, (T : Int))) 1 (0, (Q : Int))) 0 (4, 92), [(0, 5)], g)) rfl
                    dsimp only at h
                    refine Or.inr (Or.inl (⟨Or.inr (Or.inl (⟨hc1, hc2, hc6, hc7, hc8, hc12, hc21, hc22⟩)), ?_⟩))
                    exact zret zy_94 h rfl rfl
                · have h := zm zy_96 h 11 (q := (97, dset (dset (darg 0 [(4, 92), (0, (Q : Int)), (0, (T : Int))]) 3 (0, w32 ((g 3 5) + (w32 ((g 3 6) * ((x : Int) - (y : Int))))))) 4 (0, 1), [(0, qdi (w32 ((w32 ((g 3 5) + (w32 ((g 3 6) * ((x : Int) - (y : Int)))))) + 1)) 2)], g)) rfl
                  dsimp only at h
                  have h := zret zy_96 h rfl rfl
                  obtain ⟨e1, e2⟩ := oI h
                  have h := hO11
                  rw [e1, e2] at h
                  clear e1 e2
                  clear hO11
                  have h := zm zy_94 h 5 (q := (101, dset (dset (dset lf 2 (0, (T : Int))) 1 (0, (Q : Int))) 0 (4, 92), [(0, g 92 1), (4, 6), (0, qdi (w32 ((w32 ((g 3 5) + (w32 ((g 3 6) * ((x : Int) - (y : Int)))))) + 1)) 2)], g)) rfl
                  dsimp only at h
                  try rw [hW] at h
                  have h := zald zy_94 h rfl rfl (dvp_6 (i := (W : Int)) (by omega) (by omega))
                  dsimp only at h
                  have h := zgf zy_94 h rfl rfl (dvf_17_1 (i := (W : Int)) (by omega) (by omega))
                  dsimp only at h
                  try rw [show (17 + 2 * ((W : Int))).toNat = 17 + 2 * W from by omega] at h
                  try rw [hpu] at h
                  have h := zm zy_94 h 1 (q := (cond (crel .le (qdi (w32 ((w32 ((g 3 5) + (w32 ((g 3 6) * ((x : Int) - (y : Int)))))) + 1)) 2) pu) 112 108, dset (dset (dset lf 2 (0, (T : Int))) 1 (0, (Q : Int))) 0 (4, 92), [], g)) rfl
                  dsimp only at h
                  rcases zif_le h with ⟨hc23, h⟩ | ⟨hc23, h⟩
                  · have h := zm zy_94 h 1 (q := (113, dset (dset (dset lf 2 (0, (T : Int))) 1 (0, (Q : Int))) 0 (4, 92), [(0, 0)], g)) rfl
                    dsimp only at h
                    refine Or.inl (⟨Or.inr (Or.inr (Or.inl (⟨hc1, hc2, hc6, hc7, hc8, hc12, hc21, hc23⟩))), ?_⟩)
                    exact zret zy_94 h rfl rfl
                  · have h := zm zy_94 h 2 (q := (113, dset (dset (dset lf 2 (0, (T : Int))) 1 (0, (Q : Int))) 0 (4, 92), [(0, 5)], g)) rfl
                    dsimp only at h
                    refine Or.inr (Or.inl (⟨Or.inr (Or.inr (Or.inl (⟨hc1, hc2, hc6, hc7, hc8, hc12, hc21, hc23⟩))), ?_⟩))
                    exact zret zy_94 h rfl rfl
              · exact absurd hc17 (by omega)
          · have h := zm zy_94 h 1 (q := (83, dset (dset (dset lf 2 (0, (T : Int))) 1 (0, (Q : Int))) 0 (4, 92), [(0, 4)], g)) rfl
            dsimp only at h
            refine Or.inr (Or.inr (Or.inl (⟨Or.inl (⟨hc1, hc2, hc6, hc7, hc8⟩), ?_⟩)))
            exact zret zy_94 h rfl rfl
        · have h := zm zy_94 h 3 (q := (cond (crel .ne (g 92 4) 0) 75 73, dset (dset (dset lf 2 (0, (T : Int))) 1 (0, (Q : Int))) 0 (4, 92), [], g)) rfl
          dsimp only at h
          rcases zif_ne h with ⟨hc24, h⟩ | ⟨hc24, h⟩
          · have h := zm zy_94 h 3 (q := (cond (crel .eq (g 92 5) 0) 84 82, dset (dset (dset lf 2 (0, (T : Int))) 1 (0, (Q : Int))) 0 (4, 92), [], g)) rfl
            dsimp only at h
            rcases zif_eq h with ⟨hc25, h⟩ | ⟨hc25, h⟩
            · have h := zm zy_94 h 3 (q := (87, dset (dset (dset lf 2 (0, (T : Int))) 1 (0, (Q : Int))) 0 (4, 92), [(0, (T : Int)), (0, (Q : Int)), (4, 92)], g)) rfl
              dsimp only at h
              obtain ⟨gz26, rz27, hk, h⟩ := zcallI zy_94 h rfl rfl zy_96 zk_96
              dsimp only at hk h
              have hO28 := h
              have h := hk
              clear hk
              have h := zm zy_96 h 5 (q := (11, darg 0 [(4, 92), (0, (Q : Int)), (0, (T : Int))], [(0, g 92 1), (4, 6)], g)) rfl
              dsimp only at h
              try rw [hW] at h
              have h := zald zy_96 h rfl rfl (dvp_6 (i := (W : Int)) (by omega) (by omega))
              dsimp only at h
              have h := zgf zy_96 h rfl rfl (dvf_17_3 (i := (W : Int)) (by omega) (by omega))
              dsimp only at h
              try rw [show (17 + 2 * ((W : Int))).toNat = 17 + 2 * W from by omega] at h
              try rw [hbi] at h
              have h := zm zy_96 h 1 (q := (cond (crel .ne bi 0) 34 18, darg 0 [(4, 92), (0, (Q : Int)), (0, (T : Int))], [], g)) rfl
              dsimp only at h
              rcases zif_ne h with ⟨hc29, h⟩ | ⟨hc29, h⟩
              · have h := zm zy_96 h 1 (q := (35, darg 0 [(4, 92), (0, (Q : Int)), (0, (T : Int))], [(0, 0)], g)) rfl
                dsimp only at h
                have h := zret zy_96 h rfl rfl
                obtain ⟨e1, e2⟩ := oI h
                have h := hO28
                rw [e1, e2] at h
                clear e1 e2
                clear hO28
                have h := zm zy_94 h 5 (q := (101, dset (dset (dset lf 2 (0, (T : Int))) 1 (0, (Q : Int))) 0 (4, 92), [(0, g 92 1), (4, 6), (0, 0)], g)) rfl
                dsimp only at h
                try rw [hW] at h
                have h := zald zy_94 h rfl rfl (dvp_6 (i := (W : Int)) (by omega) (by omega))
                dsimp only at h
                have h := zgf zy_94 h rfl rfl (dvf_17_1 (i := (W : Int)) (by omega) (by omega))
                dsimp only at h
                try rw [show (17 + 2 * ((W : Int))).toNat = 17 + 2 * W from by omega] at h
                try rw [hpu] at h
                have h := zm zy_94 h 1 (q := (cond (crel .le 0 pu) 112 108, dset (dset (dset lf 2 (0, (T : Int))) 1 (0, (Q : Int))) 0 (4, 92), [], g)) rfl
                dsimp only at h
                rcases zif_le h with ⟨hc30, h⟩ | ⟨hc30, h⟩
                · have h := zm zy_94 h 1 (q := (113, dset (dset (dset lf 2 (0, (T : Int))) 1 (0, (Q : Int))) 0 (4, 92), [(0, 0)], g)) rfl
                  dsimp only at h
                  refine Or.inl (⟨Or.inr (Or.inr (Or.inr (Or.inl (⟨hc1, hc2, hc6, hc7, hc24, hc25, hc29, hc30⟩)))), ?_⟩)
                  exact zret zy_94 h rfl rfl
                · have h := zm zy_94 h 2 (q := (113, dset (dset (dset lf 2 (0, (T : Int))) 1 (0, (Q : Int))) 0 (4, 92), [(0, 5)], g)) rfl
                  dsimp only at h
                  refine Or.inr (Or.inl (⟨Or.inr (Or.inr (Or.inr (Or.inl (⟨hc1, hc2, hc6, hc7, hc24, hc25, hc29, hc30⟩)))), ?_⟩))
                  exact zret zy_94 h rfl rfl
              · have h := zm zy_96 h 6 (q := (28, darg 0 [(4, 92), (0, (Q : Int)), (0, (T : Int))], [(0, (T : Int)), (0, (Q : Int)), (0, g 92 2), (4, 3)], g)) rfl
                dsimp only at h
                try rw [hQ] at h
                obtain ⟨gz31, rz32, hk, h⟩ := zcallI zy_96 h rfl rfl zy_95 zk_95
                dsimp only at hk h
                have hO33 := h
                have h := hk
                clear hk
                have h := zm zy_95 h 3 (q := (5, darg 0 [(4, 3), (0, (P : Int)), (0, (Q : Int)), (0, (T : Int))], [(0, (P : Int)), (4, 6)], g)) rfl
                dsimp only at h
                have h := zald zy_95 h rfl rfl (dvp_6 (i := (P : Int)) (by omega) (by omega))
                dsimp only at h
                have h := zgf zy_95 h rfl rfl (dvf_17_6 (i := (P : Int)) (by omega) (by omega))
                have h := zm zy_95 h 1 (q := (10, darg 0 [(4, 3), (0, (P : Int)), (0, (Q : Int)), (0, (T : Int))], [(0, (T : Int)), (4, 18 + 2 * ((P : Int)))], g)) rfl
                dsimp only at h
                have h := zald zy_95 h rfl rfl (dvr_18 (i := (P : Int)) (j := (T : Int)) (by omega) (by omega) (by omega) (by omega))
                dsimp only at h
                try rw [show (18 + 2 * ((P : Int))).toNat = 18 + 2 * P from by omega] at h
                try rw [show ((T : Int)).toNat = T from by omega] at h
                try rw [hv] at h
                have h := zm zy_95 h 2 (q := (cond (crel .ne v ((Q : Int))) 19 15, darg 0 [(4, 3), (0, (P : Int)), (0, (Q : Int)), (0, (T : Int))], [], g)) rfl
                dsimp only at h
                rcases zif_ne h with ⟨hc34, h⟩ | ⟨hc34, h⟩
                · have h := zm zy_95 h 1 (q := (20, darg 0 [(4, 3), (0, (P : Int)), (0, (Q : Int)), (0, (T : Int))], [(0, 0)], g)) rfl
                  dsimp only at h
                  have h := zret zy_95 h rfl rfl
                  obtain ⟨e1, e2⟩ := oI h
                  have h := hO33
                  rw [e1, e2] at h
                  clear e1 e2
                  clear hO33
                  have h := zm zy_96 h 10 (q := (53, darg 0 [(4, 92), (0, (Q : Int)), (0, (T : Int))], [(0, (T : Int)), (0, (Q : Int)), (4, 92), (0, g 3 6), (0, g 3 5)], g)) rfl
                  dsimp only at h
                  obtain ⟨gz35, rz36, hk, h⟩ := zcallI zy_96 h rfl rfl zy_97 zk_97
                  dsimp only at hk h
                  have hO37 := h
                  have h := hk
                  clear hk
                  have h := zm zy_97 h 3 (q := (5, darg 0 [(4, 92), (0, (Q : Int)), (0, (T : Int))], [(0, (T : Int)), (4, 93)], g)) rfl
                  dsimp only at h
                  have h := zald zy_97 h rfl rfl (dvb_93 (i := (T : Int)) (by omega) (by omega))
                  dsimp only at h
                  try rw [show ((T : Int)).toNat = T from by omega] at h
                  try rw [hx] at h
                  have h := zm zy_97 h 7 (q := (15, darg 0 [(4, 92), (0, (Q : Int)), (0, (T : Int))], [(0, w32 ((w32 (((T : Int)) * 5)) + ((Q : Int)))), (4, 94), (0, (x : Int))], g)) rfl
                  dsimp only at h
                  try rw [w32_eq (z := ((T : Int)) * 5) (v := 5 * (T : Int)) (by omega) (by omega) (by omega)] at h
                  try rw [w32_eq (z := (5 * (T : Int)) + ((Q : Int))) (v := (Q : Int) + 5 * (T : Int)) (by omega) (by omega) (by omega)] at h
                  have h := zald zy_97 h rfl rfl (dvb_94 (i := (Q : Int) + 5 * (T : Int)) (by omega) (by omega))
                  dsimp only at h
                  try rw [show ((Q : Int) + 5 * (T : Int)).toNat = Q + 5 * T from by omega] at h
                  try rw [hy] at h
                  have h := zm zy_97 h 1 (q := (17, darg 0 [(4, 92), (0, (Q : Int)), (0, (T : Int))], [(0, w32 (((x : Int)) - ((y : Int))))], g)) rfl
                  dsimp only at h
                  try rw [w32_eq (z := ((x : Int)) - ((y : Int))) (v := (x : Int) - (y : Int)) (by omega) (by omega) (by omega)] at h
                  have h := zret zy_97 h rfl rfl
                  obtain ⟨e1, e2⟩ := oI h
                  have h := hO37
                  rw [e1, e2] at h
                  clear e1 e2
                  clear hO37
                  have h := zm zy_96 h 16 (q := (cond (crel .eq (csgn ((lan (lsr (g 92 8) (w32 ((w32 (((T : Int)) * 5)) + ((Q : Int))))) 1) - 0)) 0) 80 76, dset (darg 0 [(4, 92), (0, (Q : Int)), (0, (T : Int))]) 3 (0, w32 ((g 3 5) + (w32 ((g 3 6) * ((x : Int) - (y : Int)))))), [], g)) rfl
                  dsimp only at h
                  try rw [w32_eq (z := ((T : Int)) * 5) (v := 5 * (T : Int)) (by omega) (by omega) (by omega)] at h
                  try rw [w32_eq (z := (5 * (T : Int)) + ((Q : Int))) (v := (Q : Int) + 5 * (T : Int)) (by omega) (by omega) (by omega)] at h
                  rcases zif_eq h with ⟨hc38, h⟩ | ⟨hc38, h⟩
                  · have h := zm zy_96 h 5 (q := (97, dset (dset (darg 0 [(4, 92), (0, (Q : Int)), (0, (T : Int))]) 3 (0, w32 ((g 3 5) + (w32 ((g 3 6) * ((x : Int) - (y : Int))))))) 4 (0, 0), [(0, w32 ((g 3 5) + (w32 ((g 3 6) * ((x : Int) - (y : Int))))))], g)) rfl
                    dsimp only at h
                    have h := zret zy_96 h rfl rfl
                    obtain ⟨e1, e2⟩ := oI h
                    have h := hO28
                    rw [e1, e2] at h
                    clear e1 e2
                    clear hO28
                    have h := zm zy_94 h 5 (q := (101, dset (dset (dset lf 2 (0, (T : Int))) 1 (0, (Q : Int))) 0 (4, 92), [(0, g 92 1), (4, 6), (0, w32 ((g 3 5) + (w32 ((g 3 6) * ((x : Int) - (y : Int))))))], g)) rfl
                    dsimp only at h
                    try rw [hW] at h
                    have h := zald zy_94 h rfl rfl (dvp_6 (i := (W : Int)) (by omega) (by omega))
                    dsimp only at h
                    have h := zgf zy_94 h rfl rfl (dvf_17_1 (i := (W : Int)) (by omega) (by omega))
                    dsimp only at h
                    try rw [show (17 + 2 * ((W : Int))).toNat = 17 + 2 * W from by omega] at h
                    try rw [hpu] at h
                    have h := zm zy_94 h 1 (q := (cond (crel .le (w32 ((g 3 5) + (w32 ((g 3 6) * ((x : Int) - (y : Int)))))) pu) 112 108, dset (dset (dset lf 2 (0, (T : Int))) 1 (0, (Q : Int))) 0 (4, 92), [], g)) rfl
                    dsimp only at h
                    rcases zif_le h with ⟨hc39, h⟩ | ⟨hc39, h⟩
                    · have h := zm zy_94 h 1 (q := (113, dset (dset (dset lf 2 (0, (T : Int))) 1 (0, (Q : Int))) 0 (4, 92), [(0, 0)], g)) rfl
                      dsimp only at h
                      refine Or.inl (⟨Or.inr (Or.inr (Or.inr (Or.inr (Or.inl (⟨hc1, hc2, hc6, hc7, hc24, hc25, hc29, hc38, hc39⟩))))), ?_⟩)
                      exact zret zy_94 h rfl rfl
                    · have h := zm zy_94 h 2 (q := (113, dset (dset (dset lf 2 (0, (T : Int))) 1 (0, (Q : Int))) 0 (4, 92), [(0, 5)], g)) rfl
                      dsimp only at h
                      refine Or.inr (Or.inl (⟨Or.inr (Or.inr (Or.inr (Or.inr (Or.inl (⟨hc1, hc2, hc6, hc7, hc24, hc25, hc29, hc38, hc39⟩))))), ?_⟩))
                      exact zret zy_94 h rfl rfl
                  · have h := zm zy_96 h 11 (q := (97, dset (dset (darg 0 [(4, 92), (0, (Q : Int)), (0, (T : Int))]) 3 (0, w32 ((g 3 5) + (w32 ((g 3 6) * ((x : Int) - (y : Int))))))) 4 (0, 1), [(0, qdi (w32 ((w32 ((g 3 5) + (w32 ((g 3 6) * ((x : Int) - (y : Int)))))) + 1)) 2)], g)) rfl
                    dsimp only at h
                    have h := zret zy_96 h rfl rfl
                    obtain ⟨e1, e2⟩ := oI h
                    have h := hO28
                    rw [e1, e2] at h
                    clear e1 e2
                    clear hO28
                    have h := zm zy_94 h 5 (q := (101, dset (dset (dset lf 2 (0, (T : Int))) 1 (0, (Q : Int))) 0 (4, 92), [(0, g 92 1), (4, 6), (0, qdi (w32 ((w32 ((g 3 5) + (w32 ((g 3 6) * ((x : Int) - (y : Int)))))) + 1)) 2)], g)) rfl
                    dsimp only at h
                    try rw [hW] at h
                    have h := zald zy_94 h rfl rfl (dvp_6 (i := (W : Int)) (by omega) (by omega))
                    dsimp only at h
                    have h := zgf zy_94 h rfl rfl (dvf_17_1 (i := (W : Int)) (by omega) (by omega))
                    dsimp only at h
                    try rw [show (17 + 2 * ((W : Int))).toNat = 17 + 2 * W from by omega] at h
                    try rw [hpu] at h
                    have h := zm zy_94 h 1 (q := (cond (crel .le (qdi (w32 ((w32 ((g 3 5) + (w32 ((g 3 6) * ((x : Int) - (y : Int)))))) + 1)) 2) pu) 112 108, dset (dset (dset lf 2 (0, (T : Int))) 1 (0, (Q : Int))) 0 (4, 92), [], g)) rfl
                    dsimp only at h
                    rcases zif_le h with ⟨hc40, h⟩ | ⟨hc40, h⟩
                    · have h := zm zy_94 h 1 (q := (113, dset (dset (dset lf 2 (0, (T : Int))) 1 (0, (Q : Int))) 0 (4, 92), [(0, 0)], g)) rfl
                      dsimp only at h
                      refine Or.inl (⟨Or.inr (Or.inr (Or.inr (Or.inr (Or.inr (Or.inl (⟨hc1, hc2, hc6, hc7, hc24, hc25, hc29, hc38, hc40⟩)))))), ?_⟩)
                      exact zret zy_94 h rfl rfl
                    · have h := zm zy_94 h 2 (q := (113, dset (dset (dset lf 2 (0, (T : Int))) 1 (0, (Q : Int))) 0 (4, 92), [(0, 5)], g)) rfl
                      dsimp only at h
                      refine Or.inr (Or.inl (⟨Or.inr (Or.inr (Or.inr (Or.inr (Or.inr (⟨hc1, hc2, hc6, hc7, hc24, hc25, hc29, hc38, hc40⟩))))), ?_⟩))
                      exact zret zy_94 h rfl rfl
                · exact absurd hc34 (by omega)
            · have h := zm zy_94 h 1 (q := (83, dset (dset (dset lf 2 (0, (T : Int))) 1 (0, (Q : Int))) 0 (4, 92), [(0, 4)], g)) rfl
              dsimp only at h
              refine Or.inr (Or.inr (Or.inl (⟨Or.inr (⟨hc1, hc2, hc6, hc7, hc24, hc25⟩), ?_⟩)))
              exact zret zy_94 h rfl rfl
          · have h := zm zy_94 h 1 (q := (74, dset (dset (dset lf 2 (0, (T : Int))) 1 (0, (Q : Int))) 0 (4, 92), [(0, 3)], g)) rfl
            dsimp only at h
            refine Or.inr (Or.inr (Or.inr (Or.inl (⟨⟨hc1, hc2, hc6, hc7, hc24⟩, ?_⟩))))
            exact zret zy_94 h rfl rfl
      · have h := zm zy_95 h 2 (q := (20, darg 0 [(4, 3), (0, (P : Int)), (0, (Q : Int)), (0, (T : Int))], [(0, 1)], g)) rfl
        dsimp only at h
        have h := zret zy_95 h rfl rfl
        obtain ⟨e1, e2⟩ := oI h
        have h := hO5
        rw [e1, e2] at h
        clear e1 e2
        clear hO5
        have h := zm zy_94 h 2 (q := (44, dset (dset (dset lf 2 (0, (T : Int))) 1 (0, (Q : Int))) 0 (4, 92), [(0, 0)], g)) rfl
        dsimp only at h
        refine Or.inl (⟨Or.inr (Or.inr (Or.inr (Or.inr (Or.inr (Or.inr (⟨hc1, hc2, hc6⟩)))))), ?_⟩)
        exact zret zy_94 h rfl rfl
    · have h := zm zy_94 h 1 (q := (26, dset (dset (dset lf 2 (0, (T : Int))) 1 (0, (Q : Int))) 0 (4, 92), [(0, 2)], g)) rfl
      dsimp only at h
      refine Or.inr (Or.inr (Or.inr (Or.inr (Or.inl (⟨⟨hc1, hc2⟩, ?_⟩)))))
      exact zret zy_94 h rfl rfl
  · have h := zm zy_94 h 1 (q := (13, dset (dset (dset lf 2 (0, (T : Int))) 1 (0, (Q : Int))) 0 (4, 92), [(0, 1)], g)) rfl
    dsimp only at h
    refine Or.inr (Or.inr (Or.inr (Or.inr (Or.inr (⟨hc1, ?_⟩)))))
    exact zret zy_94 h rfl rfl
theorem t_stk0 {sv : Nat → Int32} {L n : Nat} {lf : dlf} {g : cg} {o : cg × Option cv} {W P Q T : Nat} {ch v : Int} (rW : W ≤ 5) (rP : P ≤ 5) (rQ : Q ≤ 4) (rT : T ≤ 7) (hch : g (17 + 2 * W) 2 = ch) (hv : g (18 + 2 * P) T = v) (h : zr sv L n 100 0 lf [] g o) (hl0 : lf 0 = (4, 3)) (hl1 : lf 1 = (0, (W : Int))) (hl2 : lf 2 = (0, (P : Int))) (hl3 : lf 3 = (0, (Q : Int))) (hl4 : lf 4 = (0, (T : Int))) : ((v ≠ (Q : Int)) ∧ (∃ lf', lf' 0 = (4, 3) ∧ lf' 1 = (0, (W : Int)) ∧ lf' 2 = (0, (P : Int)) ∧ lf' 3 = (0, (Q : Int)) ∧ lf' 4 = (0, (T : Int)) ∧ lf' 5 = (0, ch) ∧ lf' 6 = (0, 1) ∧ lf' 7 = (0, 0) ∧ lf' 8 = (0, 0) ∧ lf' 9 = (0, 0) ∧ zr sv L n 100 38 lf' [] g o)) ∨ ((v = (Q : Int)) ∧ (∃ lf', lf' 0 = (4, 3) ∧ lf' 1 = (0, (W : Int)) ∧ lf' 2 = (0, (P : Int)) ∧ lf' 3 = (0, (Q : Int)) ∧ lf' 4 = (0, (T : Int)) ∧ lf' 5 = (0, ch) ∧ lf' 6 = (0, 0) ∧ lf' 7 = (0, 0) ∧ lf' 8 = (0, 0) ∧ lf' 9 = (0, 0) ∧ zr sv L n 100 38 lf' [] g o)) := by
  rw [zov hl0, zov hl1, zov hl2, zov hl3, zov hl4] at h
  have h := zm zy_100 h 3 (q := (5, dset (dset (dset (dset (dset lf 4 (0, (T : Int))) 3 (0, (Q : Int))) 2 (0, (P : Int))) 1 (0, (W : Int))) 0 (4, 3), [(0, (W : Int)), (4, 6)], g)) rfl
  dsimp only at h
  have h := zald zy_100 h rfl rfl (dvp_6 (i := (W : Int)) (by omega) (by omega))
  dsimp only at h
  have h := zgf zy_100 h rfl rfl (dvf_17_2 (i := (W : Int)) (by omega) (by omega))
  dsimp only at h
  try rw [show (17 + 2 * ((W : Int))).toNat = 17 + 2 * W from by omega] at h
  try rw [hch] at h
  have h := zm zy_100 h 5 (q := (16, dset (dset (dset (dset (dset (dset lf 4 (0, (T : Int))) 3 (0, (Q : Int))) 2 (0, (P : Int))) 1 (0, (W : Int))) 0 (4, 3)) 5 (0, ch), [(0, (T : Int)), (0, (Q : Int)), (0, (P : Int)), (4, 3)], g)) rfl
  dsimp only at h
  obtain ⟨gz1, rz2, hk, h⟩ := zcallI zy_100 h rfl rfl zy_95 zk_95
  dsimp only at hk h
  have hO3 := h
  have h := hk
  clear hk
  have h := zm zy_95 h 3 (q := (5, darg 0 [(4, 3), (0, (P : Int)), (0, (Q : Int)), (0, (T : Int))], [(0, (P : Int)), (4, 6)], g)) rfl
  dsimp only at h
  have h := zald zy_95 h rfl rfl (dvp_6 (i := (P : Int)) (by omega) (by omega))
  dsimp only at h
  have h := zgf zy_95 h rfl rfl (dvf_17_6 (i := (P : Int)) (by omega) (by omega))
  have h := zm zy_95 h 1 (q := (10, darg 0 [(4, 3), (0, (P : Int)), (0, (Q : Int)), (0, (T : Int))], [(0, (T : Int)), (4, 18 + 2 * ((P : Int)))], g)) rfl
  dsimp only at h
  have h := zald zy_95 h rfl rfl (dvr_18 (i := (P : Int)) (j := (T : Int)) (by omega) (by omega) (by omega) (by omega))
  dsimp only at h
  try rw [show (18 + 2 * ((P : Int))).toNat = 18 + 2 * P from by omega] at h
  try rw [show ((T : Int)).toNat = T from by omega] at h
  try rw [hv] at h
  have h := zm zy_95 h 2 (q := (cond (crel .ne v ((Q : Int))) 19 15, darg 0 [(4, 3), (0, (P : Int)), (0, (Q : Int)), (0, (T : Int))], [], g)) rfl
  dsimp only at h
  rcases zif_ne h with ⟨hc4, h⟩ | ⟨hc4, h⟩
  · have h := zm zy_95 h 1 (q := (20, darg 0 [(4, 3), (0, (P : Int)), (0, (Q : Int)), (0, (T : Int))], [(0, 0)], g)) rfl
    dsimp only at h
    have h := zret zy_95 h rfl rfl
    obtain ⟨e1, e2⟩ := oI h
    have h := hO3
    rw [e1, e2] at h
    clear e1 e2
    clear hO3
    have h := zm zy_100 h 10 (q := (38, dset (dset (dset (dset (dset (dset (dset (dset (dset (dset lf 4 (0, (T : Int))) 3 (0, (Q : Int))) 2 (0, (P : Int))) 1 (0, (W : Int))) 0 (4, 3)) 5 (0, ch)) 6 (0, 1)) 7 (0, 0)) 8 (0, 0)) 9 (0, 0), [], g)) rfl
    dsimp only at h
    refine Or.inl (⟨hc4, ?_⟩)
    exact ⟨_, rfl, rfl, rfl, rfl, rfl, rfl, rfl, rfl, rfl, rfl, h⟩
  · have h := zm zy_95 h 2 (q := (20, darg 0 [(4, 3), (0, (P : Int)), (0, (Q : Int)), (0, (T : Int))], [(0, 1)], g)) rfl
    dsimp only at h
    have h := zret zy_95 h rfl rfl
    obtain ⟨e1, e2⟩ := oI h
    have h := hO3
    rw [e1, e2] at h
    clear e1 e2
    clear hO3
    have h := zm zy_100 h 9 (q := (38, dset (dset (dset (dset (dset (dset (dset (dset (dset (dset lf 4 (0, (T : Int))) 3 (0, (Q : Int))) 2 (0, (P : Int))) 1 (0, (W : Int))) 0 (4, 3)) 5 (0, ch)) 6 (0, 0)) 7 (0, 0)) 8 (0, 0)) 9 (0, 0), [], g)) rfl
    dsimp only at h
    refine Or.inr (⟨hc4, ?_⟩)
    exact ⟨_, rfl, rfl, rfl, rfl, rfl, rfl, rfl, rfl, rfl, rfl, h⟩
theorem t_stk_s {sv : Nat → Int32} {L n : Nat} {lf : dlf} {g : cg} {o : cg × Option cv} {W P Q T w p q t k N : Nat} {f s b u l gs ms v : Int} (rW : W ≤ 5) (rP : P ≤ 5) (rQ : Q ≤ 4) (rT : T ≤ 7) (rw : w ≤ 5) (rp : p ≤ 5) (rq : q ≤ 4) (rt : t ≤ 7) (rk : k ≤ 15) (rN : N ≤ 16) (hN : g 3 9 = (N : Int)) (hO : OHC g k w p q t f s b) (hv : g (18 + 2 * p) t = v) (hlt : k < N) (h : zr sv L (n + 1) 100 38 lf [] g o) (hl0 : lf 0 = (4, 3)) (hl1 : lf 1 = (0, (W : Int))) (hl2 : lf 2 = (0, (P : Int))) (hl3 : lf 3 = (0, (Q : Int))) (hl4 : lf 4 = (0, (T : Int))) (hl5 : lf 5 = (0, u)) (hl6 : lf 6 = (0, l)) (hl7 : lf 7 = (0, gs)) (hl8 : lf 8 = (0, ms)) (hl9 : lf 9 = (0, (k : Int))) : (((s ≠ 0) ∨ (s = 0 ∧ (p : Int) ≠ (P : Int)) ∨ (s = 0 ∧ (p : Int) = (P : Int) ∧ (t : Int) ≠ (T : Int) ∧ l = 0) ∨ (s = 0 ∧ (p : Int) = (P : Int) ∧ (t : Int) ≠ (T : Int) ∧ l ≠ 0 ∧ v = (q : Int))) ∧ (∃ lf', lf' 0 = (4, 3) ∧ lf' 1 = (0, (W : Int)) ∧ lf' 2 = (0, (P : Int)) ∧ lf' 3 = (0, (Q : Int)) ∧ lf' 4 = (0, (T : Int)) ∧ lf' 5 = (0, u) ∧ lf' 6 = (0, l) ∧ lf' 7 = (0, gs) ∧ lf' 8 = (0, ms) ∧ lf' 9 = (0, 1 + (k : Int)) ∧ zr sv L n 100 38 lf' [] g o)) ∨ ((s = 0 ∧ (p : Int) = (P : Int) ∧ (t : Int) ≠ (T : Int) ∧ l ≠ 0 ∧ v ≠ (q : Int)) ∧ (∃ g_1 r_1, zr sv L n 101 0 (darg 0 [(4, 3), (0, (q : Int)), (0, (t : Int)), (0, (Q : Int)), (0, (T : Int))]) [] g (g_1, some (0, r_1)) ∧ (((r_1 ≠ 0) ∧ (∃ lf', lf' 0 = (4, 3) ∧ lf' 1 = (0, (W : Int)) ∧ lf' 2 = (0, (P : Int)) ∧ lf' 3 = (0, (Q : Int)) ∧ lf' 4 = (0, (T : Int)) ∧ lf' 5 = (0, u) ∧ lf' 6 = (0, l) ∧ lf' 7 = (0, gs) ∧ lf' 8 = (0, ms) ∧ lf' 9 = (0, 1 + (k : Int)) ∧ zr sv L n 100 38 lf' [] g_1 o)) ∨ ((r_1 = 0) ∧ (∃ lf', lf' 0 = (4, 3) ∧ lf' 1 = (0, (W : Int)) ∧ lf' 2 = (0, (P : Int)) ∧ lf' 3 = (0, (Q : Int)) ∧ lf' 4 = (0, (T : Int)) ∧ lf' 5 = (0, u) ∧ lf' 6 = (0, l) ∧ lf' 7 = (0, gs) ∧ lf' 8 = (0, bor ms (bsl 1 ((k : Int)))) ∧ lf' 9 = (0, 1 + (k : Int)) ∧ zr sv L n 100 38 lf' [] g_1 o))))) ∨ (((s = 0 ∧ (p : Int) = (P : Int) ∧ (t : Int) = (T : Int) ∧ (q : Int) = (Q : Int) ∧ u = 0) ∨ (s = 0 ∧ (p : Int) = (P : Int) ∧ (t : Int) = (T : Int) ∧ (q : Int) = (Q : Int) ∧ u ≠ 0) ∨ (s = 0 ∧ (p : Int) = (P : Int) ∧ (t : Int) = (T : Int) ∧ (q : Int) ≠ (Q : Int) ∧ (w : Int) = (W : Int) ∧ u = 0) ∨ (s = 0 ∧ (p : Int) = (P : Int) ∧ (t : Int) = (T : Int) ∧ (q : Int) ≠ (Q : Int) ∧ (w : Int) = (W : Int) ∧ u ≠ 0) ∨ (s = 0 ∧ (p : Int) = (P : Int) ∧ (t : Int) = (T : Int) ∧ (q : Int) ≠ (Q : Int) ∧ (w : Int) ≠ (W : Int) ∧ u = 0)) ∧ (∃ lf', lf' 0 = (4, 3) ∧ lf' 1 = (0, (W : Int)) ∧ lf' 2 = (0, (P : Int)) ∧ lf' 3 = (0, (Q : Int)) ∧ lf' 4 = (0, (T : Int)) ∧ lf' 5 = (0, u) ∧ lf' 6 = (0, l) ∧ lf' 7 = (0, bor gs 0) ∧ lf' 8 = (0, ms) ∧ lf' 9 = (0, 1 + (k : Int)) ∧ zr sv L n 100 38 lf' [] g o)) ∨ ((s = 0 ∧ (p : Int) = (P : Int) ∧ (t : Int) = (T : Int) ∧ (q : Int) ≠ (Q : Int) ∧ (w : Int) ≠ (W : Int) ∧ u ≠ 0) ∧ (∃ lf', lf' 0 = (4, 3) ∧ lf' 1 = (0, (W : Int)) ∧ lf' 2 = (0, (P : Int)) ∧ lf' 3 = (0, (Q : Int)) ∧ lf' 4 = (0, (T : Int)) ∧ lf' 5 = (0, u) ∧ lf' 6 = (0, l) ∧ lf' 7 = (0, bor gs (bsl 1 ((k : Int)))) ∧ lf' 8 = (0, ms) ∧ lf' 9 = (0, 1 + (k : Int)) ∧ zr sv L n 100 38 lf' [] g o)) := by
  rw [zov hl0, zov hl1, zov hl2, zov hl3, zov hl4, zov hl5, zov hl6, zov hl7, zov hl8, zov hl9] at h
  have h := zm1 zy_100 h 3 (q := (cond (crel .ge ((k : Int)) (g 3 9)) 178 47, dset (dset (dset (dset (dset (dset (dset (dset (dset (dset lf 9 (0, (k : Int))) 8 (0, ms)) 7 (0, gs)) 6 (0, l)) 5 (0, u)) 4 (0, (T : Int))) 3 (0, (Q : Int))) 2 (0, (P : Int))) 1 (0, (W : Int))) 0 (4, 3), [], g)) rfl
  dsimp only at h
  try rw [hN] at h
  rcases zif_ge h with ⟨hc1, h⟩ | ⟨hc1, h⟩
  · exact absurd hc1 (by omega)
  · have h := zm zy_100 h 3 (q := (53, dset (dset (dset (dset (dset (dset (dset (dset (dset (dset lf 9 (0, (k : Int))) 8 (0, ms)) 7 (0, gs)) 6 (0, l)) 5 (0, u)) 4 (0, (T : Int))) 3 (0, (Q : Int))) 2 (0, (P : Int))) 1 (0, (W : Int))) 0 (4, 3), [(0, (k : Int)), (4, 7)], g)) rfl
    dsimp only at h
    have h := zald zy_100 h rfl rfl (dvp_7 (i := (k : Int)) (by omega) (by omega))
    dsimp only at h
    have h := zm zy_100 h 3 (q := (59, dset (dset (dset (dset (dset (dset (dset (dset (dset (dset (dset lf 9 (0, (k : Int))) 8 (0, ms)) 7 (0, gs)) 6 (0, l)) 5 (0, u)) 4 (0, (T : Int))) 3 (0, (Q : Int))) 2 (0, (P : Int))) 1 (0, (W : Int))) 0 (4, 3)) 10 (4, 29 + ((k : Int))), [(0, (P : Int)), (4, 29 + ((k : Int)))], g)) rfl
    dsimp only at h
    obtain ⟨gz2, rz3, hk, h⟩ := zcallI zy_100 h rfl rfl zy_92 zk_92
    dsimp only at hk h
    have hO4 := h
    have h := hk
    clear hk
    have h := zm zy_92 h 1 (q := (1, darg 0 [(4, 29 + ((k : Int))), (0, (P : Int))], [(4, 29 + ((k : Int)))], g)) rfl
    dsimp only at h
    have h := zgf zy_92 h rfl rfl (dvf_29_5 (i := (k : Int)) (by omega) (by omega))
    dsimp only at h
    try rw [show (29 + ((k : Int))).toNat = 29 + k from by omega] at h
    try rw [hO.2.2.2.2.2.1] at h
    have h := zm zy_92 h 1 (q := (cond (crel .ne s 0) 19 7, darg 0 [(4, 29 + ((k : Int))), (0, (P : Int))], [], g)) rfl
    dsimp only at h
    rcases zif_ne h with ⟨hc5, h⟩ | ⟨hc5, h⟩
    · have h := zm zy_92 h 1 (q := (20, darg 0 [(4, 29 + ((k : Int))), (0, (P : Int))], [(0, 0)], g)) rfl
      dsimp only at h
      have h := zret zy_92 h rfl rfl
      obtain ⟨e1, e2⟩ := oI h
      have h := hO4
      rw [e1, e2] at h
      clear e1 e2
      clear hO4
      have h := zm zy_100 h 4 (q := (38, dset (dset (dset (dset (dset (dset (dset (dset (dset (dset (dset (dset lf 9 (0, (k : Int))) 8 (0, ms)) 7 (0, gs)) 6 (0, l)) 5 (0, u)) 4 (0, (T : Int))) 3 (0, (Q : Int))) 2 (0, (P : Int))) 1 (0, (W : Int))) 0 (4, 3)) 10 (4, 29 + ((k : Int)))) 9 (0, w32 (((k : Int)) + 1)), [], g)) rfl
      dsimp only at h
      try rw [w32_eq (z := ((k : Int)) + 1) (v := 1 + (k : Int)) (by omega) (by omega) (by omega)] at h
      refine Or.inl (⟨Or.inl (hc5), ?_⟩)
      exact ⟨_, rfl, rfl, rfl, rfl, rfl, rfl, rfl, rfl, rfl, rfl, h⟩
    · have h := zm zy_92 h 1 (q := (8, darg 0 [(4, 29 + ((k : Int))), (0, (P : Int))], [(4, 29 + ((k : Int)))], g)) rfl
      dsimp only at h
      have h := zgf zy_92 h rfl rfl (dvf_29_1 (i := (k : Int)) (by omega) (by omega))
      dsimp only at h
      try rw [show (29 + ((k : Int))).toNat = 29 + k from by omega] at h
      try rw [hO.2.1] at h
      have h := zm zy_92 h 2 (q := (cond (crel .ne ((p : Int)) ((P : Int))) 19 15, darg 0 [(4, 29 + ((k : Int))), (0, (P : Int))], [], g)) rfl
      dsimp only at h
      rcases zif_ne h with ⟨hc7, h⟩ | ⟨hc7, h⟩
      · have h := zm zy_92 h 1 (q := (20, darg 0 [(4, 29 + ((k : Int))), (0, (P : Int))], [(0, 0)], g)) rfl
        dsimp only at h
        have h := zret zy_92 h rfl rfl
        obtain ⟨e1, e2⟩ := oI h
        have h := hO4
        rw [e1, e2] at h
        clear e1 e2
        clear hO4
        have h := zm zy_100 h 4 (q := (38, dset (dset (dset (dset (dset (dset (dset (dset (dset (dset (dset (dset lf 9 (0, (k : Int))) 8 (0, ms)) 7 (0, gs)) 6 (0, l)) 5 (0, u)) 4 (0, (T : Int))) 3 (0, (Q : Int))) 2 (0, (P : Int))) 1 (0, (W : Int))) 0 (4, 3)) 10 (4, 29 + ((k : Int)))) 9 (0, w32 (((k : Int)) + 1)), [], g)) rfl
        dsimp only at h
        try rw [w32_eq (z := ((k : Int)) + 1) (v := 1 + (k : Int)) (by omega) (by omega) (by omega)] at h
        refine Or.inl (⟨Or.inr (Or.inl (⟨hc5, hc7⟩)), ?_⟩)
        exact ⟨_, rfl, rfl, rfl, rfl, rfl, rfl, rfl, rfl, rfl, rfl, h⟩
      · have h := zm zy_92 h 2 (q := (20, darg 0 [(4, 29 + ((k : Int))), (0, (P : Int))], [(0, 1)], g)) rfl
        dsimp only at h
        have h := zret zy_92 h rfl rfl
        obtain ⟨e1, e2⟩ := oI h
        have h := hO4
        rw [e1, e2] at h
        clear e1 e2
        clear hO4
        have h := zm zy_100 h 2 (q := (70, dset (dset (dset (dset (dset (dset (dset (dset (dset (dset (dset lf 9 (0, (k : Int))) 8 (0, ms)) 7 (0, gs)) 6 (0, l)) 5 (0, u)) 4 (0, (T : Int))) 3 (0, (Q : Int))) 2 (0, (P : Int))) 1 (0, (W : Int))) 0 (4, 3)) 10 (4, 29 + ((k : Int))), [(4, 29 + ((k : Int)))], g)) rfl
        dsimp only at h
        have h := zgf zy_100 h rfl rfl (dvf_29_3 (i := (k : Int)) (by omega) (by omega))
        dsimp only at h
        try rw [show (29 + ((k : Int))).toNat = 29 + k from by omega] at h
        try rw [hO.2.2.2.1] at h
        have h := zm zy_100 h 2 (q := (cond (crel .ne ((t : Int)) ((T : Int))) 129 78, dset (dset (dset (dset (dset (dset (dset (dset (dset (dset (dset lf 9 (0, (k : Int))) 8 (0, ms)) 7 (0, gs)) 6 (0, l)) 5 (0, u)) 4 (0, (T : Int))) 3 (0, (Q : Int))) 2 (0, (P : Int))) 1 (0, (W : Int))) 0 (4, 3)) 10 (4, 29 + ((k : Int))), [], g)) rfl
        dsimp only at h
        rcases zif_ne h with ⟨hc9, h⟩ | ⟨hc9, h⟩
        · have h := zm zy_100 h 2 (q := (cond (crel .eq l 0) 172 134, dset (dset (dset (dset (dset (dset (dset (dset (dset (dset (dset lf 9 (0, (k : Int))) 8 (0, ms)) 7 (0, gs)) 6 (0, l)) 5 (0, u)) 4 (0, (T : Int))) 3 (0, (Q : Int))) 2 (0, (P : Int))) 1 (0, (W : Int))) 0 (4, 3)) 10 (4, 29 + ((k : Int))), [], g)) rfl
          dsimp only at h
          rcases zif_eq h with ⟨hc10, h⟩ | ⟨hc10, h⟩
          · have h := zm zy_100 h 2 (q := (38, dset (dset (dset (dset (dset (dset (dset (dset (dset (dset (dset (dset lf 9 (0, (k : Int))) 8 (0, ms)) 7 (0, gs)) 6 (0, l)) 5 (0, u)) 4 (0, (T : Int))) 3 (0, (Q : Int))) 2 (0, (P : Int))) 1 (0, (W : Int))) 0 (4, 3)) 10 (4, 29 + ((k : Int)))) 9 (0, w32 (((k : Int)) + 1)), [], g)) rfl
            dsimp only at h
            try rw [w32_eq (z := ((k : Int)) + 1) (v := 1 + (k : Int)) (by omega) (by omega) (by omega)] at h
            refine Or.inl (⟨Or.inr (Or.inr (Or.inl (⟨hc5, hc7, hc9, hc10⟩))), ?_⟩)
            exact ⟨_, rfl, rfl, rfl, rfl, rfl, rfl, rfl, rfl, rfl, rfl, h⟩
          · have h := zm zy_100 h 2 (q := (137, dset (dset (dset (dset (dset (dset (dset (dset (dset (dset (dset lf 9 (0, (k : Int))) 8 (0, ms)) 7 (0, gs)) 6 (0, l)) 5 (0, u)) 4 (0, (T : Int))) 3 (0, (Q : Int))) 2 (0, (P : Int))) 1 (0, (W : Int))) 0 (4, 3)) 10 (4, 29 + ((k : Int))), [(4, 29 + ((k : Int))), (4, 3)], g)) rfl
            dsimp only at h
            obtain ⟨gz12, rz13, hk, h⟩ := zcallI zy_100 h rfl rfl zy_88 zk_88
            dsimp only at hk h
            have hO14 := h
            have h := hk
            clear hk
            have h := zm zy_88 h 3 (q := (5, darg 0 [(4, 3), (4, 29 + ((k : Int)))], [(4, 29 + ((k : Int))), (4, 6)], g)) rfl
            dsimp only at h
            have h := zgf zy_88 h rfl rfl (dvf_29_1 (i := (k : Int)) (by omega) (by omega))
            dsimp only at h
            try rw [show (29 + ((k : Int))).toNat = 29 + k from by omega] at h
            try rw [hO.2.1] at h
            have h := zald zy_88 h rfl rfl (dvp_6 (i := (p : Int)) (by omega) (by omega))
            dsimp only at h
            have h := zgf zy_88 h rfl rfl (dvf_17_6 (i := (p : Int)) (by omega) (by omega))
            have h := zm zy_88 h 1 (q := (13, darg 0 [(4, 3), (4, 29 + ((k : Int)))], [(4, 29 + ((k : Int))), (4, 18 + 2 * ((p : Int)))], g)) rfl
            dsimp only at h
            have h := zgf zy_88 h rfl rfl (dvf_29_3 (i := (k : Int)) (by omega) (by omega))
            dsimp only at h
            try rw [show (29 + ((k : Int))).toNat = 29 + k from by omega] at h
            try rw [hO.2.2.2.1] at h
            have h := zald zy_88 h rfl rfl (dvr_18 (i := (p : Int)) (j := (t : Int)) (by omega) (by omega) (by omega) (by omega))
            dsimp only at h
            try rw [show (18 + 2 * ((p : Int))).toNat = 18 + 2 * p from by omega] at h
            try rw [show ((t : Int)).toNat = t from by omega] at h
            try rw [hv] at h
            have h := zm zy_88 h 1 (q := (18, darg 0 [(4, 3), (4, 29 + ((k : Int)))], [(4, 29 + ((k : Int))), (0, v)], g)) rfl
            dsimp only at h
            have h := zgf zy_88 h rfl rfl (dvf_29_2 (i := (k : Int)) (by omega) (by omega))
            dsimp only at h
            try rw [show (29 + ((k : Int))).toNat = 29 + k from by omega] at h
            try rw [hO.2.2.1] at h
            have h := zm zy_88 h 1 (q := (cond (crel .ne v ((q : Int))) 28 24, darg 0 [(4, 3), (4, 29 + ((k : Int)))], [], g)) rfl
            dsimp only at h
            rcases zif_ne h with ⟨hc15, h⟩ | ⟨hc15, h⟩
            · have h := zm zy_88 h 1 (q := (29, darg 0 [(4, 3), (4, 29 + ((k : Int)))], [(0, 0)], g)) rfl
              dsimp only at h
              have h := zret zy_88 h rfl rfl
              obtain ⟨e1, e2⟩ := oI h
              have h := hO14
              rw [e1, e2] at h
              clear e1 e2
              clear hO14
              have h := zm zy_100 h 3 (q := (146, dset (dset (dset (dset (dset (dset (dset (dset (dset (dset (dset lf 9 (0, (k : Int))) 8 (0, ms)) 7 (0, gs)) 6 (0, l)) 5 (0, u)) 4 (0, (T : Int))) 3 (0, (Q : Int))) 2 (0, (P : Int))) 1 (0, (W : Int))) 0 (4, 3)) 10 (4, 29 + ((k : Int))), [(4, 29 + ((k : Int))), (4, 3)], g)) rfl
              dsimp only at h
              have h := zgf zy_100 h rfl rfl (dvf_29_2 (i := (k : Int)) (by omega) (by omega))
              dsimp only at h
              try rw [show (29 + ((k : Int))).toNat = 29 + k from by omega] at h
              try rw [hO.2.2.1] at h
              have h := zm zy_100 h 1 (q := (151, dset (dset (dset (dset (dset (dset (dset (dset (dset (dset (dset lf 9 (0, (k : Int))) 8 (0, ms)) 7 (0, gs)) 6 (0, l)) 5 (0, u)) 4 (0, (T : Int))) 3 (0, (Q : Int))) 2 (0, (P : Int))) 1 (0, (W : Int))) 0 (4, 3)) 10 (4, 29 + ((k : Int))), [(4, 29 + ((k : Int))), (0, (q : Int)), (4, 3)], g)) rfl
              dsimp only at h
              have h := zgf zy_100 h rfl rfl (dvf_29_3 (i := (k : Int)) (by omega) (by omega))
              dsimp only at h
              try rw [show (29 + ((k : Int))).toNat = 29 + k from by omega] at h
              try rw [hO.2.2.2.1] at h
              have h := zm zy_100 h 2 (q := (157, dset (dset (dset (dset (dset (dset (dset (dset (dset (dset (dset lf 9 (0, (k : Int))) 8 (0, ms)) 7 (0, gs)) 6 (0, l)) 5 (0, u)) 4 (0, (T : Int))) 3 (0, (Q : Int))) 2 (0, (P : Int))) 1 (0, (W : Int))) 0 (4, 3)) 10 (4, 29 + ((k : Int))), [(0, (T : Int)), (0, (Q : Int)), (0, (t : Int)), (0, (q : Int)), (4, 3)], g)) rfl
              dsimp only at h
              obtain ⟨g_1, r_1, hk, h⟩ := zcallI zy_100 h rfl rfl zy_101 zk_101
              dsimp only at hk h
              refine Or.inr (Or.inl (⟨⟨hc5, hc7, hc9, hc10, hc15⟩, ?_⟩))
              refine ⟨g_1, r_1, hk, ?_⟩
              have h := zm zy_100 h 1 (q := (cond (crel .ne r_1 0) 172 163, dset (dset (dset (dset (dset (dset (dset (dset (dset (dset (dset lf 9 (0, (k : Int))) 8 (0, ms)) 7 (0, gs)) 6 (0, l)) 5 (0, u)) 4 (0, (T : Int))) 3 (0, (Q : Int))) 2 (0, (P : Int))) 1 (0, (W : Int))) 0 (4, 3)) 10 (4, 29 + ((k : Int))), [], g_1)) rfl
              dsimp only at h
              rcases zif_ne h with ⟨hc16, h⟩ | ⟨hc16, h⟩
              · have h := zm zy_100 h 2 (q := (38, dset (dset (dset (dset (dset (dset (dset (dset (dset (dset (dset (dset lf 9 (0, (k : Int))) 8 (0, ms)) 7 (0, gs)) 6 (0, l)) 5 (0, u)) 4 (0, (T : Int))) 3 (0, (Q : Int))) 2 (0, (P : Int))) 1 (0, (W : Int))) 0 (4, 3)) 10 (4, 29 + ((k : Int)))) 9 (0, w32 (((k : Int)) + 1)), [], g_1)) rfl
                dsimp only at h
                try rw [w32_eq (z := ((k : Int)) + 1) (v := 1 + (k : Int)) (by omega) (by omega) (by omega)] at h
                refine Or.inl (⟨hc16, ?_⟩)
                exact ⟨_, rfl, rfl, rfl, rfl, rfl, rfl, rfl, rfl, rfl, rfl, h⟩
              · have h := zm zy_100 h 8 (q := (38, dset (dset (dset (dset (dset (dset (dset (dset (dset (dset (dset (dset (dset lf 9 (0, (k : Int))) 8 (0, ms)) 7 (0, gs)) 6 (0, l)) 5 (0, u)) 4 (0, (T : Int))) 3 (0, (Q : Int))) 2 (0, (P : Int))) 1 (0, (W : Int))) 0 (4, 3)) 10 (4, 29 + ((k : Int)))) 8 (0, bor ms (bsl 1 ((k : Int))))) 9 (0, w32 (((k : Int)) + 1)), [], g_1)) rfl
                dsimp only at h
                try rw [w32_eq (z := ((k : Int)) + 1) (v := 1 + (k : Int)) (by omega) (by omega) (by omega)] at h
                refine Or.inr (⟨hc16, ?_⟩)
                exact ⟨_, rfl, rfl, rfl, rfl, rfl, rfl, rfl, rfl, rfl, rfl, h⟩
            · have h := zm zy_88 h 2 (q := (29, darg 0 [(4, 3), (4, 29 + ((k : Int)))], [(0, 1)], g)) rfl
              dsimp only at h
              have h := zret zy_88 h rfl rfl
              obtain ⟨e1, e2⟩ := oI h
              have h := hO14
              rw [e1, e2] at h
              clear e1 e2
              clear hO14
              have h := zm zy_100 h 3 (q := (38, dset (dset (dset (dset (dset (dset (dset (dset (dset (dset (dset (dset lf 9 (0, (k : Int))) 8 (0, ms)) 7 (0, gs)) 6 (0, l)) 5 (0, u)) 4 (0, (T : Int))) 3 (0, (Q : Int))) 2 (0, (P : Int))) 1 (0, (W : Int))) 0 (4, 3)) 10 (4, 29 + ((k : Int)))) 9 (0, w32 (((k : Int)) + 1)), [], g)) rfl
              dsimp only at h
              try rw [w32_eq (z := ((k : Int)) + 1) (v := 1 + (k : Int)) (by omega) (by omega) (by omega)] at h
              refine Or.inl (⟨Or.inr (Or.inr (Or.inr (⟨hc5, hc7, hc9, hc10, hc15⟩))), ?_⟩)
              exact ⟨_, rfl, rfl, rfl, rfl, rfl, rfl, rfl, rfl, rfl, rfl, h⟩
        · have h := zm zy_100 h 1 (q := (80, dset (dset (dset (dset (dset (dset (dset (dset (dset (dset (dset lf 9 (0, (k : Int))) 8 (0, ms)) 7 (0, gs)) 6 (0, l)) 5 (0, u)) 4 (0, (T : Int))) 3 (0, (Q : Int))) 2 (0, (P : Int))) 1 (0, (W : Int))) 0 (4, 3)) 10 (4, 29 + ((k : Int))), [(4, 29 + ((k : Int)))], g)) rfl
          dsimp only at h
          have h := zgf zy_100 h rfl rfl (dvf_29_2 (i := (k : Int)) (by omega) (by omega))
          dsimp only at h
          try rw [show (29 + ((k : Int))).toNat = 29 + k from by omega] at h
          try rw [hO.2.2.1] at h
          have h := zm zy_100 h 2 (q := (cond (crel .eq ((q : Int)) ((Q : Int))) 100 87, dset (dset (dset (dset (dset (dset (dset (dset (dset (dset (dset lf 9 (0, (k : Int))) 8 (0, ms)) 7 (0, gs)) 6 (0, l)) 5 (0, u)) 4 (0, (T : Int))) 3 (0, (Q : Int))) 2 (0, (P : Int))) 1 (0, (W : Int))) 0 (4, 3)) 10 (4, 29 + ((k : Int))), [], g)) rfl
          dsimp only at h
          rcases zif_eq h with ⟨hc20, h⟩ | ⟨hc20, h⟩
          · have h := zm zy_100 h 5 (q := (cond (crel .eq u 0) 122 110, dset (dset (dset (dset (dset (dset (dset (dset (dset (dset (dset (dset lf 9 (0, (k : Int))) 8 (0, ms)) 7 (0, gs)) 6 (0, l)) 5 (0, u)) 4 (0, (T : Int))) 3 (0, (Q : Int))) 2 (0, (P : Int))) 1 (0, (W : Int))) 0 (4, 3)) 10 (4, 29 + ((k : Int)))) 11 (0, 0), [(0, gs)], g)) rfl
            dsimp only at h
            rcases zif_eq h with ⟨hc21, h⟩ | ⟨hc21, h⟩
            · have h := zm zy_100 h 6 (q := (38, dset (dset (dset (dset (dset (dset (dset (dset (dset (dset (dset (dset (dset (dset lf 9 (0, (k : Int))) 8 (0, ms)) 7 (0, gs)) 6 (0, l)) 5 (0, u)) 4 (0, (T : Int))) 3 (0, (Q : Int))) 2 (0, (P : Int))) 1 (0, (W : Int))) 0 (4, 3)) 10 (4, 29 + ((k : Int)))) 11 (0, 0)) 7 (0, bor gs 0)) 9 (0, w32 (((k : Int)) + 1)), [], g)) rfl
              dsimp only at h
              try rw [w32_eq (z := ((k : Int)) + 1) (v := 1 + (k : Int)) (by omega) (by omega) (by omega)] at h
              refine Or.inr (Or.inr (Or.inl (⟨Or.inl (⟨hc5, hc7, hc9, hc20, hc21⟩), ?_⟩)))
              exact ⟨_, rfl, rfl, rfl, rfl, rfl, rfl, rfl, rfl, rfl, rfl, h⟩
            · have h := zm zy_100 h 8 (q := (38, dset (dset (dset (dset (dset (dset (dset (dset (dset (dset (dset (dset (dset (dset lf 9 (0, (k : Int))) 8 (0, ms)) 7 (0, gs)) 6 (0, l)) 5 (0, u)) 4 (0, (T : Int))) 3 (0, (Q : Int))) 2 (0, (P : Int))) 1 (0, (W : Int))) 0 (4, 3)) 10 (4, 29 + ((k : Int)))) 11 (0, 0)) 7 (0, bor gs 0)) 9 (0, w32 (((k : Int)) + 1)), [], g)) rfl
              dsimp only at h
              try rw [w32_eq (z := ((k : Int)) + 1) (v := 1 + (k : Int)) (by omega) (by omega) (by omega)] at h
              refine Or.inr (Or.inr (Or.inl (⟨Or.inr (Or.inl (⟨hc5, hc7, hc9, hc20, hc21⟩)), ?_⟩)))
              exact ⟨_, rfl, rfl, rfl, rfl, rfl, rfl, rfl, rfl, rfl, rfl, h⟩
          · have h := zm zy_100 h 1 (q := (89, dset (dset (dset (dset (dset (dset (dset (dset (dset (dset (dset lf 9 (0, (k : Int))) 8 (0, ms)) 7 (0, gs)) 6 (0, l)) 5 (0, u)) 4 (0, (T : Int))) 3 (0, (Q : Int))) 2 (0, (P : Int))) 1 (0, (W : Int))) 0 (4, 3)) 10 (4, 29 + ((k : Int))), [(4, 29 + ((k : Int)))], g)) rfl
            dsimp only at h
            have h := zgf zy_100 h rfl rfl (dvf_29_0 (i := (k : Int)) (by omega) (by omega))
            dsimp only at h
            try rw [show (29 + ((k : Int))).toNat = 29 + k from by omega] at h
            try rw [hO.1] at h
            have h := zm zy_100 h 2 (q := (cond (crel .eq ((w : Int)) ((W : Int))) 100 96, dset (dset (dset (dset (dset (dset (dset (dset (dset (dset (dset lf 9 (0, (k : Int))) 8 (0, ms)) 7 (0, gs)) 6 (0, l)) 5 (0, u)) 4 (0, (T : Int))) 3 (0, (Q : Int))) 2 (0, (P : Int))) 1 (0, (W : Int))) 0 (4, 3)) 10 (4, 29 + ((k : Int))), [], g)) rfl
            dsimp only at h
            rcases zif_eq h with ⟨hc24, h⟩ | ⟨hc24, h⟩
            · have h := zm zy_100 h 5 (q := (cond (crel .eq u 0) 122 110, dset (dset (dset (dset (dset (dset (dset (dset (dset (dset (dset (dset lf 9 (0, (k : Int))) 8 (0, ms)) 7 (0, gs)) 6 (0, l)) 5 (0, u)) 4 (0, (T : Int))) 3 (0, (Q : Int))) 2 (0, (P : Int))) 1 (0, (W : Int))) 0 (4, 3)) 10 (4, 29 + ((k : Int)))) 11 (0, 0), [(0, gs)], g)) rfl
              dsimp only at h
              rcases zif_eq h with ⟨hc25, h⟩ | ⟨hc25, h⟩
              · have h := zm zy_100 h 6 (q := (38, dset (dset (dset (dset (dset (dset (dset (dset (dset (dset (dset (dset (dset (dset lf 9 (0, (k : Int))) 8 (0, ms)) 7 (0, gs)) 6 (0, l)) 5 (0, u)) 4 (0, (T : Int))) 3 (0, (Q : Int))) 2 (0, (P : Int))) 1 (0, (W : Int))) 0 (4, 3)) 10 (4, 29 + ((k : Int)))) 11 (0, 0)) 7 (0, bor gs 0)) 9 (0, w32 (((k : Int)) + 1)), [], g)) rfl
                dsimp only at h
                try rw [w32_eq (z := ((k : Int)) + 1) (v := 1 + (k : Int)) (by omega) (by omega) (by omega)] at h
                refine Or.inr (Or.inr (Or.inl (⟨Or.inr (Or.inr (Or.inl (⟨hc5, hc7, hc9, hc20, hc24, hc25⟩))), ?_⟩)))
                exact ⟨_, rfl, rfl, rfl, rfl, rfl, rfl, rfl, rfl, rfl, rfl, h⟩
              · have h := zm zy_100 h 8 (q := (38, dset (dset (dset (dset (dset (dset (dset (dset (dset (dset (dset (dset (dset (dset lf 9 (0, (k : Int))) 8 (0, ms)) 7 (0, gs)) 6 (0, l)) 5 (0, u)) 4 (0, (T : Int))) 3 (0, (Q : Int))) 2 (0, (P : Int))) 1 (0, (W : Int))) 0 (4, 3)) 10 (4, 29 + ((k : Int)))) 11 (0, 0)) 7 (0, bor gs 0)) 9 (0, w32 (((k : Int)) + 1)), [], g)) rfl
                dsimp only at h
                try rw [w32_eq (z := ((k : Int)) + 1) (v := 1 + (k : Int)) (by omega) (by omega) (by omega)] at h
                refine Or.inr (Or.inr (Or.inl (⟨Or.inr (Or.inr (Or.inr (Or.inl (⟨hc5, hc7, hc9, hc20, hc24, hc25⟩)))), ?_⟩)))
                exact ⟨_, rfl, rfl, rfl, rfl, rfl, rfl, rfl, rfl, rfl, rfl, h⟩
            · have h := zm zy_100 h 6 (q := (cond (crel .eq u 0) 122 110, dset (dset (dset (dset (dset (dset (dset (dset (dset (dset (dset (dset lf 9 (0, (k : Int))) 8 (0, ms)) 7 (0, gs)) 6 (0, l)) 5 (0, u)) 4 (0, (T : Int))) 3 (0, (Q : Int))) 2 (0, (P : Int))) 1 (0, (W : Int))) 0 (4, 3)) 10 (4, 29 + ((k : Int)))) 11 (0, 1), [(0, gs)], g)) rfl
              dsimp only at h
              rcases zif_eq h with ⟨hc28, h⟩ | ⟨hc28, h⟩
              · have h := zm zy_100 h 6 (q := (38, dset (dset (dset (dset (dset (dset (dset (dset (dset (dset (dset (dset (dset (dset lf 9 (0, (k : Int))) 8 (0, ms)) 7 (0, gs)) 6 (0, l)) 5 (0, u)) 4 (0, (T : Int))) 3 (0, (Q : Int))) 2 (0, (P : Int))) 1 (0, (W : Int))) 0 (4, 3)) 10 (4, 29 + ((k : Int)))) 11 (0, 1)) 7 (0, bor gs 0)) 9 (0, w32 (((k : Int)) + 1)), [], g)) rfl
                dsimp only at h
                try rw [w32_eq (z := ((k : Int)) + 1) (v := 1 + (k : Int)) (by omega) (by omega) (by omega)] at h
                refine Or.inr (Or.inr (Or.inl (⟨Or.inr (Or.inr (Or.inr (Or.inr (⟨hc5, hc7, hc9, hc20, hc24, hc28⟩)))), ?_⟩)))
                exact ⟨_, rfl, rfl, rfl, rfl, rfl, rfl, rfl, rfl, rfl, rfl, h⟩
              · have h := zm zy_100 h 11 (q := (38, dset (dset (dset (dset (dset (dset (dset (dset (dset (dset (dset (dset (dset (dset lf 9 (0, (k : Int))) 8 (0, ms)) 7 (0, gs)) 6 (0, l)) 5 (0, u)) 4 (0, (T : Int))) 3 (0, (Q : Int))) 2 (0, (P : Int))) 1 (0, (W : Int))) 0 (4, 3)) 10 (4, 29 + ((k : Int)))) 11 (0, 1)) 7 (0, bor gs (bsl 1 ((k : Int))))) 9 (0, w32 (((k : Int)) + 1)), [], g)) rfl
                dsimp only at h
                try rw [w32_eq (z := ((k : Int)) + 1) (v := 1 + (k : Int)) (by omega) (by omega) (by omega)] at h
                refine Or.inr (Or.inr (Or.inr (⟨⟨hc5, hc7, hc9, hc20, hc24, hc28⟩, ?_⟩)))
                exact ⟨_, rfl, rfl, rfl, rfl, rfl, rfl, rfl, rfl, rfl, rfl, h⟩
theorem t_stk_e {sv : Nat → Int32} {L n : Nat} {lf : dlf} {g : cg} {o : cg × Option cv} {W P Q T k N : Nat} {u l gs ms : Int} (rW : W ≤ 5) (rP : P ≤ 5) (rQ : Q ≤ 4) (rT : T ≤ 7) (rk : k ≤ 16) (rN : N ≤ 16) (hN : g 3 9 = (N : Int)) (hge : N ≤ k) (h : zr sv L (n + 1) 100 38 lf [] g o) (hl0 : lf 0 = (4, 3)) (hl1 : lf 1 = (0, (W : Int))) (hl2 : lf 2 = (0, (P : Int))) (hl3 : lf 3 = (0, (Q : Int))) (hl4 : lf 4 = (0, (T : Int))) (hl5 : lf 5 = (0, u)) (hl6 : lf 6 = (0, l)) (hl7 : lf 7 = (0, gs)) (hl8 : lf 8 = (0, ms)) (hl9 : lf 9 = (0, (k : Int))) : ((ms ≠ 0) ∧ (o = (g, some (0, bor (bor gs ms) (bsl 1 ((N : Int))))))) ∨ ((ms = 0) ∧ (o = (g, some (0, bor (bor gs ms) 0)))) := by
  rw [zov hl0, zov hl1, zov hl2, zov hl3, zov hl4, zov hl5, zov hl6, zov hl7, zov hl8, zov hl9] at h
  have h := zm1 zy_100 h 3 (q := (cond (crel .ge ((k : Int)) (g 3 9)) 178 47, dset (dset (dset (dset (dset (dset (dset (dset (dset (dset lf 9 (0, (k : Int))) 8 (0, ms)) 7 (0, gs)) 6 (0, l)) 5 (0, u)) 4 (0, (T : Int))) 3 (0, (Q : Int))) 2 (0, (P : Int))) 1 (0, (W : Int))) 0 (4, 3), [], g)) rfl
  dsimp only at h
  try rw [hN] at h
  rcases zif_ge h with ⟨hc1, h⟩ | ⟨hc1, h⟩
  · have h := zm zy_100 h 2 (q := (cond (crel .ne ms 0) 187 183, dset (dset (dset (dset (dset (dset (dset (dset (dset (dset lf 9 (0, (k : Int))) 8 (0, ms)) 7 (0, gs)) 6 (0, l)) 5 (0, u)) 4 (0, (T : Int))) 3 (0, (Q : Int))) 2 (0, (P : Int))) 1 (0, (W : Int))) 0 (4, 3), [], g)) rfl
    dsimp only at h
    rcases zif_ne h with ⟨hc2, h⟩ | ⟨hc2, h⟩
    · have h := zm zy_100 h 10 (q := (203, dset (dset (dset (dset (dset (dset (dset (dset (dset (dset (dset lf 9 (0, (k : Int))) 8 (0, ms)) 7 (0, gs)) 6 (0, l)) 5 (0, u)) 4 (0, (T : Int))) 3 (0, (Q : Int))) 2 (0, (P : Int))) 1 (0, (W : Int))) 0 (4, 3)) 9 (0, bsl 1 (g 3 9)), [(0, bor (bor gs ms) (bsl 1 (g 3 9)))], g)) rfl
      dsimp only at h
      try rw [hN] at h
      refine Or.inl (⟨hc2, ?_⟩)
      exact zret zy_100 h rfl rfl
    · have h := zm zy_100 h 8 (q := (203, dset (dset (dset (dset (dset (dset (dset (dset (dset (dset (dset lf 9 (0, (k : Int))) 8 (0, ms)) 7 (0, gs)) 6 (0, l)) 5 (0, u)) 4 (0, (T : Int))) 3 (0, (Q : Int))) 2 (0, (P : Int))) 1 (0, (W : Int))) 0 (4, 3)) 9 (0, 0), [(0, bor (bor gs ms) 0)], g)) rfl
      dsimp only at h
      refine Or.inr (⟨hc2, ?_⟩)
      exact zret zy_100 h rfl rfl
  · exact absurd hc1 (by omega)
theorem t_fit {sv : Nat → Int32} {L n : Nat} {lf : dlf} {g : cg} {o : cg × Option cv} {q t Q T : Nat} {x y sp : Int} (rq : q ≤ 4) (rt : t ≤ 7) (rQ : Q ≤ 4) (rT : T ≤ 7) (hx : g 4 q = x) (hy : g 4 Q = y) (hs : g 3 7 = sp) (h : zr sv L n 101 0 lf [] g o) (hl0 : lf 0 = (4, 3)) (hl1 : lf 1 = (0, (q : Int))) (hl2 : lf 2 = (0, (t : Int))) (hl3 : lf 3 = (0, (Q : Int))) (hl4 : lf 4 = (0, (T : Int))) : ((((t : Int) ≠ (T : Int) ∧ w32 ((w32 (sp * (-(T : Int) + (t : Int)))) * (w32 (sp * (-(T : Int) + (t : Int))))) < w32 ((w32 (x - y)) * (w32 (x - y)))) ∨ ((t : Int) = (T : Int) ∧ (q : Int) ≠ (Q : Int))) ∧ (o = (g, some (0, 0)))) ∨ ((((t : Int) ≠ (T : Int) ∧ w32 ((w32 (x - y)) * (w32 (x - y))) ≤ w32 ((w32 (sp * (-(T : Int) + (t : Int)))) * (w32 (sp * (-(T : Int) + (t : Int)))))) ∨ ((t : Int) = (T : Int) ∧ (q : Int) = (Q : Int))) ∧ (o = (g, some (0, 1)))) := by
  rw [zov hl0, zov hl1, zov hl2, zov hl3, zov hl4] at h
  have h := zm zy_101 h 3 (q := (cond (crel .ne ((t : Int)) ((T : Int))) 17 6, dset (dset (dset (dset (dset lf 4 (0, (T : Int))) 3 (0, (Q : Int))) 2 (0, (t : Int))) 1 (0, (q : Int))) 0 (4, 3), [], g)) rfl
  dsimp only at h
  rcases zif_ne h with ⟨hc1, h⟩ | ⟨hc1, h⟩
  · have h := zm zy_101 h 3 (q := (22, dset (dset (dset (dset (dset lf 4 (0, (T : Int))) 3 (0, (Q : Int))) 2 (0, (t : Int))) 1 (0, (q : Int))) 0 (4, 3), [(0, (q : Int)), (4, 4)], g)) rfl
    dsimp only at h
    have h := zald zy_101 h rfl rfl (dvb_4 (i := (q : Int)) (by omega) (by omega))
    dsimp only at h
    try rw [show ((q : Int)).toNat = q from by omega] at h
    try rw [hx] at h
    have h := zm zy_101 h 3 (q := (28, dset (dset (dset (dset (dset lf 4 (0, (T : Int))) 3 (0, (Q : Int))) 2 (0, (t : Int))) 1 (0, (q : Int))) 0 (4, 3), [(0, (Q : Int)), (4, 4), (0, x)], g)) rfl
    dsimp only at h
    have h := zald zy_101 h rfl rfl (dvb_4 (i := (Q : Int)) (by omega) (by omega))
    dsimp only at h
    try rw [show ((Q : Int)).toNat = Q from by omega] at h
    try rw [hy] at h
    have h := zm zy_101 h 16 (q := (cond (crel .gt (w32 ((w32 (x - y)) * (w32 (x - y)))) (w32 ((w32 ((g 3 7) * (w32 (((t : Int)) - ((T : Int)))))) * (w32 ((g 3 7) * (w32 (((t : Int)) - ((T : Int))))))))) 60 56, dset (dset (dset (dset (dset (dset (dset lf 4 (0, (T : Int))) 3 (0, (Q : Int))) 2 (0, (t : Int))) 1 (0, (q : Int))) 0 (4, 3)) 5 (0, w32 (x - y))) 6 (0, w32 ((g 3 7) * (w32 (((t : Int)) - ((T : Int)))))), [], g)) rfl
    dsimp only at h
    try rw [hs] at h
    try rw [w32_eq (z := ((t : Int)) - ((T : Int))) (v := -(T : Int) + (t : Int)) (by omega) (by omega) (by omega)] at h
    rcases zif_gt h with ⟨hc2, h⟩ | ⟨hc2, h⟩
    · have h := zm zy_101 h 1 (q := (61, dset (dset (dset (dset (dset (dset (dset lf 4 (0, (T : Int))) 3 (0, (Q : Int))) 2 (0, (t : Int))) 1 (0, (q : Int))) 0 (4, 3)) 5 (0, w32 (x - y))) 6 (0, w32 (sp * (-(T : Int) + (t : Int)))), [(0, 0)], g)) rfl
      dsimp only at h
      refine Or.inl (⟨Or.inl (⟨hc1, hc2⟩), ?_⟩)
      exact zret zy_101 h rfl rfl
    · have h := zm zy_101 h 2 (q := (61, dset (dset (dset (dset (dset (dset (dset lf 4 (0, (T : Int))) 3 (0, (Q : Int))) 2 (0, (t : Int))) 1 (0, (q : Int))) 0 (4, 3)) 5 (0, w32 (x - y))) 6 (0, w32 (sp * (-(T : Int) + (t : Int)))), [(0, 1)], g)) rfl
      dsimp only at h
      refine Or.inr (⟨Or.inl (⟨hc1, hc2⟩), ?_⟩)
      exact zret zy_101 h rfl rfl
  · have h := zm zy_101 h 3 (q := (cond (crel .ne ((q : Int)) ((Q : Int))) 15 11, dset (dset (dset (dset (dset lf 4 (0, (T : Int))) 3 (0, (Q : Int))) 2 (0, (t : Int))) 1 (0, (q : Int))) 0 (4, 3), [], g)) rfl
    dsimp only at h
    rcases zif_ne h with ⟨hc3, h⟩ | ⟨hc3, h⟩
    · have h := zm zy_101 h 1 (q := (16, dset (dset (dset (dset (dset lf 4 (0, (T : Int))) 3 (0, (Q : Int))) 2 (0, (t : Int))) 1 (0, (q : Int))) 0 (4, 3), [(0, 0)], g)) rfl
      dsimp only at h
      refine Or.inl (⟨Or.inr (⟨hc1, hc3⟩), ?_⟩)
      exact zret zy_101 h rfl rfl
    · have h := zm zy_101 h 2 (q := (16, dset (dset (dset (dset (dset lf 4 (0, (T : Int))) 3 (0, (Q : Int))) 2 (0, (t : Int))) 1 (0, (q : Int))) 0 (4, 3), [(0, 1)], g)) rfl
      dsimp only at h
      refine Or.inr (⟨Or.inr (⟨hc1, hc3⟩), ?_⟩)
      exact zret zy_101 h rfl rfl
theorem t_ent0 {sv : Nat → Int32} {L n : Nat} {lf : dlf} {g : cg} {o : cg × Option cv} {W P Q T N : Nat} {fe : Int} (rW : W ≤ 5) (rP : P ≤ 5) (rQ : Q ≤ 4) (rT : T ≤ 7) (rN : N ≤ 15) (hN : g 3 9 = (N : Int)) (h : zr sv L n 103 0 lf [] g o) (hl0 : lf 0 = (4, 3)) (hl1 : lf 1 = (0, (W : Int))) (hl2 : lf 2 = (0, (P : Int))) (hl3 : lf 3 = (0, (Q : Int))) (hl4 : lf 4 = (0, (T : Int))) (hl5 : lf 5 = (0, fe)) : ∃ g_1 r_1, zr sv L n 100 0 (darg 0 [(4, 3), (0, (W : Int)), (0, (P : Int)), (0, (Q : Int)), (0, (T : Int))]) [] g (g_1, some (0, r_1)) ∧ (∃ lf', lf' 0 = (4, 3) ∧ lf' 1 = (0, (W : Int)) ∧ lf' 2 = (0, (P : Int)) ∧ lf' 3 = (0, (Q : Int)) ∧ lf' 4 = (0, (T : Int)) ∧ lf' 5 = (0, fe) ∧ lf' 6 = (0, r_1) ∧ zr sv L n 103 22 lf' [] g_1 o) := by
  rw [zov hl0, zov hl1, zov hl2, zov hl3, zov hl4, zov hl5] at h
  have h := zm zy_103 h 4 (q := (cond (crel .lt (g 3 9) 16) 11 9, dset (dset (dset (dset (dset (dset lf 5 (0, fe)) 4 (0, (T : Int))) 3 (0, (Q : Int))) 2 (0, (P : Int))) 1 (0, (W : Int))) 0 (4, 3), [], g)) rfl
  dsimp only at h
  try rw [hN] at h
  rcases zif_lt h with ⟨hc1, h⟩ | ⟨hc1, h⟩
  · have h := zm zy_103 h 5 (q := (17, dset (dset (dset (dset (dset (dset lf 5 (0, fe)) 4 (0, (T : Int))) 3 (0, (Q : Int))) 2 (0, (P : Int))) 1 (0, (W : Int))) 0 (4, 3), [(0, (T : Int)), (0, (Q : Int)), (0, (P : Int)), (0, (W : Int)), (4, 3)], g)) rfl
    dsimp only at h
    obtain ⟨g_1, r_1, hk, h⟩ := zcallI zy_103 h rfl rfl zy_100 zk_100
    dsimp only at hk h
    refine ⟨g_1, r_1, hk, ?_⟩
    have h := zm zy_103 h 1 (q := (22, dset (dset (dset (dset (dset (dset (dset lf 5 (0, fe)) 4 (0, (T : Int))) 3 (0, (Q : Int))) 2 (0, (P : Int))) 1 (0, (W : Int))) 0 (4, 3)) 6 (0, r_1), [], g_1)) rfl
    dsimp only at h
    exact ⟨_, rfl, rfl, rfl, rfl, rfl, rfl, rfl, h⟩
  · exact absurd hc1 (by omega)
theorem t_ent25 {sv : Nat → Int32} {L n : Nat} {lf : dlf} {g : cg} {o : cg × Option cv} {W P Q T N : Nat} {fe sk pu : Int} (rW : W ≤ 5) (rP : P ≤ 5) (rQ : Q ≤ 4) (rT : T ≤ 7) (rN : N ≤ 15) (hN : g 3 9 = (N : Int)) (hpu : g (17 + 2 * W) 1 = pu) (h : zr sv L n 103 22 lf [] g o) (hl0 : lf 0 = (4, 3)) (hl1 : lf 1 = (0, (W : Int))) (hl2 : lf 2 = (0, (P : Int))) (hl3 : lf 3 = (0, (Q : Int))) (hl4 : lf 4 = (0, (T : Int))) (hl5 : lf 5 = (0, fe)) (hl6 : lf 6 = (0, sk)) : ∃ lf', lf' 0 = (4, 3) ∧ lf' 6 = (0, sk) ∧ lf' 8 = (0, 0) ∧ zr sv L n 103 123 lf' [] (cup (cup (cup (cup (cup (cup (cup (cup (cup (cup (cup g (29 + N) 0 ((W : Int))) (29 + N) 1 ((P : Int))) (29 + N) 2 ((Q : Int))) (29 + N) 3 ((T : Int))) (29 + N) 4 fe) (29 + N) 5 0) (29 + N) 6 0) (29 + N) 7 0) (17 + 2 * W) 1 (w32 (pu - fe))) 3 8 (w32 ((g 3 8) + fe))) 3 9 (1 + (N : Int))) o := by
  rw [zov hl0, zov hl1, zov hl2, zov hl3, zov hl4, zov hl5, zov hl6] at h
  have h := zm zy_103 h 4 (q := (30, dset (dset (dset (dset (dset (dset (dset lf 6 (0, sk)) 5 (0, fe)) 4 (0, (T : Int))) 3 (0, (Q : Int))) 2 (0, (P : Int))) 1 (0, (W : Int))) 0 (4, 3), [(0, g 3 9), (4, 7)], g)) rfl
  dsimp only at h
  try rw [hN] at h
  have h := zald zy_103 h rfl rfl (dvp_7 (i := (N : Int)) (by omega) (by omega))
  dsimp only at h
  have h := zm zy_103 h 28 (q := (88, dset (dset (dset (dset (dset (dset (dset (dset lf 6 (0, sk)) 5 (0, fe)) 4 (0, (T : Int))) 3 (0, (Q : Int))) 2 (0, (P : Int))) 1 (0, (W : Int))) 0 (4, 3)) 7 (4, 29 + ((N : Int))), [(0, (W : Int)), (4, 6)], cup (cup (cup (cup (cup (cup (cup (cup g ((29 + ((N : Int))).toNat) 0 ((W : Int))) ((29 + ((N : Int))).toNat) 1 ((P : Int))) ((29 + ((N : Int))).toNat) 2 ((Q : Int))) ((29 + ((N : Int))).toNat) 3 ((T : Int))) ((29 + ((N : Int))).toNat) 4 fe) ((29 + ((N : Int))).toNat) 5 0) ((29 + ((N : Int))).toNat) 6 0) ((29 + ((N : Int))).toNat) 7 0)) rfl
  dsimp only at h
  try rw [show (29 + ((N : Int))).toNat = 29 + N from by omega] at h
  have h := zald zy_103 h rfl rfl (dvp_6 (i := (W : Int)) (by omega) (by omega))
  dsimp only at h
  have h := zm zy_103 h 1 (q := (90, dset (dset (dset (dset (dset (dset (dset (dset lf 6 (0, sk)) 5 (0, fe)) 4 (0, (T : Int))) 3 (0, (Q : Int))) 2 (0, (P : Int))) 1 (0, (W : Int))) 0 (4, 3)) 7 (4, 29 + ((N : Int))), [(4, 17 + 2 * ((W : Int))), (4, 17 + 2 * ((W : Int)))], cup (cup (cup (cup (cup (cup (cup (cup g (29 + N) 0 ((W : Int))) (29 + N) 1 ((P : Int))) (29 + N) 2 ((Q : Int))) (29 + N) 3 ((T : Int))) (29 + N) 4 fe) (29 + N) 5 0) (29 + N) 6 0) (29 + N) 7 0)) rfl
  dsimp only at h
  have h := zgf zy_103 h rfl rfl (dvf_17_1 (i := (W : Int)) (by omega) (by omega))
  dsimp only at h
  try rw [show (17 + 2 * ((W : Int))).toNat = 17 + 2 * W from by omega] at h
  try rw [cup_ne (g := cup (cup (cup (cup (cup (cup (cup g (29 + N) 0 ((W : Int))) (29 + N) 1 ((P : Int))) (29 + N) 2 ((Q : Int))) (29 + N) 3 ((T : Int))) (29 + N) 4 fe) (29 + N) 5 0) (29 + N) 6 0) (k := 29 + N) (j := 7) (k' := 17 + 2 * W) (j' := 1) (by omega)] at h
  try rw [cup_ne (g := cup (cup (cup (cup (cup (cup g (29 + N) 0 ((W : Int))) (29 + N) 1 ((P : Int))) (29 + N) 2 ((Q : Int))) (29 + N) 3 ((T : Int))) (29 + N) 4 fe) (29 + N) 5 0) (k := 29 + N) (j := 6) (k' := 17 + 2 * W) (j' := 1) (by omega)] at h
  try rw [cup_ne (g := cup (cup (cup (cup (cup g (29 + N) 0 ((W : Int))) (29 + N) 1 ((P : Int))) (29 + N) 2 ((Q : Int))) (29 + N) 3 ((T : Int))) (29 + N) 4 fe) (k := 29 + N) (j := 5) (k' := 17 + 2 * W) (j' := 1) (by omega)] at h
  try rw [cup_ne (g := cup (cup (cup (cup g (29 + N) 0 ((W : Int))) (29 + N) 1 ((P : Int))) (29 + N) 2 ((Q : Int))) (29 + N) 3 ((T : Int))) (k := 29 + N) (j := 4) (k' := 17 + 2 * W) (j' := 1) (by omega)] at h
  try rw [cup_ne (g := cup (cup (cup g (29 + N) 0 ((W : Int))) (29 + N) 1 ((P : Int))) (29 + N) 2 ((Q : Int))) (k := 29 + N) (j := 3) (k' := 17 + 2 * W) (j' := 1) (by omega)] at h
  try rw [cup_ne (g := cup (cup g (29 + N) 0 ((W : Int))) (29 + N) 1 ((P : Int))) (k := 29 + N) (j := 2) (k' := 17 + 2 * W) (j' := 1) (by omega)] at h
  try rw [cup_ne (g := cup g (29 + N) 0 ((W : Int))) (k := 29 + N) (j := 1) (k' := 17 + 2 * W) (j' := 1) (by omega)] at h
  try rw [cup_ne (g := g) (k := 29 + N) (j := 0) (k' := 17 + 2 * W) (j' := 1) (by omega)] at h
  try rw [hpu] at h
  have h := zm zy_103 h 6 (q := (104, dset (dset (dset (dset (dset (dset (dset (dset lf 6 (0, sk)) 5 (0, fe)) 4 (0, (T : Int))) 3 (0, (Q : Int))) 2 (0, (P : Int))) 1 (0, (W : Int))) 0 (4, 3)) 7 (4, 29 + ((N : Int))), [(0, (cup (cup (cup (cup (cup (cup (cup (cup (cup g (29 + N) 0 ((W : Int))) (29 + N) 1 ((P : Int))) (29 + N) 2 ((Q : Int))) (29 + N) 3 ((T : Int))) (29 + N) 4 fe) (29 + N) 5 0) (29 + N) 6 0) (29 + N) 7 0) ((17 + 2 * ((W : Int))).toNat) 1 (w32 (pu - fe))) 3 8), (4, 3)], cup (cup (cup (cup (cup (cup (cup (cup (cup g (29 + N) 0 ((W : Int))) (29 + N) 1 ((P : Int))) (29 + N) 2 ((Q : Int))) (29 + N) 3 ((T : Int))) (29 + N) 4 fe) (29 + N) 5 0) (29 + N) 6 0) (29 + N) 7 0) ((17 + 2 * ((W : Int))).toNat) 1 (w32 (pu - fe)))) rfl
  dsimp only at h
  try rw [show (17 + 2 * ((W : Int))).toNat = 17 + 2 * W from by omega] at h
  try rw [cup_ne (g := cup (cup (cup (cup (cup (cup (cup (cup g (29 + N) 0 ((W : Int))) (29 + N) 1 ((P : Int))) (29 + N) 2 ((Q : Int))) (29 + N) 3 ((T : Int))) (29 + N) 4 fe) (29 + N) 5 0) (29 + N) 6 0) (29 + N) 7 0) (k := 17 + 2 * W) (j := 1) (k' := 3) (j' := 8) (by omega)] at h
  try rw [cup_ne (g := cup (cup (cup (cup (cup (cup (cup g (29 + N) 0 ((W : Int))) (29 + N) 1 ((P : Int))) (29 + N) 2 ((Q : Int))) (29 + N) 3 ((T : Int))) (29 + N) 4 fe) (29 + N) 5 0) (29 + N) 6 0) (k := 29 + N) (j := 7) (k' := 3) (j' := 8) (by omega)] at h
  try rw [cup_ne (g := cup (cup (cup (cup (cup (cup g (29 + N) 0 ((W : Int))) (29 + N) 1 ((P : Int))) (29 + N) 2 ((Q : Int))) (29 + N) 3 ((T : Int))) (29 + N) 4 fe) (29 + N) 5 0) (k := 29 + N) (j := 6) (k' := 3) (j' := 8) (by omega)] at h
  try rw [cup_ne (g := cup (cup (cup (cup (cup g (29 + N) 0 ((W : Int))) (29 + N) 1 ((P : Int))) (29 + N) 2 ((Q : Int))) (29 + N) 3 ((T : Int))) (29 + N) 4 fe) (k := 29 + N) (j := 5) (k' := 3) (j' := 8) (by omega)] at h
  try rw [cup_ne (g := cup (cup (cup (cup g (29 + N) 0 ((W : Int))) (29 + N) 1 ((P : Int))) (29 + N) 2 ((Q : Int))) (29 + N) 3 ((T : Int))) (k := 29 + N) (j := 4) (k' := 3) (j' := 8) (by omega)] at h
  try rw [cup_ne (g := cup (cup (cup g (29 + N) 0 ((W : Int))) (29 + N) 1 ((P : Int))) (29 + N) 2 ((Q : Int))) (k := 29 + N) (j := 3) (k' := 3) (j' := 8) (by omega)] at h
  try rw [cup_ne (g := cup (cup g (29 + N) 0 ((W : Int))) (29 + N) 1 ((P : Int))) (k := 29 + N) (j := 2) (k' := 3) (j' := 8) (by omega)] at h
  try rw [cup_ne (g := cup g (29 + N) 0 ((W : Int))) (k := 29 + N) (j := 1) (k' := 3) (j' := 8) (by omega)] at h
  try rw [cup_ne (g := g) (k := 29 + N) (j := 0) (k' := 3) (j' := 8) (by omega)] at h
  have h := zm zy_103 h 6 (q := (115, dset (dset (dset (dset (dset (dset (dset (dset lf 6 (0, sk)) 5 (0, fe)) 4 (0, (T : Int))) 3 (0, (Q : Int))) 2 (0, (P : Int))) 1 (0, (W : Int))) 0 (4, 3)) 7 (4, 29 + ((N : Int))), [(0, (cup (cup (cup (cup (cup (cup (cup (cup (cup (cup g (29 + N) 0 ((W : Int))) (29 + N) 1 ((P : Int))) (29 + N) 2 ((Q : Int))) (29 + N) 3 ((T : Int))) (29 + N) 4 fe) (29 + N) 5 0) (29 + N) 6 0) (29 + N) 7 0) (17 + 2 * W) 1 (w32 (pu - fe))) 3 8 (w32 ((g 3 8) + fe))) 3 9), (4, 3)], cup (cup (cup (cup (cup (cup (cup (cup (cup (cup g (29 + N) 0 ((W : Int))) (29 + N) 1 ((P : Int))) (29 + N) 2 ((Q : Int))) (29 + N) 3 ((T : Int))) (29 + N) 4 fe) (29 + N) 5 0) (29 + N) 6 0) (29 + N) 7 0) (17 + 2 * W) 1 (w32 (pu - fe))) 3 8 (w32 ((g 3 8) + fe)))) rfl
  dsimp only at h
  try rw [cup_ne (g := cup (cup (cup (cup (cup (cup (cup (cup (cup g (29 + N) 0 ((W : Int))) (29 + N) 1 ((P : Int))) (29 + N) 2 ((Q : Int))) (29 + N) 3 ((T : Int))) (29 + N) 4 fe) (29 + N) 5 0) (29 + N) 6 0) (29 + N) 7 0) (17 + 2 * W) 1 (w32 (pu - fe))) (k := 3) (j := 8) (k' := 3) (j' := 9) (by omega)] at h
  try rw [cup_ne (g := cup (cup (cup (cup (cup (cup (cup (cup g (29 + N) 0 ((W : Int))) (29 + N) 1 ((P : Int))) (29 + N) 2 ((Q : Int))) (29 + N) 3 ((T : Int))) (29 + N) 4 fe) (29 + N) 5 0) (29 + N) 6 0) (29 + N) 7 0) (k := 17 + 2 * W) (j := 1) (k' := 3) (j' := 9) (by omega)] at h
  try rw [cup_ne (g := cup (cup (cup (cup (cup (cup (cup g (29 + N) 0 ((W : Int))) (29 + N) 1 ((P : Int))) (29 + N) 2 ((Q : Int))) (29 + N) 3 ((T : Int))) (29 + N) 4 fe) (29 + N) 5 0) (29 + N) 6 0) (k := 29 + N) (j := 7) (k' := 3) (j' := 9) (by omega)] at h
  try rw [cup_ne (g := cup (cup (cup (cup (cup (cup g (29 + N) 0 ((W : Int))) (29 + N) 1 ((P : Int))) (29 + N) 2 ((Q : Int))) (29 + N) 3 ((T : Int))) (29 + N) 4 fe) (29 + N) 5 0) (k := 29 + N) (j := 6) (k' := 3) (j' := 9) (by omega)] at h
  try rw [cup_ne (g := cup (cup (cup (cup (cup g (29 + N) 0 ((W : Int))) (29 + N) 1 ((P : Int))) (29 + N) 2 ((Q : Int))) (29 + N) 3 ((T : Int))) (29 + N) 4 fe) (k := 29 + N) (j := 5) (k' := 3) (j' := 9) (by omega)] at h
  try rw [cup_ne (g := cup (cup (cup (cup g (29 + N) 0 ((W : Int))) (29 + N) 1 ((P : Int))) (29 + N) 2 ((Q : Int))) (29 + N) 3 ((T : Int))) (k := 29 + N) (j := 4) (k' := 3) (j' := 9) (by omega)] at h
  try rw [cup_ne (g := cup (cup (cup g (29 + N) 0 ((W : Int))) (29 + N) 1 ((P : Int))) (29 + N) 2 ((Q : Int))) (k := 29 + N) (j := 3) (k' := 3) (j' := 9) (by omega)] at h
  try rw [cup_ne (g := cup (cup g (29 + N) 0 ((W : Int))) (29 + N) 1 ((P : Int))) (k := 29 + N) (j := 2) (k' := 3) (j' := 9) (by omega)] at h
  try rw [cup_ne (g := cup g (29 + N) 0 ((W : Int))) (k := 29 + N) (j := 1) (k' := 3) (j' := 9) (by omega)] at h
  try rw [cup_ne (g := g) (k := 29 + N) (j := 0) (k' := 3) (j' := 9) (by omega)] at h
  try rw [hN] at h
  have h := zm zy_103 h 5 (q := (123, dset (dset (dset (dset (dset (dset (dset (dset (dset lf 6 (0, sk)) 5 (0, fe)) 4 (0, (T : Int))) 3 (0, (Q : Int))) 2 (0, (P : Int))) 1 (0, (W : Int))) 0 (4, 3)) 7 (4, 29 + ((N : Int)))) 8 (0, 0), [], cup (cup (cup (cup (cup (cup (cup (cup (cup (cup (cup g (29 + N) 0 ((W : Int))) (29 + N) 1 ((P : Int))) (29 + N) 2 ((Q : Int))) (29 + N) 3 ((T : Int))) (29 + N) 4 fe) (29 + N) 5 0) (29 + N) 6 0) (29 + N) 7 0) (17 + 2 * W) 1 (w32 (pu - fe))) 3 8 (w32 ((g 3 8) + fe))) 3 9 (w32 (((N : Int)) + 1)))) rfl
  dsimp only at h
  try rw [w32_eq (z := ((N : Int)) + 1) (v := 1 + (N : Int)) (by omega) (by omega) (by omega)] at h
  exact ⟨_, rfl, rfl, rfl, h⟩
theorem t_ent_s {sv : Nat → Int32} {L n : Nat} {lf : dlf} {g : cg} {o : cg × Option cv} {k N : Nat} {sk : Int} (rk : k ≤ 15) (rN : N ≤ 16) (hN : g 3 9 = (N : Int)) (hlt : k < N) (h : zr sv L (n + 1) 103 123 lf [] g o) (hl0 : lf 0 = (4, 3)) (hl6 : lf 6 = (0, sk)) (hl8 : lf 8 = (0, (k : Int))) : ((ban (bsr sk ((k : Int))) 1 = 0) ∧ (∃ lf', lf' 0 = (4, 3) ∧ lf' 6 = (0, sk) ∧ lf' 8 = (0, 1 + (k : Int)) ∧ zr sv L n 103 123 lf' [] g o)) ∨ ((ban (bsr sk ((k : Int))) 1 ≠ 0) ∧ (∃ lf', lf' 0 = (4, 3) ∧ lf' 6 = (0, sk) ∧ lf' 8 = (0, 1 + (k : Int)) ∧ zr sv L n 103 123 lf' [] (cup g (29 + k) 5 1) o)) := by
  rw [zov hl0, zov hl6, zov hl8] at h
  have h := zm1 zy_103 h 3 (q := (cond (crel .ge ((k : Int)) (g 3 9)) 159 132, dset (dset (dset lf 8 (0, (k : Int))) 6 (0, sk)) 0 (4, 3), [], g)) rfl
  dsimp only at h
  try rw [hN] at h
  rcases zif_ge h with ⟨hc1, h⟩ | ⟨hc1, h⟩
  · exact absurd hc1 (by omega)
  · have h := zm zy_103 h 6 (q := (cond (crel .eq (ban (bsr sk ((k : Int))) 1) 0) 153 142, dset (dset (dset lf 8 (0, (k : Int))) 6 (0, sk)) 0 (4, 3), [], g)) rfl
    dsimp only at h
    rcases zif_eq h with ⟨hc2, h⟩ | ⟨hc2, h⟩
    · have h := zm zy_103 h 2 (q := (123, dset (dset (dset (dset lf 8 (0, (k : Int))) 6 (0, sk)) 0 (4, 3)) 8 (0, w32 (((k : Int)) + 1)), [], g)) rfl
      dsimp only at h
      try rw [w32_eq (z := ((k : Int)) + 1) (v := 1 + (k : Int)) (by omega) (by omega) (by omega)] at h
      refine Or.inl (⟨hc2, ?_⟩)
      exact ⟨_, rfl, rfl, rfl, h⟩
    · have h := zm zy_103 h 3 (q := (148, dset (dset (dset lf 8 (0, (k : Int))) 6 (0, sk)) 0 (4, 3), [(0, (k : Int)), (4, 7)], g)) rfl
      dsimp only at h
      have h := zald zy_103 h rfl rfl (dvp_7 (i := (k : Int)) (by omega) (by omega))
      dsimp only at h
      have h := zm zy_103 h 4 (q := (123, dset (dset (dset (dset lf 8 (0, (k : Int))) 6 (0, sk)) 0 (4, 3)) 8 (0, w32 (((k : Int)) + 1)), [], cup g ((29 + ((k : Int))).toNat) 5 1)) rfl
      dsimp only at h
      try rw [w32_eq (z := ((k : Int)) + 1) (v := 1 + (k : Int)) (by omega) (by omega) (by omega)] at h
      try rw [show (29 + ((k : Int))).toNat = 29 + k from by omega] at h
      refine Or.inr (⟨hc2, ?_⟩)
      exact ⟨_, rfl, rfl, rfl, h⟩
theorem t_ent_e {sv : Nat → Int32} {L n : Nat} {lf : dlf} {g : cg} {o : cg × Option cv} {k N : Nat} {sk : Int} (rk : k ≤ 16) (rN : N ≤ 16) (hN : g 3 9 = (N : Int)) (hge : N ≤ k) (h : zr sv L (n + 1) 103 123 lf [] g o) (hl0 : lf 0 = (4, 3)) (hl6 : lf 6 = (0, sk)) (hl8 : lf 8 = (0, (k : Int))) : o = (g, some (0, (N : Int) - 1)) := by
  rw [zov hl0, zov hl6, zov hl8] at h
  have h := zm1 zy_103 h 3 (q := (cond (crel .ge ((k : Int)) (g 3 9)) 159 132, dset (dset (dset lf 8 (0, (k : Int))) 6 (0, sk)) 0 (4, 3), [], g)) rfl
  dsimp only at h
  try rw [hN] at h
  rcases zif_ge h with ⟨hc1, h⟩ | ⟨hc1, h⟩
  · have h := zm zy_103 h 4 (q := (165, dset (dset (dset lf 8 (0, (k : Int))) 6 (0, sk)) 0 (4, 3), [(0, w32 ((g 3 9) - 1))], g)) rfl
    dsimp only at h
    try rw [hN] at h
    try rw [w32_eq (z := ((N : Int)) - 1) (v := (N : Int) - 1) (by omega) (by omega) (by omega)] at h
    exact zret zy_103 h rfl rfl
  · exact absurd hc1 (by omega)
theorem t_rec0 {sv : Nat → Int32} {L n : Nat} {lf : dlf} {g : cg} {o : cg × Option cv} {a : Int} (h : zr sv L n 307 0 lf [] g o) (hl0 : lf 0 = (4, 0)) (hl1 : lf 1 = (0, a)) : (((a < 0) ∨ (0 ≤ a ∧ g 3 9 ≤ a)) ∧ (o = (cup g 0 0 1, some (0, (-1))))) ∨ ((0 ≤ a ∧ a < g 3 9) ∧ (∃ lf', lf' 0 = (4, 0) ∧ lf' 1 = (0, a) ∧ zr sv L n 307 17 lf' [] g o)) := by
  rw [zov hl0, zov hl1] at h
  have h := zm zy_307 h 3 (q := (5, dset (dset lf 1 (0, a)) 0 (4, 0), [(0, a), (4, 3)], g)) rfl
  dsimp only at h
  obtain ⟨gz1, rz2, hk, h⟩ := zcallI zy_307 h rfl rfl zy_87 zk_87
  dsimp only at hk h
  have hO3 := h
  have h := hk
  clear hk
  have h := zm zy_87 h 2 (q := (cond (crel .lt a 0) 16 4, darg 0 [(4, 3), (0, a)], [], g)) rfl
  dsimp only at h
  rcases zif_lt h with ⟨hc4, h⟩ | ⟨hc4, h⟩
  · have h := zm zy_87 h 1 (q := (17, darg 0 [(4, 3), (0, a)], [(0, 0)], g)) rfl
    dsimp only at h
    have h := zret zy_87 h rfl rfl
    obtain ⟨e1, e2⟩ := oI h
    have h := hO3
    rw [e1, e2] at h
    clear e1 e2
    clear hO3
    have h := zm zy_307 h 3 (q := (13, dset (dset lf 1 (0, a)) 0 (4, 0), [(0, 1), (4, 0)], g)) rfl
    dsimp only at h
    obtain ⟨gz5, rz6, hk, h⟩ := zcallI zy_307 h rfl rfl zy_29 zk_29
    dsimp only at hk h
    have hO7 := h
    have h := hk
    clear hk
    have h := zm zy_29 h 4 (q := (6, darg 0 [(4, 0), (0, 1)], [(0, (-1))], cup g 0 0 1)) rfl
    dsimp only at h
    have h := zret zy_29 h rfl rfl
    obtain ⟨e1, e2⟩ := oI h
    have h := hO7
    rw [e1, e2] at h
    clear e1 e2
    clear hO7
    refine Or.inl (⟨Or.inl (hc4), ?_⟩)
    exact zret zy_307 h rfl rfl
  · have h := zm zy_87 h 4 (q := (cond (crel .ge a (g 3 9)) 16 12, darg 0 [(4, 3), (0, a)], [], g)) rfl
    dsimp only at h
    rcases zif_ge h with ⟨hc8, h⟩ | ⟨hc8, h⟩
    · have h := zm zy_87 h 1 (q := (17, darg 0 [(4, 3), (0, a)], [(0, 0)], g)) rfl
      dsimp only at h
      have h := zret zy_87 h rfl rfl
      obtain ⟨e1, e2⟩ := oI h
      have h := hO3
      rw [e1, e2] at h
      clear e1 e2
      clear hO3
      have h := zm zy_307 h 3 (q := (13, dset (dset lf 1 (0, a)) 0 (4, 0), [(0, 1), (4, 0)], g)) rfl
      dsimp only at h
      obtain ⟨gz9, rz10, hk, h⟩ := zcallI zy_307 h rfl rfl zy_29 zk_29
      dsimp only at hk h
      have hO11 := h
      have h := hk
      clear hk
      have h := zm zy_29 h 4 (q := (6, darg 0 [(4, 0), (0, 1)], [(0, (-1))], cup g 0 0 1)) rfl
      dsimp only at h
      have h := zret zy_29 h rfl rfl
      obtain ⟨e1, e2⟩ := oI h
      have h := hO11
      rw [e1, e2] at h
      clear e1 e2
      clear hO11
      refine Or.inl (⟨Or.inr (⟨hc4, hc8⟩), ?_⟩)
      exact zret zy_307 h rfl rfl
    · have h := zm zy_87 h 2 (q := (17, darg 0 [(4, 3), (0, a)], [(0, 1)], g)) rfl
      dsimp only at h
      have h := zret zy_87 h rfl rfl
      obtain ⟨e1, e2⟩ := oI h
      have h := hO3
      rw [e1, e2] at h
      clear e1 e2
      clear hO3
      have h := zm zy_307 h 1 (q := (17, dset (dset lf 1 (0, a)) 0 (4, 0), [], g)) rfl
      dsimp only at h
      refine Or.inr (⟨⟨hc4, hc8⟩, ?_⟩)
      exact ⟨_, rfl, rfl, h⟩
theorem t_rec17 {sv : Nat → Int32} {L n : Nat} {lf : dlf} {g : cg} {o : cg × Option cv} {w p q t k : Nat} {f s b : Int} (rw : w ≤ 5) (rp : p ≤ 5) (rq : q ≤ 4) (rt : t ≤ 7) (rk : k ≤ 15) (hO : OHC g k w p q t f s b) (h : zr sv L n 307 17 lf [] g o) (hl0 : lf 0 = (4, 0)) (hl1 : lf 1 = (0, (k : Int))) : ((s = 0) ∧ (∃ g_1 r_1, zr sv L n 76 0 (darg 0 [(4, 3), (0, 0)]) [] (cup g (29 + k) 5 2) (g_1, some (0, r_1)) ∧ (o = (cup g_1 0 0 0, some (0, r_1))))) ∨ ((s ≠ 0) ∧ (o = (cup g 0 0 7, some (0, (-1))))) := by
  rw [zov hl0, zov hl1] at h
  have h := zm zy_307 h 4 (q := (25, dset (dset lf 1 (0, (k : Int))) 0 (4, 0), [(0, (k : Int)), (4, 7)], g)) rfl
  dsimp only at h
  have h := zald zy_307 h rfl rfl (dvp_7 (i := (k : Int)) (by omega) (by omega))
  dsimp only at h
  have h := zgf zy_307 h rfl rfl (dvf_29_5 (i := (k : Int)) (by omega) (by omega))
  dsimp only at h
  try rw [show (29 + ((k : Int))).toNat = 29 + k from by omega] at h
  try rw [hO.2.2.2.2.2.1] at h
  have h := zm zy_307 h 1 (q := (cond (crel .eq s 0) 39 32, dset (dset lf 1 (0, (k : Int))) 0 (4, 0), [], g)) rfl
  dsimp only at h
  rcases zif_eq h with ⟨hc1, h⟩ | ⟨hc1, h⟩
  · have h := zm zy_307 h 4 (q := (47, dset (dset lf 1 (0, (k : Int))) 0 (4, 0), [(0, (k : Int)), (4, 7)], g)) rfl
    dsimp only at h
    have h := zald zy_307 h rfl rfl (dvp_7 (i := (k : Int)) (by omega) (by omega))
    dsimp only at h
    have h := zm zy_307 h 6 (q := (58, dset (dset lf 1 (0, (k : Int))) 0 (4, 0), [(0, 0), (4, 3), (4, 0)], cup g ((29 + ((k : Int))).toNat) 5 2)) rfl
    dsimp only at h
    try rw [show (29 + ((k : Int))).toNat = 29 + k from by omega] at h
    obtain ⟨g_1, r_1, hk, h⟩ := zcallI zy_307 h rfl rfl zy_76 zk_76
    dsimp only at hk h
    refine Or.inl (⟨hc1, ?_⟩)
    refine ⟨g_1, r_1, hk, ?_⟩
    obtain ⟨gz2, rz3, hk, h⟩ := zcallI zy_307 h rfl rfl zy_64 zk_64
    dsimp only at hk h
    have hO4 := h
    have h := hk
    clear hk
    have h := zm zy_64 h 4 (q := (6, darg 0 [(4, 0), (0, r_1)], [(0, r_1)], cup g_1 0 0 0)) rfl
    dsimp only at h
    have h := zret zy_64 h rfl rfl
    obtain ⟨e1, e2⟩ := oI h
    have h := hO4
    rw [e1, e2] at h
    clear e1 e2
    clear hO4
    exact zret zy_307 h rfl rfl
  · have h := zm zy_307 h 2 (q := (35, dset (dset lf 1 (0, (k : Int))) 0 (4, 0), [(0, 7), (4, 0)], g)) rfl
    dsimp only at h
    obtain ⟨gz5, rz6, hk, h⟩ := zcallI zy_307 h rfl rfl zy_29 zk_29
    dsimp only at hk h
    have hO7 := h
    have h := hk
    clear hk
    have h := zm zy_29 h 4 (q := (6, darg 0 [(4, 0), (0, 7)], [(0, (-1))], cup g 0 0 7)) rfl
    dsimp only at h
    have h := zret zy_29 h rfl rfl
    obtain ⟨e1, e2⟩ := oI h
    have h := hO7
    rw [e1, e2] at h
    clear e1 e2
    clear hO7
    refine Or.inr (⟨hc1, ?_⟩)
    exact zret zy_307 h rfl rfl
theorem m_rec0 {sv : Nat → Int32} {L n : Nat} {lf : dlf} {g : cg} {o : cg × Option cv} {a : Int} (h : zr sv L n 308 0 lf [] g o) (hl0 : lf 0 = (4, 253)) (hl1 : lf 1 = (0, a)) : (((a < 0) ∨ (0 ≤ a ∧ g 254 2 ≤ a)) ∧ (o = (cup g 253 2 1, some (0, (-1))))) ∨ ((0 ≤ a ∧ a < g 254 2) ∧ (∃ lf', lf' 0 = (4, 253) ∧ lf' 1 = (0, a) ∧ zr sv L n 308 14 lf' [] g o)) := by
  rw [zov hl0, zov hl1] at h
  have h := zm zy_308 h 2 (q := (2, dset (dset lf 1 (0, a)) 0 (4, 253), [(0, a), (4, 253)], g)) rfl
  dsimp only at h
  obtain ⟨gz1, rz2, hk, h⟩ := zcallI zy_308 h rfl rfl zy_217 zk_217
  dsimp only at hk h
  have hO3 := h
  have h := hk
  clear hk
  have h := zm zy_217 h 2 (q := (cond (crel .lt a 0) 18 4, darg 0 [(4, 253), (0, a)], [], g)) rfl
  dsimp only at h
  rcases zif_lt h with ⟨hc4, h⟩ | ⟨hc4, h⟩
  · have h := zm zy_217 h 1 (q := (19, darg 0 [(4, 253), (0, a)], [(0, 0)], g)) rfl
    dsimp only at h
    have h := zret zy_217 h rfl rfl
    obtain ⟨e1, e2⟩ := oI h
    have h := hO3
    rw [e1, e2] at h
    clear e1 e2
    clear hO3
    have h := zm zy_308 h 3 (q := (10, dset (dset lf 1 (0, a)) 0 (4, 253), [(0, 1), (4, 253)], g)) rfl
    dsimp only at h
    obtain ⟨gz5, rz6, hk, h⟩ := zcallI zy_308 h rfl rfl zy_170 zk_170
    dsimp only at hk h
    have hO7 := h
    have h := hk
    clear hk
    have h := zm zy_170 h 4 (q := (6, darg 0 [(4, 253), (0, 1)], [(0, (-1))], cup g 253 2 1)) rfl
    dsimp only at h
    have h := zret zy_170 h rfl rfl
    obtain ⟨e1, e2⟩ := oI h
    have h := hO7
    rw [e1, e2] at h
    clear e1 e2
    clear hO7
    refine Or.inl (⟨Or.inl (hc4), ?_⟩)
    exact zret zy_308 h rfl rfl
  · have h := zm zy_217 h 6 (q := (cond (crel .ge a (g 254 2)) 18 14, darg 0 [(4, 253), (0, a)], [], g)) rfl
    dsimp only at h
    rcases zif_ge h with ⟨hc8, h⟩ | ⟨hc8, h⟩
    · have h := zm zy_217 h 1 (q := (19, darg 0 [(4, 253), (0, a)], [(0, 0)], g)) rfl
      dsimp only at h
      have h := zret zy_217 h rfl rfl
      obtain ⟨e1, e2⟩ := oI h
      have h := hO3
      rw [e1, e2] at h
      clear e1 e2
      clear hO3
      have h := zm zy_308 h 3 (q := (10, dset (dset lf 1 (0, a)) 0 (4, 253), [(0, 1), (4, 253)], g)) rfl
      dsimp only at h
      obtain ⟨gz9, rz10, hk, h⟩ := zcallI zy_308 h rfl rfl zy_170 zk_170
      dsimp only at hk h
      have hO11 := h
      have h := hk
      clear hk
      have h := zm zy_170 h 4 (q := (6, darg 0 [(4, 253), (0, 1)], [(0, (-1))], cup g 253 2 1)) rfl
      dsimp only at h
      have h := zret zy_170 h rfl rfl
      obtain ⟨e1, e2⟩ := oI h
      have h := hO11
      rw [e1, e2] at h
      clear e1 e2
      clear hO11
      refine Or.inl (⟨Or.inr (⟨hc4, hc8⟩), ?_⟩)
      exact zret zy_308 h rfl rfl
    · have h := zm zy_217 h 2 (q := (19, darg 0 [(4, 253), (0, a)], [(0, 1)], g)) rfl
      dsimp only at h
      have h := zret zy_217 h rfl rfl
      obtain ⟨e1, e2⟩ := oI h
      have h := hO3
      rw [e1, e2] at h
      clear e1 e2
      clear hO3
      have h := zm zy_308 h 1 (q := (14, dset (dset lf 1 (0, a)) 0 (4, 253), [], g)) rfl
      dsimp only at h
      refine Or.inr (⟨⟨hc4, hc8⟩, ?_⟩)
      exact ⟨_, rfl, rfl, h⟩
theorem m_rec14 {sv : Nat → Int32} {L n : Nat} {lf : dlf} {g : cg} {o : cg × Option cv} {w p q t k : Nat} {f s b : Int} (rw : w ≤ 5) (rp : p ≤ 5) (rq : q ≤ 4) (rt : t ≤ 7) (rk : k ≤ 15) (hO : OHM g k w p q t f s b) (h : zr sv L n 308 14 lf [] g o) (hl0 : lf 0 = (4, 253)) (hl1 : lf 1 = (0, (k : Int))) : ((s ≠ 0) ∧ (o = (cup g 253 2 7, some (0, (-1))))) ∨ ((s = 0) ∧ (∃ g_1 r_1, zr sv L n 235 0 (darg 0 [(4, 253)]) [] (cup g 254 (104 + 8 * k) 2) (g_1, some (0, r_1)) ∧ (o = (cup g_1 253 2 0, some (0, r_1))))) := by
  rw [zov hl0, zov hl1] at h
  have h := zm zy_308 h 2 (q := (16, dset (dset lf 1 (0, (k : Int))) 0 (4, 253), [(0, (k : Int)), (4, 253)], g)) rfl
  dsimp only at h
  obtain ⟨gz1, rz2, hk, h⟩ := zcallI zy_308 h rfl rfl zy_201 zk_201
  dsimp only at hk h
  have hO3 := h
  have h := hk
  clear hk
  have h := zm zy_201 h 3 (q := (5, darg 0 [(4, 253), (0, (k : Int))], [(0, (k : Int)), (4, 254)], g)) rfl
  dsimp only at h
  obtain ⟨gz4, rz5, hk, h⟩ := zcallI zy_201 h rfl rfl zy_199 zk_199
  dsimp only at hk h
  have hO6 := h
  have h := hk
  clear hk
  have h := zm zy_199 h 5 (q := (7, darg 0 [(0, (k : Int))], [(0, w32 (99 + (w32 (8 * ((k : Int))))))], g)) rfl
  dsimp only at h
  try rw [w32_eq (z := 8 * ((k : Int))) (v := 8 * (k : Int)) (by omega) (by omega) (by omega)] at h
  try rw [w32_eq (z := 99 + (8 * (k : Int))) (v := 99 + 8 * (k : Int)) (by omega) (by omega) (by omega)] at h
  have h := zret zy_199 h rfl rfl
  obtain ⟨e1, e2⟩ := oI h
  have h := hO6
  rw [e1, e2] at h
  clear e1 e2
  clear hO6
  have h := zm zy_201 h 2 (q := (10, darg 0 [(4, 253), (0, (k : Int))], [(0, w32 ((99 + 8 * (k : Int)) + 5)), (4, 254)], g)) rfl
  dsimp only at h
  try rw [w32_eq (z := (99 + 8 * (k : Int)) + 5) (v := 104 + 8 * (k : Int)) (by omega) (by omega) (by omega)] at h
  have h := zald zy_201 h rfl rfl (dvb_254 (i := 104 + 8 * (k : Int)) (by omega) (by omega))
  dsimp only at h
  try rw [show (104 + 8 * (k : Int)).toNat = 104 + 8 * k from by omega] at h
  try rw [hO.2.2.2.2.2.1] at h
  have h := zm zy_201 h 1 (q := (cond (crel .ne s 0) 18 14, darg 0 [(4, 253), (0, (k : Int))], [], g)) rfl
  dsimp only at h
  rcases zif_ne h with ⟨hc7, h⟩ | ⟨hc7, h⟩
  · have h := zm zy_201 h 1 (q := (19, darg 0 [(4, 253), (0, (k : Int))], [(0, 0)], g)) rfl
    dsimp only at h
    have h := zret zy_201 h rfl rfl
    obtain ⟨e1, e2⟩ := oI h
    have h := hO3
    rw [e1, e2] at h
    clear e1 e2
    clear hO3
    have h := zm zy_308 h 3 (q := (25, dset (dset lf 1 (0, (k : Int))) 0 (4, 253), [(0, 7), (4, 253)], g)) rfl
    dsimp only at h
    obtain ⟨gz8, rz9, hk, h⟩ := zcallI zy_308 h rfl rfl zy_170 zk_170
    dsimp only at hk h
    have hO10 := h
    have h := hk
    clear hk
    have h := zm zy_170 h 4 (q := (6, darg 0 [(4, 253), (0, 7)], [(0, (-1))], cup g 253 2 7)) rfl
    dsimp only at h
    have h := zret zy_170 h rfl rfl
    obtain ⟨e1, e2⟩ := oI h
    have h := hO10
    rw [e1, e2] at h
    clear e1 e2
    clear hO10
    refine Or.inl (⟨hc7, ?_⟩)
    exact zret zy_308 h rfl rfl
  · have h := zm zy_201 h 2 (q := (19, darg 0 [(4, 253), (0, (k : Int))], [(0, 1)], g)) rfl
    dsimp only at h
    have h := zret zy_201 h rfl rfl
    obtain ⟨e1, e2⟩ := oI h
    have h := hO3
    rw [e1, e2] at h
    clear e1 e2
    clear hO3
    have h := zm zy_308 h 4 (q := (34, dset (dset lf 1 (0, (k : Int))) 0 (4, 253), [(0, (k : Int)), (4, 254)], g)) rfl
    dsimp only at h
    obtain ⟨gz11, rz12, hk, h⟩ := zcallI zy_308 h rfl rfl zy_199 zk_199
    dsimp only at hk h
    have hO13 := h
    have h := hk
    clear hk
    have h := zm zy_199 h 5 (q := (7, darg 0 [(0, (k : Int))], [(0, w32 (99 + (w32 (8 * ((k : Int))))))], g)) rfl
    dsimp only at h
    try rw [w32_eq (z := 8 * ((k : Int))) (v := 8 * (k : Int)) (by omega) (by omega) (by omega)] at h
    try rw [w32_eq (z := 99 + (8 * (k : Int))) (v := 99 + 8 * (k : Int)) (by omega) (by omega) (by omega)] at h
    have h := zret zy_199 h rfl rfl
    obtain ⟨e1, e2⟩ := oI h
    have h := hO13
    rw [e1, e2] at h
    clear e1 e2
    clear hO13
    have h := zm zy_308 h 6 (q := (43, dset (dset lf 1 (0, (k : Int))) 0 (4, 253), [(4, 253), (4, 253)], cup g 254 ((w32 ((99 + 8 * (k : Int)) + 5)).toNat) 2)) rfl
    dsimp only at h
    try rw [w32_eq (z := (99 + 8 * (k : Int)) + 5) (v := 104 + 8 * (k : Int)) (by omega) (by omega) (by omega)] at h
    try rw [show (104 + 8 * (k : Int)).toNat = 104 + 8 * k from by omega] at h
    obtain ⟨g_1, r_1, hk, h⟩ := zcallI zy_308 h rfl rfl zy_235 zk_235
    dsimp only at hk h
    refine Or.inr (⟨hc7, ?_⟩)
    refine ⟨g_1, r_1, hk, ?_⟩
    obtain ⟨gz14, rz15, hk, h⟩ := zcallI zy_308 h rfl rfl zy_192 zk_192
    dsimp only at hk h
    have hO16 := h
    have h := hk
    clear hk
    have h := zm zy_192 h 4 (q := (6, darg 0 [(4, 253), (0, r_1)], [(0, r_1)], cup g_1 253 2 0)) rfl
    dsimp only at h
    have h := zret zy_192 h rfl rfl
    obtain ⟨e1, e2⟩ := oI h
    have h := hO16
    rw [e1, e2] at h
    clear e1 e2
    clear hO16
    exact zret zy_308 h rfl rfl
theorem t_ern0 {sv : Nat → Int32} {L n : Nat} {lf : dlf} {g : cg} {o : cg × Option cv} {a b : Int} (h : zr sv L n 309 0 lf [] g o) (hl0 : lf 0 = (4, 0)) (hl1 : lf 1 = (0, a)) (hl2 : lf 2 = (0, b)) : (((a < 0) ∨ (0 ≤ a ∧ g 3 3 ≤ a) ∨ (0 ≤ a ∧ a < g 3 3 ∧ b < 1) ∨ (0 ≤ a ∧ a < g 3 3 ∧ 1 ≤ b ∧ 999 < b)) ∧ (o = (cup g 0 0 1, some (0, (-1))))) ∨ ((0 ≤ a ∧ a < g 3 3 ∧ 1 ≤ b ∧ b ≤ 999) ∧ (∃ lf', lf' 0 = (4, 0) ∧ lf' 1 = (0, a) ∧ lf' 2 = (0, b) ∧ zr sv L n 309 28 lf' [] g o)) := by
  rw [zov hl0, zov hl1, zov hl2] at h
  have h := zm zy_309 h 3 (q := (5, dset (dset (dset lf 2 (0, b)) 1 (0, a)) 0 (4, 0), [(0, a), (4, 3)], g)) rfl
  dsimp only at h
  obtain ⟨gz1, rz2, hk, h⟩ := zcallI zy_309 h rfl rfl zy_81 zk_81
  dsimp only at hk h
  have hO3 := h
  have h := hk
  clear hk
  have h := zm zy_81 h 2 (q := (cond (crel .lt a 0) 16 4, darg 0 [(4, 3), (0, a)], [], g)) rfl
  dsimp only at h
  rcases zif_lt h with ⟨hc4, h⟩ | ⟨hc4, h⟩
  · have h := zm zy_81 h 1 (q := (17, darg 0 [(4, 3), (0, a)], [(0, 0)], g)) rfl
    dsimp only at h
    have h := zret zy_81 h rfl rfl
    obtain ⟨e1, e2⟩ := oI h
    have h := hO3
    rw [e1, e2] at h
    clear e1 e2
    clear hO3
    have h := zm zy_309 h 3 (q := (24, dset (dset (dset lf 2 (0, b)) 1 (0, a)) 0 (4, 0), [(0, 1), (4, 0)], g)) rfl
    dsimp only at h
    obtain ⟨gz5, rz6, hk, h⟩ := zcallI zy_309 h rfl rfl zy_29 zk_29
    dsimp only at hk h
    have hO7 := h
    have h := hk
    clear hk
    have h := zm zy_29 h 4 (q := (6, darg 0 [(4, 0), (0, 1)], [(0, (-1))], cup g 0 0 1)) rfl
    dsimp only at h
    have h := zret zy_29 h rfl rfl
    obtain ⟨e1, e2⟩ := oI h
    have h := hO7
    rw [e1, e2] at h
    clear e1 e2
    clear hO7
    refine Or.inl (⟨Or.inl (hc4), ?_⟩)
    exact zret zy_309 h rfl rfl
  · have h := zm zy_81 h 4 (q := (cond (crel .ge a (g 3 3)) 16 12, darg 0 [(4, 3), (0, a)], [], g)) rfl
    dsimp only at h
    rcases zif_ge h with ⟨hc8, h⟩ | ⟨hc8, h⟩
    · have h := zm zy_81 h 1 (q := (17, darg 0 [(4, 3), (0, a)], [(0, 0)], g)) rfl
      dsimp only at h
      have h := zret zy_81 h rfl rfl
      obtain ⟨e1, e2⟩ := oI h
      have h := hO3
      rw [e1, e2] at h
      clear e1 e2
      clear hO3
      have h := zm zy_309 h 3 (q := (24, dset (dset (dset lf 2 (0, b)) 1 (0, a)) 0 (4, 0), [(0, 1), (4, 0)], g)) rfl
      dsimp only at h
      obtain ⟨gz9, rz10, hk, h⟩ := zcallI zy_309 h rfl rfl zy_29 zk_29
      dsimp only at hk h
      have hO11 := h
      have h := hk
      clear hk
      have h := zm zy_29 h 4 (q := (6, darg 0 [(4, 0), (0, 1)], [(0, (-1))], cup g 0 0 1)) rfl
      dsimp only at h
      have h := zret zy_29 h rfl rfl
      obtain ⟨e1, e2⟩ := oI h
      have h := hO11
      rw [e1, e2] at h
      clear e1 e2
      clear hO11
      refine Or.inl (⟨Or.inr (Or.inl (⟨hc4, hc8⟩)), ?_⟩)
      exact zret zy_309 h rfl rfl
    · have h := zm zy_81 h 2 (q := (17, darg 0 [(4, 3), (0, a)], [(0, 1)], g)) rfl
      dsimp only at h
      have h := zret zy_81 h rfl rfl
      obtain ⟨e1, e2⟩ := oI h
      have h := hO3
      rw [e1, e2] at h
      clear e1 e2
      clear hO3
      have h := zm zy_309 h 4 (q := (16, dset (dset (dset lf 2 (0, b)) 1 (0, a)) 0 (4, 0), [(0, 999), (0, 1), (0, b)], g)) rfl
      dsimp only at h
      obtain ⟨gz12, rz13, hk, h⟩ := zcallI zy_309 h rfl rfl zy_23 zk_23
      dsimp only at hk h
      have hO14 := h
      have h := hk
      clear hk
      have h := zm zy_23 h 3 (q := (cond (crel .lt b 1) 14 5, darg 0 [(0, b), (0, 1), (0, 999)], [], g)) rfl
      dsimp only at h
      rcases zif_lt h with ⟨hc15, h⟩ | ⟨hc15, h⟩
      · have h := zm zy_23 h 1 (q := (15, darg 0 [(0, b), (0, 1), (0, 999)], [(0, 0)], g)) rfl
        dsimp only at h
        have h := zret zy_23 h rfl rfl
        obtain ⟨e1, e2⟩ := oI h
        have h := hO14
        rw [e1, e2] at h
        clear e1 e2
        clear hO14
        have h := zm zy_309 h 3 (q := (24, dset (dset (dset lf 2 (0, b)) 1 (0, a)) 0 (4, 0), [(0, 1), (4, 0)], g)) rfl
        dsimp only at h
        obtain ⟨gz16, rz17, hk, h⟩ := zcallI zy_309 h rfl rfl zy_29 zk_29
        dsimp only at hk h
        have hO18 := h
        have h := hk
        clear hk
        have h := zm zy_29 h 4 (q := (6, darg 0 [(4, 0), (0, 1)], [(0, (-1))], cup g 0 0 1)) rfl
        dsimp only at h
        have h := zret zy_29 h rfl rfl
        obtain ⟨e1, e2⟩ := oI h
        have h := hO18
        rw [e1, e2] at h
        clear e1 e2
        clear hO18
        refine Or.inl (⟨Or.inr (Or.inr (Or.inl (⟨hc4, hc8, hc15⟩))), ?_⟩)
        exact zret zy_309 h rfl rfl
      · have h := zm zy_23 h 3 (q := (cond (crel .gt b 999) 14 10, darg 0 [(0, b), (0, 1), (0, 999)], [], g)) rfl
        dsimp only at h
        rcases zif_gt h with ⟨hc19, h⟩ | ⟨hc19, h⟩
        · have h := zm zy_23 h 1 (q := (15, darg 0 [(0, b), (0, 1), (0, 999)], [(0, 0)], g)) rfl
          dsimp only at h
          have h := zret zy_23 h rfl rfl
          obtain ⟨e1, e2⟩ := oI h
          have h := hO14
          rw [e1, e2] at h
          clear e1 e2
          clear hO14
          have h := zm zy_309 h 3 (q := (24, dset (dset (dset lf 2 (0, b)) 1 (0, a)) 0 (4, 0), [(0, 1), (4, 0)], g)) rfl
          dsimp only at h
          obtain ⟨gz20, rz21, hk, h⟩ := zcallI zy_309 h rfl rfl zy_29 zk_29
          dsimp only at hk h
          have hO22 := h
          have h := hk
          clear hk
          have h := zm zy_29 h 4 (q := (6, darg 0 [(4, 0), (0, 1)], [(0, (-1))], cup g 0 0 1)) rfl
          dsimp only at h
          have h := zret zy_29 h rfl rfl
          obtain ⟨e1, e2⟩ := oI h
          have h := hO22
          rw [e1, e2] at h
          clear e1 e2
          clear hO22
          refine Or.inl (⟨Or.inr (Or.inr (Or.inr (⟨hc4, hc8, hc15, hc19⟩))), ?_⟩)
          exact zret zy_309 h rfl rfl
        · have h := zm zy_23 h 2 (q := (15, darg 0 [(0, b), (0, 1), (0, 999)], [(0, 1)], g)) rfl
          dsimp only at h
          have h := zret zy_23 h rfl rfl
          obtain ⟨e1, e2⟩ := oI h
          have h := hO14
          rw [e1, e2] at h
          clear e1 e2
          clear hO14
          have h := zm zy_309 h 1 (q := (28, dset (dset (dset lf 2 (0, b)) 1 (0, a)) 0 (4, 0), [], g)) rfl
          dsimp only at h
          refine Or.inr (⟨⟨hc4, hc8, hc15, hc19⟩, ?_⟩)
          exact ⟨_, rfl, rfl, rfl, h⟩
theorem t_ern28 {sv : Nat → Int32} {L n : Nat} {lf : dlf} {g : cg} {o : cg × Option cv} {W : Nat} {b pu : Int} (rW : W ≤ 5) (hpu : g (17 + 2 * W) 1 = pu) (h : zr sv L n 309 28 lf [] g o) (hl0 : lf 0 = (4, 0)) (hl1 : lf 1 = (0, (W : Int))) (hl2 : lf 2 = (0, b)) : ((w32 (pu + b) ≤ 9999) ∧ (o = (cup (cup g (17 + 2 * W) 1 (w32 (pu + b))) 0 0 0, some (0, w32 (pu + b))))) ∨ ((9999 < w32 (pu + b)) ∧ (o = (cup g 0 0 7, some (0, (-1))))) := by
  rw [zov hl0, zov hl1, zov hl2] at h
  have h := zm zy_309 h 4 (q := (36, dset (dset (dset lf 2 (0, b)) 1 (0, (W : Int))) 0 (4, 0), [(0, (W : Int)), (4, 6)], g)) rfl
  dsimp only at h
  have h := zald zy_309 h rfl rfl (dvp_6 (i := (W : Int)) (by omega) (by omega))
  dsimp only at h
  have h := zm zy_309 h 2 (q := (39, dset (dset (dset (dset lf 2 (0, b)) 1 (0, (W : Int))) 0 (4, 0)) 3 (4, 17 + 2 * ((W : Int))), [(4, 17 + 2 * ((W : Int)))], g)) rfl
  dsimp only at h
  have h := zgf zy_309 h rfl rfl (dvf_17_1 (i := (W : Int)) (by omega) (by omega))
  dsimp only at h
  try rw [show (17 + 2 * ((W : Int))).toNat = 17 + 2 * W from by omega] at h
  try rw [hpu] at h
  have h := zm zy_309 h 4 (q := (cond (crel .le (w32 (pu + b)) 9999) 57 50, dset (dset (dset (dset lf 2 (0, b)) 1 (0, (W : Int))) 0 (4, 0)) 3 (4, 17 + 2 * ((W : Int))), [], g)) rfl
  dsimp only at h
  rcases zif_le h with ⟨hc1, h⟩ | ⟨hc1, h⟩
  · have h := zm zy_309 h 2 (q := (59, dset (dset (dset (dset lf 2 (0, b)) 1 (0, (W : Int))) 0 (4, 0)) 3 (4, 17 + 2 * ((W : Int))), [(4, 17 + 2 * ((W : Int))), (4, 17 + 2 * ((W : Int)))], g)) rfl
    dsimp only at h
    have h := zgf zy_309 h rfl rfl (dvf_17_1 (i := (W : Int)) (by omega) (by omega))
    dsimp only at h
    try rw [show (17 + 2 * ((W : Int))).toNat = 17 + 2 * W from by omega] at h
    try rw [hpu] at h
    have h := zm zy_309 h 5 (q := (69, dset (dset (dset (dset lf 2 (0, b)) 1 (0, (W : Int))) 0 (4, 0)) 3 (4, 17 + 2 * ((W : Int))), [(4, 17 + 2 * ((W : Int))), (4, 0)], cup g ((17 + 2 * ((W : Int))).toNat) 1 (w32 (pu + b)))) rfl
    dsimp only at h
    try rw [show (17 + 2 * ((W : Int))).toNat = 17 + 2 * W from by omega] at h
    have h := zgf zy_309 h rfl rfl (dvf_17_1 (i := (W : Int)) (by omega) (by omega))
    dsimp only at h
    try rw [show (17 + 2 * ((W : Int))).toNat = 17 + 2 * W from by omega] at h
    try rw [cup_at] at h
    obtain ⟨gz2, rz3, hk, h⟩ := zcallI zy_309 h rfl rfl zy_64 zk_64
    dsimp only at hk h
    have hO4 := h
    have h := hk
    clear hk
    have h := zm zy_64 h 4 (q := (6, darg 0 [(4, 0), (0, w32 (pu + b))], [(0, w32 (pu + b))], cup (cup g (17 + 2 * W) 1 (w32 (pu + b))) 0 0 0)) rfl
    dsimp only at h
    have h := zret zy_64 h rfl rfl
    obtain ⟨e1, e2⟩ := oI h
    have h := hO4
    rw [e1, e2] at h
    clear e1 e2
    clear hO4
    refine Or.inl (⟨hc1, ?_⟩)
    exact zret zy_309 h rfl rfl
  · have h := zm zy_309 h 2 (q := (53, dset (dset (dset (dset lf 2 (0, b)) 1 (0, (W : Int))) 0 (4, 0)) 3 (4, 17 + 2 * ((W : Int))), [(0, 7), (4, 0)], g)) rfl
    dsimp only at h
    obtain ⟨gz5, rz6, hk, h⟩ := zcallI zy_309 h rfl rfl zy_29 zk_29
    dsimp only at hk h
    have hO7 := h
    have h := hk
    clear hk
    have h := zm zy_29 h 4 (q := (6, darg 0 [(4, 0), (0, 7)], [(0, (-1))], cup g 0 0 7)) rfl
    dsimp only at h
    have h := zret zy_29 h rfl rfl
    obtain ⟨e1, e2⟩ := oI h
    have h := hO7
    rw [e1, e2] at h
    clear e1 e2
    clear hO7
    refine Or.inr (⟨hc1, ?_⟩)
    exact zret zy_309 h rfl rfl
theorem m_ern0 {sv : Nat → Int32} {L n : Nat} {lf : dlf} {g : cg} {o : cg × Option cv} {a b : Int} (h : zr sv L n 310 0 lf [] g o) (hl0 : lf 0 = (4, 253)) (hl1 : lf 1 = (0, a)) (hl2 : lf 2 = (0, b)) : (((a < 0) ∨ (0 ≤ a ∧ g 254 1 ≤ a) ∨ (0 ≤ a ∧ a < g 254 1 ∧ csgn (b - 1) < 0) ∨ (0 ≤ a ∧ a < g 254 1 ∧ 0 ≤ csgn (b - 1) ∧ 0 < csgn (b - 999))) ∧ (o = (cup g 253 2 1, some (0, (-1))))) ∨ ((0 ≤ a ∧ a < g 254 1 ∧ 0 ≤ csgn (b - 1) ∧ csgn (b - 999) ≤ 0) ∧ (∃ lf', lf' 0 = (4, 253) ∧ lf' 1 = (0, a) ∧ lf' 2 = (0, b) ∧ zr sv L n 310 26 lf' [] g o)) := by
  rw [zov hl0, zov hl1, zov hl2] at h
  have h := zm zy_310 h 2 (q := (2, dset (dset (dset lf 2 (0, b)) 1 (0, a)) 0 (4, 253), [(0, a), (4, 253)], g)) rfl
  dsimp only at h
  obtain ⟨gz1, rz2, hk, h⟩ := zcallI zy_310 h rfl rfl zy_208 zk_208
  dsimp only at hk h
  have hO3 := h
  have h := hk
  clear hk
  have h := zm zy_208 h 2 (q := (cond (crel .lt a 0) 18 4, darg 0 [(4, 253), (0, a)], [], g)) rfl
  dsimp only at h
  rcases zif_lt h with ⟨hc4, h⟩ | ⟨hc4, h⟩
  · have h := zm zy_208 h 1 (q := (19, darg 0 [(4, 253), (0, a)], [(0, 0)], g)) rfl
    dsimp only at h
    have h := zret zy_208 h rfl rfl
    obtain ⟨e1, e2⟩ := oI h
    have h := hO3
    rw [e1, e2] at h
    clear e1 e2
    clear hO3
    have h := zm zy_310 h 3 (q := (22, dset (dset (dset lf 2 (0, b)) 1 (0, a)) 0 (4, 253), [(0, 1), (4, 253)], g)) rfl
    dsimp only at h
    obtain ⟨gz5, rz6, hk, h⟩ := zcallI zy_310 h rfl rfl zy_170 zk_170
    dsimp only at hk h
    have hO7 := h
    have h := hk
    clear hk
    have h := zm zy_170 h 4 (q := (6, darg 0 [(4, 253), (0, 1)], [(0, (-1))], cup g 253 2 1)) rfl
    dsimp only at h
    have h := zret zy_170 h rfl rfl
    obtain ⟨e1, e2⟩ := oI h
    have h := hO7
    rw [e1, e2] at h
    clear e1 e2
    clear hO7
    refine Or.inl (⟨Or.inl (hc4), ?_⟩)
    exact zret zy_310 h rfl rfl
  · have h := zm zy_208 h 6 (q := (cond (crel .ge a (g 254 1)) 18 14, darg 0 [(4, 253), (0, a)], [], g)) rfl
    dsimp only at h
    rcases zif_ge h with ⟨hc8, h⟩ | ⟨hc8, h⟩
    · have h := zm zy_208 h 1 (q := (19, darg 0 [(4, 253), (0, a)], [(0, 0)], g)) rfl
      dsimp only at h
      have h := zret zy_208 h rfl rfl
      obtain ⟨e1, e2⟩ := oI h
      have h := hO3
      rw [e1, e2] at h
      clear e1 e2
      clear hO3
      have h := zm zy_310 h 3 (q := (22, dset (dset (dset lf 2 (0, b)) 1 (0, a)) 0 (4, 253), [(0, 1), (4, 253)], g)) rfl
      dsimp only at h
      obtain ⟨gz9, rz10, hk, h⟩ := zcallI zy_310 h rfl rfl zy_170 zk_170
      dsimp only at hk h
      have hO11 := h
      have h := hk
      clear hk
      have h := zm zy_170 h 4 (q := (6, darg 0 [(4, 253), (0, 1)], [(0, (-1))], cup g 253 2 1)) rfl
      dsimp only at h
      have h := zret zy_170 h rfl rfl
      obtain ⟨e1, e2⟩ := oI h
      have h := hO11
      rw [e1, e2] at h
      clear e1 e2
      clear hO11
      refine Or.inl (⟨Or.inr (Or.inl (⟨hc4, hc8⟩)), ?_⟩)
      exact zret zy_310 h rfl rfl
    · have h := zm zy_208 h 2 (q := (19, darg 0 [(4, 253), (0, a)], [(0, 1)], g)) rfl
      dsimp only at h
      have h := zret zy_208 h rfl rfl
      obtain ⟨e1, e2⟩ := oI h
      have h := hO3
      rw [e1, e2] at h
      clear e1 e2
      clear hO3
      have h := zm zy_310 h 5 (q := (14, dset (dset (dset lf 2 (0, b)) 1 (0, a)) 0 (4, 253), [(2, 999), (2, 1), (2, b)], g)) rfl
      dsimp only at h
      obtain ⟨gz12, rz13, hk, h⟩ := zcallI zy_310 h rfl rfl zy_236 zk_236
      dsimp only at hk h
      have hO14 := h
      have h := hk
      clear hk
      have h := zm zy_236 h 4 (q := (cond (crel .lt (csgn (b - 1)) 0) 17 6, darg 0 [(2, b), (2, 1), (2, 999)], [], g)) rfl
      dsimp only at h
      rcases zif_lt h with ⟨hc15, h⟩ | ⟨hc15, h⟩
      · have h := zm zy_236 h 1 (q := (18, darg 0 [(2, b), (2, 1), (2, 999)], [(0, 0)], g)) rfl
        dsimp only at h
        have h := zret zy_236 h rfl rfl
        obtain ⟨e1, e2⟩ := oI h
        have h := hO14
        rw [e1, e2] at h
        clear e1 e2
        clear hO14
        have h := zm zy_310 h 3 (q := (22, dset (dset (dset lf 2 (0, b)) 1 (0, a)) 0 (4, 253), [(0, 1), (4, 253)], g)) rfl
        dsimp only at h
        obtain ⟨gz16, rz17, hk, h⟩ := zcallI zy_310 h rfl rfl zy_170 zk_170
        dsimp only at hk h
        have hO18 := h
        have h := hk
        clear hk
        have h := zm zy_170 h 4 (q := (6, darg 0 [(4, 253), (0, 1)], [(0, (-1))], cup g 253 2 1)) rfl
        dsimp only at h
        have h := zret zy_170 h rfl rfl
        obtain ⟨e1, e2⟩ := oI h
        have h := hO18
        rw [e1, e2] at h
        clear e1 e2
        clear hO18
        refine Or.inl (⟨Or.inr (Or.inr (Or.inl (⟨hc4, hc8, hc15⟩))), ?_⟩)
        exact zret zy_310 h rfl rfl
      · have h := zm zy_236 h 4 (q := (cond (crel .gt (csgn (b - 999)) 0) 17 13, darg 0 [(2, b), (2, 1), (2, 999)], [], g)) rfl
        dsimp only at h
        rcases zif_gt h with ⟨hc19, h⟩ | ⟨hc19, h⟩
        · have h := zm zy_236 h 1 (q := (18, darg 0 [(2, b), (2, 1), (2, 999)], [(0, 0)], g)) rfl
          dsimp only at h
          have h := zret zy_236 h rfl rfl
          obtain ⟨e1, e2⟩ := oI h
          have h := hO14
          rw [e1, e2] at h
          clear e1 e2
          clear hO14
          have h := zm zy_310 h 3 (q := (22, dset (dset (dset lf 2 (0, b)) 1 (0, a)) 0 (4, 253), [(0, 1), (4, 253)], g)) rfl
          dsimp only at h
          obtain ⟨gz20, rz21, hk, h⟩ := zcallI zy_310 h rfl rfl zy_170 zk_170
          dsimp only at hk h
          have hO22 := h
          have h := hk
          clear hk
          have h := zm zy_170 h 4 (q := (6, darg 0 [(4, 253), (0, 1)], [(0, (-1))], cup g 253 2 1)) rfl
          dsimp only at h
          have h := zret zy_170 h rfl rfl
          obtain ⟨e1, e2⟩ := oI h
          have h := hO22
          rw [e1, e2] at h
          clear e1 e2
          clear hO22
          refine Or.inl (⟨Or.inr (Or.inr (Or.inr (⟨hc4, hc8, hc15, hc19⟩))), ?_⟩)
          exact zret zy_310 h rfl rfl
        · have h := zm zy_236 h 2 (q := (18, darg 0 [(2, b), (2, 1), (2, 999)], [(0, 1)], g)) rfl
          dsimp only at h
          have h := zret zy_236 h rfl rfl
          obtain ⟨e1, e2⟩ := oI h
          have h := hO14
          rw [e1, e2] at h
          clear e1 e2
          clear hO14
          have h := zm zy_310 h 1 (q := (26, dset (dset (dset lf 2 (0, b)) 1 (0, a)) 0 (4, 253), [], g)) rfl
          dsimp only at h
          refine Or.inr (⟨⟨hc4, hc8, hc15, hc19⟩, ?_⟩)
          exact ⟨_, rfl, rfl, rfl, h⟩
theorem m_ern26 {sv : Nat → Int32} {L n : Nat} {lf : dlf} {g : cg} {o : cg × Option cv} {W : Nat} {b pu : Int} (rW : W ≤ 5) (hpu : g 254 (15 + 6 * W) = pu) (h : zr sv L n 310 26 lf [] g o) (hl0 : lf 0 = (4, 253)) (hl1 : lf 1 = (0, (W : Int))) (hl2 : lf 2 = (0, b)) : ((w32 (pu + b) ≤ 9999) ∧ (o = (cup (cup g 254 (15 + 6 * W) (w32 (pu + b))) 253 2 0, some (0, w32 (pu + b))))) ∨ ((9999 < w32 (pu + b)) ∧ (o = (cup g 253 2 7, some (0, (-1))))) := by
  rw [zov hl0, zov hl1, zov hl2] at h
  have h := zm zy_310 h 3 (q := (31, dset (dset (dset lf 2 (0, b)) 1 (0, (W : Int))) 0 (4, 253), [(0, (W : Int)), (4, 254)], g)) rfl
  dsimp only at h
  obtain ⟨gz1, rz2, hk, h⟩ := zcallI zy_310 h rfl rfl zy_209 zk_209
  dsimp only at hk h
  have hO3 := h
  have h := hk
  clear hk
  have h := zm zy_209 h 5 (q := (7, darg 0 [(0, (W : Int))], [(0, w32 (15 + (w32 (6 * ((W : Int))))))], g)) rfl
  dsimp only at h
  try rw [w32_eq (z := 6 * ((W : Int))) (v := 6 * (W : Int)) (by omega) (by omega) (by omega)] at h
  try rw [w32_eq (z := 15 + (6 * (W : Int))) (v := 15 + 6 * (W : Int)) (by omega) (by omega) (by omega)] at h
  have h := zret zy_209 h rfl rfl
  obtain ⟨e1, e2⟩ := oI h
  have h := hO3
  rw [e1, e2] at h
  clear e1 e2
  clear hO3
  have h := zald zy_310 h rfl rfl (dvb_254 (i := 15 + 6 * (W : Int)) (by omega) (by omega))
  dsimp only at h
  try rw [show (15 + 6 * (W : Int)).toNat = 15 + 6 * W from by omega] at h
  try rw [hpu] at h
  have h := zm zy_310 h 4 (q := (cond (crel .le (w32 (pu + b)) 9999) 50 43, dset (dset (dset lf 2 (0, b)) 1 (0, (W : Int))) 0 (4, 253), [], g)) rfl
  dsimp only at h
  rcases zif_le h with ⟨hc4, h⟩ | ⟨hc4, h⟩
  · have h := zm zy_310 h 3 (q := (55, dset (dset (dset lf 2 (0, b)) 1 (0, (W : Int))) 0 (4, 253), [(0, (W : Int)), (4, 254)], g)) rfl
    dsimp only at h
    obtain ⟨gz5, rz6, hk, h⟩ := zcallI zy_310 h rfl rfl zy_209 zk_209
    dsimp only at hk h
    have hO7 := h
    have h := hk
    clear hk
    have h := zm zy_209 h 5 (q := (7, darg 0 [(0, (W : Int))], [(0, w32 (15 + (w32 (6 * ((W : Int))))))], g)) rfl
    dsimp only at h
    try rw [w32_eq (z := 6 * ((W : Int))) (v := 6 * (W : Int)) (by omega) (by omega) (by omega)] at h
    try rw [w32_eq (z := 15 + (6 * (W : Int))) (v := 15 + 6 * (W : Int)) (by omega) (by omega) (by omega)] at h
    have h := zret zy_209 h rfl rfl
    obtain ⟨e1, e2⟩ := oI h
    have h := hO7
    rw [e1, e2] at h
    clear e1 e2
    clear hO7
    have h := zm zy_310 h 1 (q := (59, dset (dset (dset lf 2 (0, b)) 1 (0, (W : Int))) 0 (4, 253), [(0, 15 + 6 * (W : Int)), (4, 254), (0, 15 + 6 * (W : Int)), (4, 254)], g)) rfl
    dsimp only at h
    have h := zald zy_310 h rfl rfl (dvb_254 (i := 15 + 6 * (W : Int)) (by omega) (by omega))
    dsimp only at h
    try rw [show (15 + 6 * (W : Int)).toNat = 15 + 6 * W from by omega] at h
    try rw [hpu] at h
    have h := zm zy_310 h 7 (q := (69, dset (dset (dset lf 2 (0, b)) 1 (0, (W : Int))) 0 (4, 253), [(0, (W : Int)), (4, 254), (4, 253)], cup g 254 ((15 + 6 * (W : Int)).toNat) (w32 (pu + b)))) rfl
    dsimp only at h
    try rw [show (15 + 6 * (W : Int)).toNat = 15 + 6 * W from by omega] at h
    obtain ⟨gz8, rz9, hk, h⟩ := zcallI zy_310 h rfl rfl zy_209 zk_209
    dsimp only at hk h
    have hO10 := h
    have h := hk
    clear hk
    have h := zm zy_209 h 5 (q := (7, darg 0 [(0, (W : Int))], [(0, w32 (15 + (w32 (6 * ((W : Int))))))], cup g 254 (15 + 6 * W) (w32 (pu + b)))) rfl
    dsimp only at h
    try rw [w32_eq (z := 6 * ((W : Int))) (v := 6 * (W : Int)) (by omega) (by omega) (by omega)] at h
    try rw [w32_eq (z := 15 + (6 * (W : Int))) (v := 15 + 6 * (W : Int)) (by omega) (by omega) (by omega)] at h
    have h := zret zy_209 h rfl rfl
    obtain ⟨e1, e2⟩ := oI h
    have h := hO10
    rw [e1, e2] at h
    clear e1 e2
    clear hO10
    have h := zald zy_310 h rfl rfl (dvb_254 (i := 15 + 6 * (W : Int)) (by omega) (by omega))
    dsimp only at h
    try rw [show (15 + 6 * (W : Int)).toNat = 15 + 6 * W from by omega] at h
    try rw [cup_at] at h
    obtain ⟨gz11, rz12, hk, h⟩ := zcallI zy_310 h rfl rfl zy_192 zk_192
    dsimp only at hk h
    have hO13 := h
    have h := hk
    clear hk
    have h := zm zy_192 h 4 (q := (6, darg 0 [(4, 253), (0, w32 (pu + b))], [(0, w32 (pu + b))], cup (cup g 254 (15 + 6 * W) (w32 (pu + b))) 253 2 0)) rfl
    dsimp only at h
    have h := zret zy_192 h rfl rfl
    obtain ⟨e1, e2⟩ := oI h
    have h := hO13
    rw [e1, e2] at h
    clear e1 e2
    clear hO13
    refine Or.inl (⟨hc4, ?_⟩)
    exact zret zy_310 h rfl rfl
  · have h := zm zy_310 h 2 (q := (46, dset (dset (dset lf 2 (0, b)) 1 (0, (W : Int))) 0 (4, 253), [(0, 7), (4, 253)], g)) rfl
    dsimp only at h
    obtain ⟨gz14, rz15, hk, h⟩ := zcallI zy_310 h rfl rfl zy_170 zk_170
    dsimp only at hk h
    have hO16 := h
    have h := hk
    clear hk
    have h := zm zy_170 h 4 (q := (6, darg 0 [(4, 253), (0, 7)], [(0, (-1))], cup g 253 2 7)) rfl
    dsimp only at h
    have h := zret zy_170 h rfl rfl
    obtain ⟨e1, e2⟩ := oI h
    have h := hO16
    rw [e1, e2] at h
    clear e1 e2
    clear hO16
    refine Or.inr (⟨hc4, ?_⟩)
    exact zret zy_310 h rfl rfl
theorem t_mt0 {sv : Nat → Int32} {L n : Nat} {lf : dlf} {g : cg} {o : cg × Option cv} {a b : Int} (h : zr sv L n 311 0 lf [] g o) (hl0 : lf 0 = (4, 0)) (hl1 : lf 1 = (0, a)) (hl2 : lf 2 = (0, b)) : (((a < 0) ∨ (0 ≤ a ∧ g 3 3 ≤ a) ∨ (0 ≤ a ∧ a < g 3 3 ∧ b < 0) ∨ (0 ≤ a ∧ a < g 3 3 ∧ 0 ≤ b ∧ g 3 3 ≤ b) ∨ (0 ≤ a ∧ a < g 3 3 ∧ 0 ≤ b ∧ b < g 3 3 ∧ a = b)) ∧ (o = (cup g 0 0 1, some (0, 0)))) ∨ ((0 ≤ a ∧ a < g 3 3 ∧ 0 ≤ b ∧ b < g 3 3 ∧ a ≠ b) ∧ (∃ lf', lf' 0 = (4, 0) ∧ lf' 1 = (0, a) ∧ lf' 2 = (0, b) ∧ zr sv L n 311 15 lf' [] g o)) := by
  rw [zov hl0, zov hl1, zov hl2] at h
  have h := zm zy_311 h 3 (q := (3, dset (dset (dset lf 2 (0, b)) 1 (0, a)) 0 (4, 0), [(0, b), (0, a), (4, 0)], g)) rfl
  dsimp only at h
  obtain ⟨gz1, rz2, hk, h⟩ := zcallI zy_311 h rfl rfl zy_84 zk_84
  dsimp only at hk h
  have hO3 := h
  have h := hk
  clear hk
  have h := zm zy_84 h 3 (q := (5, darg 0 [(4, 0), (0, a), (0, b)], [(0, a), (4, 3)], g)) rfl
  dsimp only at h
  obtain ⟨gz4, rz5, hk, h⟩ := zcallI zy_84 h rfl rfl zy_81 zk_81
  dsimp only at hk h
  have hO6 := h
  have h := hk
  clear hk
  have h := zm zy_81 h 2 (q := (cond (crel .lt a 0) 16 4, darg 0 [(4, 3), (0, a)], [], g)) rfl
  dsimp only at h
  rcases zif_lt h with ⟨hc7, h⟩ | ⟨hc7, h⟩
  · have h := zm zy_81 h 1 (q := (17, darg 0 [(4, 3), (0, a)], [(0, 0)], g)) rfl
    dsimp only at h
    have h := zret zy_81 h rfl rfl
    obtain ⟨e1, e2⟩ := oI h
    have h := hO6
    rw [e1, e2] at h
    clear e1 e2
    clear hO6
    have h := zm zy_84 h 2 (q := (32, darg 0 [(4, 0), (0, a), (0, b)], [(0, 0)], g)) rfl
    dsimp only at h
    have h := zret zy_84 h rfl rfl
    obtain ⟨e1, e2⟩ := oI h
    have h := hO3
    rw [e1, e2] at h
    clear e1 e2
    clear hO3
    have h := zm zy_311 h 3 (q := (11, dset (dset (dset lf 2 (0, b)) 1 (0, a)) 0 (4, 0), [(0, 1), (4, 0)], g)) rfl
    dsimp only at h
    obtain ⟨gz8, rz9, hk, h⟩ := zcallI zy_311 h rfl rfl zy_26 zk_26
    dsimp only at hk h
    have hO10 := h
    have h := hk
    clear hk
    have h := zm zy_26 h 4 (q := (6, darg 0 [(4, 0), (0, 1)], [(0, 0)], cup g 0 0 1)) rfl
    dsimp only at h
    have h := zret zy_26 h rfl rfl
    obtain ⟨e1, e2⟩ := oI h
    have h := hO10
    rw [e1, e2] at h
    clear e1 e2
    clear hO10
    refine Or.inl (⟨Or.inl (hc7), ?_⟩)
    exact zret zy_311 h rfl rfl
  · have h := zm zy_81 h 4 (q := (cond (crel .ge a (g 3 3)) 16 12, darg 0 [(4, 3), (0, a)], [], g)) rfl
    dsimp only at h
    rcases zif_ge h with ⟨hc11, h⟩ | ⟨hc11, h⟩
    · have h := zm zy_81 h 1 (q := (17, darg 0 [(4, 3), (0, a)], [(0, 0)], g)) rfl
      dsimp only at h
      have h := zret zy_81 h rfl rfl
      obtain ⟨e1, e2⟩ := oI h
      have h := hO6
      rw [e1, e2] at h
      clear e1 e2
      clear hO6
      have h := zm zy_84 h 2 (q := (32, darg 0 [(4, 0), (0, a), (0, b)], [(0, 0)], g)) rfl
      dsimp only at h
      have h := zret zy_84 h rfl rfl
      obtain ⟨e1, e2⟩ := oI h
      have h := hO3
      rw [e1, e2] at h
      clear e1 e2
      clear hO3
      have h := zm zy_311 h 3 (q := (11, dset (dset (dset lf 2 (0, b)) 1 (0, a)) 0 (4, 0), [(0, 1), (4, 0)], g)) rfl
      dsimp only at h
      obtain ⟨gz12, rz13, hk, h⟩ := zcallI zy_311 h rfl rfl zy_26 zk_26
      dsimp only at hk h
      have hO14 := h
      have h := hk
      clear hk
      have h := zm zy_26 h 4 (q := (6, darg 0 [(4, 0), (0, 1)], [(0, 0)], cup g 0 0 1)) rfl
      dsimp only at h
      have h := zret zy_26 h rfl rfl
      obtain ⟨e1, e2⟩ := oI h
      have h := hO14
      rw [e1, e2] at h
      clear e1 e2
      clear hO14
      refine Or.inl (⟨Or.inr (Or.inl (⟨hc7, hc11⟩)), ?_⟩)
      exact zret zy_311 h rfl rfl
    · have h := zm zy_81 h 2 (q := (17, darg 0 [(4, 3), (0, a)], [(0, 1)], g)) rfl
      dsimp only at h
      have h := zret zy_81 h rfl rfl
      obtain ⟨e1, e2⟩ := oI h
      have h := hO6
      rw [e1, e2] at h
      clear e1 e2
      clear hO6
      have h := zm zy_84 h 4 (q := (16, darg 0 [(4, 0), (0, a), (0, b)], [(0, b), (4, 3)], g)) rfl
      dsimp only at h
      obtain ⟨gz15, rz16, hk, h⟩ := zcallI zy_84 h rfl rfl zy_81 zk_81
      dsimp only at hk h
      have hO17 := h
      have h := hk
      clear hk
      have h := zm zy_81 h 2 (q := (cond (crel .lt b 0) 16 4, darg 0 [(4, 3), (0, b)], [], g)) rfl
      dsimp only at h
      rcases zif_lt h with ⟨hc18, h⟩ | ⟨hc18, h⟩
      · have h := zm zy_81 h 1 (q := (17, darg 0 [(4, 3), (0, b)], [(0, 0)], g)) rfl
        dsimp only at h
        have h := zret zy_81 h rfl rfl
        obtain ⟨e1, e2⟩ := oI h
        have h := hO17
        rw [e1, e2] at h
        clear e1 e2
        clear hO17
        have h := zm zy_84 h 2 (q := (32, darg 0 [(4, 0), (0, a), (0, b)], [(0, 0)], g)) rfl
        dsimp only at h
        have h := zret zy_84 h rfl rfl
        obtain ⟨e1, e2⟩ := oI h
        have h := hO3
        rw [e1, e2] at h
        clear e1 e2
        clear hO3
        have h := zm zy_311 h 3 (q := (11, dset (dset (dset lf 2 (0, b)) 1 (0, a)) 0 (4, 0), [(0, 1), (4, 0)], g)) rfl
        dsimp only at h
        obtain ⟨gz19, rz20, hk, h⟩ := zcallI zy_311 h rfl rfl zy_26 zk_26
        dsimp only at hk h
        have hO21 := h
        have h := hk
        clear hk
        have h := zm zy_26 h 4 (q := (6, darg 0 [(4, 0), (0, 1)], [(0, 0)], cup g 0 0 1)) rfl
        dsimp only at h
        have h := zret zy_26 h rfl rfl
        obtain ⟨e1, e2⟩ := oI h
        have h := hO21
        rw [e1, e2] at h
        clear e1 e2
        clear hO21
        refine Or.inl (⟨Or.inr (Or.inr (Or.inl (⟨hc7, hc11, hc18⟩))), ?_⟩)
        exact zret zy_311 h rfl rfl
      · have h := zm zy_81 h 4 (q := (cond (crel .ge b (g 3 3)) 16 12, darg 0 [(4, 3), (0, b)], [], g)) rfl
        dsimp only at h
        rcases zif_ge h with ⟨hc22, h⟩ | ⟨hc22, h⟩
        · have h := zm zy_81 h 1 (q := (17, darg 0 [(4, 3), (0, b)], [(0, 0)], g)) rfl
          dsimp only at h
          have h := zret zy_81 h rfl rfl
          obtain ⟨e1, e2⟩ := oI h
          have h := hO17
          rw [e1, e2] at h
          clear e1 e2
          clear hO17
          have h := zm zy_84 h 2 (q := (32, darg 0 [(4, 0), (0, a), (0, b)], [(0, 0)], g)) rfl
          dsimp only at h
          have h := zret zy_84 h rfl rfl
          obtain ⟨e1, e2⟩ := oI h
          have h := hO3
          rw [e1, e2] at h
          clear e1 e2
          clear hO3
          have h := zm zy_311 h 3 (q := (11, dset (dset (dset lf 2 (0, b)) 1 (0, a)) 0 (4, 0), [(0, 1), (4, 0)], g)) rfl
          dsimp only at h
          obtain ⟨gz23, rz24, hk, h⟩ := zcallI zy_311 h rfl rfl zy_26 zk_26
          dsimp only at hk h
          have hO25 := h
          have h := hk
          clear hk
          have h := zm zy_26 h 4 (q := (6, darg 0 [(4, 0), (0, 1)], [(0, 0)], cup g 0 0 1)) rfl
          dsimp only at h
          have h := zret zy_26 h rfl rfl
          obtain ⟨e1, e2⟩ := oI h
          have h := hO25
          rw [e1, e2] at h
          clear e1 e2
          clear hO25
          refine Or.inl (⟨Or.inr (Or.inr (Or.inr (Or.inl (⟨hc7, hc11, hc18, hc22⟩)))), ?_⟩)
          exact zret zy_311 h rfl rfl
        · have h := zm zy_81 h 2 (q := (17, darg 0 [(4, 3), (0, b)], [(0, 1)], g)) rfl
          dsimp only at h
          have h := zret zy_81 h rfl rfl
          obtain ⟨e1, e2⟩ := oI h
          have h := hO17
          rw [e1, e2] at h
          clear e1 e2
          clear hO17
          have h := zm zy_84 h 4 (q := (cond (crel .eq a b) 31 27, darg 0 [(4, 0), (0, a), (0, b)], [], g)) rfl
          dsimp only at h
          rcases zif_eq h with ⟨hc26, h⟩ | ⟨hc26, h⟩
          · have h := zm zy_84 h 1 (q := (32, darg 0 [(4, 0), (0, a), (0, b)], [(0, 0)], g)) rfl
            dsimp only at h
            have h := zret zy_84 h rfl rfl
            obtain ⟨e1, e2⟩ := oI h
            have h := hO3
            rw [e1, e2] at h
            clear e1 e2
            clear hO3
            have h := zm zy_311 h 3 (q := (11, dset (dset (dset lf 2 (0, b)) 1 (0, a)) 0 (4, 0), [(0, 1), (4, 0)], g)) rfl
            dsimp only at h
            obtain ⟨gz27, rz28, hk, h⟩ := zcallI zy_311 h rfl rfl zy_26 zk_26
            dsimp only at hk h
            have hO29 := h
            have h := hk
            clear hk
            have h := zm zy_26 h 4 (q := (6, darg 0 [(4, 0), (0, 1)], [(0, 0)], cup g 0 0 1)) rfl
            dsimp only at h
            have h := zret zy_26 h rfl rfl
            obtain ⟨e1, e2⟩ := oI h
            have h := hO29
            rw [e1, e2] at h
            clear e1 e2
            clear hO29
            refine Or.inl (⟨Or.inr (Or.inr (Or.inr (Or.inr (⟨hc7, hc11, hc18, hc22, hc26⟩)))), ?_⟩)
            exact zret zy_311 h rfl rfl
          · have h := zm zy_84 h 2 (q := (32, darg 0 [(4, 0), (0, a), (0, b)], [(0, 1)], g)) rfl
            dsimp only at h
            have h := zret zy_84 h rfl rfl
            obtain ⟨e1, e2⟩ := oI h
            have h := hO3
            rw [e1, e2] at h
            clear e1 e2
            clear hO3
            have h := zm zy_311 h 1 (q := (15, dset (dset (dset lf 2 (0, b)) 1 (0, a)) 0 (4, 0), [], g)) rfl
            dsimp only at h
            refine Or.inr (⟨⟨hc7, hc11, hc18, hc22, hc26⟩, ?_⟩)
            exact ⟨_, rfl, rfl, rfl, h⟩
theorem t_mt15 {sv : Nat → Int32} {L n : Nat} {lf : dlf} {g : cg} {o : cg × Option cv} {W P : Nat} {fa : Int} (rW : W ≤ 5) (rP : P ≤ 5) (hfa : g (17 + 2 * W) 5 = fa) (h : zr sv L n 311 15 lf [] g o) (hl0 : lf 0 = (4, 0)) (hl1 : lf 1 = (0, (W : Int))) (hl2 : lf 2 = (0, (P : Int))) : ((ban (bsr fa ((P : Int))) 1 = 0) ∧ (o = (cup (cup (cup g (17 + 2 * W) 5 (bor fa (bsl 1 ((P : Int))))) (17 + 2 * P) 5 (bor ((cup g (17 + 2 * W) 5 (bor fa (bsl 1 ((P : Int))))) (17 + 2 * P) 5) (bsl 1 ((W : Int))))) 0 0 0, some (0, 1)))) ∨ ((ban (bsr fa ((P : Int))) 1 ≠ 0) ∧ (o = (cup g 0 0 7, some (0, 0)))) := by
  rw [zov hl0, zov hl1, zov hl2] at h
  have h := zm zy_311 h 4 (q := (21, dset (dset (dset lf 2 (0, (P : Int))) 1 (0, (W : Int))) 0 (4, 0), [(0, (P : Int)), (0, (W : Int)), (4, 3)], g)) rfl
  dsimp only at h
  obtain ⟨gz1, rz2, hk, h⟩ := zcallI zy_311 h rfl rfl zy_106 zk_106
  dsimp only at hk h
  have hO3 := h
  have h := hk
  clear hk
  have h := zm zy_106 h 3 (q := (5, darg 0 [(4, 3), (0, (W : Int)), (0, (P : Int))], [(0, (W : Int)), (4, 6)], g)) rfl
  dsimp only at h
  have h := zald zy_106 h rfl rfl (dvp_6 (i := (W : Int)) (by omega) (by omega))
  dsimp only at h
  have h := zgf zy_106 h rfl rfl (dvf_17_5 (i := (W : Int)) (by omega) (by omega))
  dsimp only at h
  try rw [show (17 + 2 * ((W : Int))).toNat = 17 + 2 * W from by omega] at h
  try rw [hfa] at h
  have h := zm zy_106 h 5 (q := (cond (crel .eq (ban (bsr fa ((P : Int))) 1) 0) 20 16, darg 0 [(4, 3), (0, (W : Int)), (0, (P : Int))], [], g)) rfl
  dsimp only at h
  rcases zif_eq h with ⟨hc4, h⟩ | ⟨hc4, h⟩
  · have h := zm zy_106 h 1 (q := (21, darg 0 [(4, 3), (0, (W : Int)), (0, (P : Int))], [(0, 0)], g)) rfl
    dsimp only at h
    have h := zret zy_106 h rfl rfl
    obtain ⟨e1, e2⟩ := oI h
    have h := hO3
    rw [e1, e2] at h
    clear e1 e2
    clear hO3
    have h := zm zy_311 h 5 (q := (40, dset (dset (dset lf 2 (0, (P : Int))) 1 (0, (W : Int))) 0 (4, 0), [(0, (P : Int)), (0, (W : Int)), (4, 3)], g)) rfl
    dsimp only at h
    obtain ⟨gz5, hk, h⟩ := zcallV zy_311 h rfl rfl zy_51 zk_51
    dsimp only at hk h
    have hO7 := h
    have h := hk
    clear hk
    have h := zm zy_51 h 3 (q := (5, darg 0 [(4, 3), (0, (W : Int)), (0, (P : Int))], [(0, (W : Int)), (4, 6)], g)) rfl
    dsimp only at h
    have h := zald zy_51 h rfl rfl (dvp_6 (i := (W : Int)) (by omega) (by omega))
    dsimp only at h
    have h := zm zy_51 h 1 (q := (7, darg 0 [(4, 3), (0, (W : Int)), (0, (P : Int))], [(4, 17 + 2 * ((W : Int))), (4, 17 + 2 * ((W : Int)))], g)) rfl
    dsimp only at h
    have h := zgf zy_51 h rfl rfl (dvf_17_5 (i := (W : Int)) (by omega) (by omega))
    dsimp only at h
    try rw [show (17 + 2 * ((W : Int))).toNat = 17 + 2 * W from by omega] at h
    try rw [hfa] at h
    have h := zm zy_51 h 8 (q := (22, darg 0 [(4, 3), (0, (W : Int)), (0, (P : Int))], [(0, (P : Int)), (4, 6)], cup g ((17 + 2 * ((W : Int))).toNat) 5 (bor fa (bsl 1 ((P : Int)))))) rfl
    dsimp only at h
    try rw [show (17 + 2 * ((W : Int))).toNat = 17 + 2 * W from by omega] at h
    have h := zald zy_51 h rfl rfl (dvp_6 (i := (P : Int)) (by omega) (by omega))
    dsimp only at h
    have h := zm zy_51 h 1 (q := (24, darg 0 [(4, 3), (0, (W : Int)), (0, (P : Int))], [(4, 17 + 2 * ((P : Int))), (4, 17 + 2 * ((P : Int)))], cup g (17 + 2 * W) 5 (bor fa (bsl 1 ((P : Int)))))) rfl
    dsimp only at h
    have h := zgf zy_51 h rfl rfl (dvf_17_5 (i := (P : Int)) (by omega) (by omega))
    dsimp only at h
    try rw [show (17 + 2 * ((P : Int))).toNat = 17 + 2 * P from by omega] at h
    have h := zm zy_51 h 5 (q := (34, darg 0 [(4, 3), (0, (W : Int)), (0, (P : Int))], [], cup (cup g (17 + 2 * W) 5 (bor fa (bsl 1 ((P : Int))))) ((17 + 2 * ((P : Int))).toNat) 5 (bor ((cup g (17 + 2 * W) 5 (bor fa (bsl 1 ((P : Int))))) (17 + 2 * P) 5) (bsl 1 ((W : Int)))))) rfl
    dsimp only at h
    try rw [show (17 + 2 * ((P : Int))).toNat = 17 + 2 * P from by omega] at h
    have h := zret zy_51 h rfl rfl
    have e1 := oV h
    have h := hO7
    rw [e1] at h
    clear e1
    clear hO7
    have h := zm zy_311 h 1 (q := (44, dset (dset (dset lf 2 (0, (P : Int))) 1 (0, (W : Int))) 0 (4, 0), [(4, 0)], cup (cup g (17 + 2 * W) 5 (bor fa (bsl 1 ((P : Int))))) (17 + 2 * P) 5 (bor ((cup g (17 + 2 * W) 5 (bor fa (bsl 1 ((P : Int))))) (17 + 2 * P) 5) (bsl 1 ((W : Int)))))) rfl
    dsimp only at h
    obtain ⟨gz8, rz9, hk, h⟩ := zcallI zy_311 h rfl rfl zy_25 zk_25
    dsimp only at hk h
    have hO10 := h
    have h := hk
    clear hk
    have h := zm zy_25 h 4 (q := (6, darg 0 [(4, 0)], [(0, 1)], cup (cup (cup g (17 + 2 * W) 5 (bor fa (bsl 1 ((P : Int))))) (17 + 2 * P) 5 (bor ((cup g (17 + 2 * W) 5 (bor fa (bsl 1 ((P : Int))))) (17 + 2 * P) 5) (bsl 1 ((W : Int))))) 0 0 0)) rfl
    dsimp only at h
    have h := zret zy_25 h rfl rfl
    obtain ⟨e1, e2⟩ := oI h
    have h := hO10
    rw [e1, e2] at h
    clear e1 e2
    clear hO10
    refine Or.inl (⟨hc4, ?_⟩)
    exact zret zy_311 h rfl rfl
  · have h := zm zy_106 h 2 (q := (21, darg 0 [(4, 3), (0, (W : Int)), (0, (P : Int))], [(0, 1)], g)) rfl
    dsimp only at h
    have h := zret zy_106 h rfl rfl
    obtain ⟨e1, e2⟩ := oI h
    have h := hO3
    rw [e1, e2] at h
    clear e1 e2
    clear hO3
    have h := zm zy_311 h 3 (q := (30, dset (dset (dset lf 2 (0, (P : Int))) 1 (0, (W : Int))) 0 (4, 0), [(0, 7), (4, 0)], g)) rfl
    dsimp only at h
    obtain ⟨gz11, rz12, hk, h⟩ := zcallI zy_311 h rfl rfl zy_26 zk_26
    dsimp only at hk h
    have hO13 := h
    have h := hk
    clear hk
    have h := zm zy_26 h 4 (q := (6, darg 0 [(4, 0), (0, 7)], [(0, 0)], cup g 0 0 7)) rfl
    dsimp only at h
    have h := zret zy_26 h rfl rfl
    obtain ⟨e1, e2⟩ := oI h
    have h := hO13
    rw [e1, e2] at h
    clear e1 e2
    clear hO13
    refine Or.inr (⟨hc4, ?_⟩)
    exact zret zy_311 h rfl rfl
theorem m_mt0 {sv : Nat → Int32} {L n : Nat} {lf : dlf} {g : cg} {o : cg × Option cv} {a b : Int} (h : zr sv L n 312 0 lf [] g o) (hl0 : lf 0 = (4, 253)) (hl1 : lf 1 = (0, a)) (hl2 : lf 2 = (0, b)) : (((a < 0) ∨ (0 ≤ a ∧ g 254 1 ≤ a) ∨ (0 ≤ a ∧ a < g 254 1 ∧ b < 0) ∨ (0 ≤ a ∧ a < g 254 1 ∧ 0 ≤ b ∧ g 254 1 ≤ b) ∨ (0 ≤ a ∧ a < g 254 1 ∧ 0 ≤ b ∧ b < g 254 1 ∧ a = b)) ∧ (o = (cup g 253 2 1, some (0, 0)))) ∨ ((0 ≤ a ∧ a < g 254 1 ∧ 0 ≤ b ∧ b < g 254 1 ∧ a ≠ b) ∧ (∃ lf', lf' 0 = (4, 253) ∧ lf' 1 = (0, a) ∧ lf' 2 = (0, b) ∧ zr sv L n 312 15 lf' [] g o)) := by
  rw [zov hl0, zov hl1, zov hl2] at h
  have h := zm zy_312 h 3 (q := (3, dset (dset (dset lf 2 (0, b)) 1 (0, a)) 0 (4, 253), [(0, b), (0, a), (4, 253)], g)) rfl
  dsimp only at h
  obtain ⟨gz1, rz2, hk, h⟩ := zcallI zy_312 h rfl rfl zy_213 zk_213
  dsimp only at hk h
  have hO3 := h
  have h := hk
  clear hk
  have h := zm zy_213 h 2 (q := (2, darg 0 [(4, 253), (0, a), (0, b)], [(0, a), (4, 253)], g)) rfl
  dsimp only at h
  obtain ⟨gz4, rz5, hk, h⟩ := zcallI zy_213 h rfl rfl zy_208 zk_208
  dsimp only at hk h
  have hO6 := h
  have h := hk
  clear hk
  have h := zm zy_208 h 2 (q := (cond (crel .lt a 0) 18 4, darg 0 [(4, 253), (0, a)], [], g)) rfl
  dsimp only at h
  rcases zif_lt h with ⟨hc7, h⟩ | ⟨hc7, h⟩
  · have h := zm zy_208 h 1 (q := (19, darg 0 [(4, 253), (0, a)], [(0, 0)], g)) rfl
    dsimp only at h
    have h := zret zy_208 h rfl rfl
    obtain ⟨e1, e2⟩ := oI h
    have h := hO6
    rw [e1, e2] at h
    clear e1 e2
    clear hO6
    have h := zm zy_213 h 2 (q := (26, darg 0 [(4, 253), (0, a), (0, b)], [(0, 0)], g)) rfl
    dsimp only at h
    have h := zret zy_213 h rfl rfl
    obtain ⟨e1, e2⟩ := oI h
    have h := hO3
    rw [e1, e2] at h
    clear e1 e2
    clear hO3
    have h := zm zy_312 h 3 (q := (11, dset (dset (dset lf 2 (0, b)) 1 (0, a)) 0 (4, 253), [(0, 1), (4, 253)], g)) rfl
    dsimp only at h
    obtain ⟨gz8, rz9, hk, h⟩ := zcallI zy_312 h rfl rfl zy_161 zk_161
    dsimp only at hk h
    have hO10 := h
    have h := hk
    clear hk
    have h := zm zy_161 h 6 (q := (14, darg 0 [(4, 253), (0, 1)], [(0, 0)], cup g 253 2 1)) rfl
    dsimp only at h
    have h := zret zy_161 h rfl rfl
    obtain ⟨e1, e2⟩ := oI h
    have h := hO10
    rw [e1, e2] at h
    clear e1 e2
    clear hO10
    refine Or.inl (⟨Or.inl (hc7), ?_⟩)
    exact zret zy_312 h rfl rfl
  · have h := zm zy_208 h 6 (q := (cond (crel .ge a (g 254 1)) 18 14, darg 0 [(4, 253), (0, a)], [], g)) rfl
    dsimp only at h
    rcases zif_ge h with ⟨hc11, h⟩ | ⟨hc11, h⟩
    · have h := zm zy_208 h 1 (q := (19, darg 0 [(4, 253), (0, a)], [(0, 0)], g)) rfl
      dsimp only at h
      have h := zret zy_208 h rfl rfl
      obtain ⟨e1, e2⟩ := oI h
      have h := hO6
      rw [e1, e2] at h
      clear e1 e2
      clear hO6
      have h := zm zy_213 h 2 (q := (26, darg 0 [(4, 253), (0, a), (0, b)], [(0, 0)], g)) rfl
      dsimp only at h
      have h := zret zy_213 h rfl rfl
      obtain ⟨e1, e2⟩ := oI h
      have h := hO3
      rw [e1, e2] at h
      clear e1 e2
      clear hO3
      have h := zm zy_312 h 3 (q := (11, dset (dset (dset lf 2 (0, b)) 1 (0, a)) 0 (4, 253), [(0, 1), (4, 253)], g)) rfl
      dsimp only at h
      obtain ⟨gz12, rz13, hk, h⟩ := zcallI zy_312 h rfl rfl zy_161 zk_161
      dsimp only at hk h
      have hO14 := h
      have h := hk
      clear hk
      have h := zm zy_161 h 6 (q := (14, darg 0 [(4, 253), (0, 1)], [(0, 0)], cup g 253 2 1)) rfl
      dsimp only at h
      have h := zret zy_161 h rfl rfl
      obtain ⟨e1, e2⟩ := oI h
      have h := hO14
      rw [e1, e2] at h
      clear e1 e2
      clear hO14
      refine Or.inl (⟨Or.inr (Or.inl (⟨hc7, hc11⟩)), ?_⟩)
      exact zret zy_312 h rfl rfl
    · have h := zm zy_208 h 2 (q := (19, darg 0 [(4, 253), (0, a)], [(0, 1)], g)) rfl
      dsimp only at h
      have h := zret zy_208 h rfl rfl
      obtain ⟨e1, e2⟩ := oI h
      have h := hO6
      rw [e1, e2] at h
      clear e1 e2
      clear hO6
      have h := zm zy_213 h 3 (q := (10, darg 0 [(4, 253), (0, a), (0, b)], [(0, b), (4, 253)], g)) rfl
      dsimp only at h
      obtain ⟨gz15, rz16, hk, h⟩ := zcallI zy_213 h rfl rfl zy_208 zk_208
      dsimp only at hk h
      have hO17 := h
      have h := hk
      clear hk
      have h := zm zy_208 h 2 (q := (cond (crel .lt b 0) 18 4, darg 0 [(4, 253), (0, b)], [], g)) rfl
      dsimp only at h
      rcases zif_lt h with ⟨hc18, h⟩ | ⟨hc18, h⟩
      · have h := zm zy_208 h 1 (q := (19, darg 0 [(4, 253), (0, b)], [(0, 0)], g)) rfl
        dsimp only at h
        have h := zret zy_208 h rfl rfl
        obtain ⟨e1, e2⟩ := oI h
        have h := hO17
        rw [e1, e2] at h
        clear e1 e2
        clear hO17
        have h := zm zy_213 h 2 (q := (26, darg 0 [(4, 253), (0, a), (0, b)], [(0, 0)], g)) rfl
        dsimp only at h
        have h := zret zy_213 h rfl rfl
        obtain ⟨e1, e2⟩ := oI h
        have h := hO3
        rw [e1, e2] at h
        clear e1 e2
        clear hO3
        have h := zm zy_312 h 3 (q := (11, dset (dset (dset lf 2 (0, b)) 1 (0, a)) 0 (4, 253), [(0, 1), (4, 253)], g)) rfl
        dsimp only at h
        obtain ⟨gz19, rz20, hk, h⟩ := zcallI zy_312 h rfl rfl zy_161 zk_161
        dsimp only at hk h
        have hO21 := h
        have h := hk
        clear hk
        have h := zm zy_161 h 6 (q := (14, darg 0 [(4, 253), (0, 1)], [(0, 0)], cup g 253 2 1)) rfl
        dsimp only at h
        have h := zret zy_161 h rfl rfl
        obtain ⟨e1, e2⟩ := oI h
        have h := hO21
        rw [e1, e2] at h
        clear e1 e2
        clear hO21
        refine Or.inl (⟨Or.inr (Or.inr (Or.inl (⟨hc7, hc11, hc18⟩))), ?_⟩)
        exact zret zy_312 h rfl rfl
      · have h := zm zy_208 h 6 (q := (cond (crel .ge b (g 254 1)) 18 14, darg 0 [(4, 253), (0, b)], [], g)) rfl
        dsimp only at h
        rcases zif_ge h with ⟨hc22, h⟩ | ⟨hc22, h⟩
        · have h := zm zy_208 h 1 (q := (19, darg 0 [(4, 253), (0, b)], [(0, 0)], g)) rfl
          dsimp only at h
          have h := zret zy_208 h rfl rfl
          obtain ⟨e1, e2⟩ := oI h
          have h := hO17
          rw [e1, e2] at h
          clear e1 e2
          clear hO17
          have h := zm zy_213 h 2 (q := (26, darg 0 [(4, 253), (0, a), (0, b)], [(0, 0)], g)) rfl
          dsimp only at h
          have h := zret zy_213 h rfl rfl
          obtain ⟨e1, e2⟩ := oI h
          have h := hO3
          rw [e1, e2] at h
          clear e1 e2
          clear hO3
          have h := zm zy_312 h 3 (q := (11, dset (dset (dset lf 2 (0, b)) 1 (0, a)) 0 (4, 253), [(0, 1), (4, 253)], g)) rfl
          dsimp only at h
          obtain ⟨gz23, rz24, hk, h⟩ := zcallI zy_312 h rfl rfl zy_161 zk_161
          dsimp only at hk h
          have hO25 := h
          have h := hk
          clear hk
          have h := zm zy_161 h 6 (q := (14, darg 0 [(4, 253), (0, 1)], [(0, 0)], cup g 253 2 1)) rfl
          dsimp only at h
          have h := zret zy_161 h rfl rfl
          obtain ⟨e1, e2⟩ := oI h
          have h := hO25
          rw [e1, e2] at h
          clear e1 e2
          clear hO25
          refine Or.inl (⟨Or.inr (Or.inr (Or.inr (Or.inl (⟨hc7, hc11, hc18, hc22⟩)))), ?_⟩)
          exact zret zy_312 h rfl rfl
        · have h := zm zy_208 h 2 (q := (19, darg 0 [(4, 253), (0, b)], [(0, 1)], g)) rfl
          dsimp only at h
          have h := zret zy_208 h rfl rfl
          obtain ⟨e1, e2⟩ := oI h
          have h := hO17
          rw [e1, e2] at h
          clear e1 e2
          clear hO17
          have h := zm zy_213 h 4 (q := (cond (crel .eq a b) 25 21, darg 0 [(4, 253), (0, a), (0, b)], [], g)) rfl
          dsimp only at h
          rcases zif_eq h with ⟨hc26, h⟩ | ⟨hc26, h⟩
          · have h := zm zy_213 h 1 (q := (26, darg 0 [(4, 253), (0, a), (0, b)], [(0, 0)], g)) rfl
            dsimp only at h
            have h := zret zy_213 h rfl rfl
            obtain ⟨e1, e2⟩ := oI h
            have h := hO3
            rw [e1, e2] at h
            clear e1 e2
            clear hO3
            have h := zm zy_312 h 3 (q := (11, dset (dset (dset lf 2 (0, b)) 1 (0, a)) 0 (4, 253), [(0, 1), (4, 253)], g)) rfl
            dsimp only at h
            obtain ⟨gz27, rz28, hk, h⟩ := zcallI zy_312 h rfl rfl zy_161 zk_161
            dsimp only at hk h
            have hO29 := h
            have h := hk
            clear hk
            have h := zm zy_161 h 6 (q := (14, darg 0 [(4, 253), (0, 1)], [(0, 0)], cup g 253 2 1)) rfl
            dsimp only at h
            have h := zret zy_161 h rfl rfl
            obtain ⟨e1, e2⟩ := oI h
            have h := hO29
            rw [e1, e2] at h
            clear e1 e2
            clear hO29
            refine Or.inl (⟨Or.inr (Or.inr (Or.inr (Or.inr (⟨hc7, hc11, hc18, hc22, hc26⟩)))), ?_⟩)
            exact zret zy_312 h rfl rfl
          · have h := zm zy_213 h 2 (q := (26, darg 0 [(4, 253), (0, a), (0, b)], [(0, 1)], g)) rfl
            dsimp only at h
            have h := zret zy_213 h rfl rfl
            obtain ⟨e1, e2⟩ := oI h
            have h := hO3
            rw [e1, e2] at h
            clear e1 e2
            clear hO3
            have h := zm zy_312 h 1 (q := (15, dset (dset (dset lf 2 (0, b)) 1 (0, a)) 0 (4, 253), [], g)) rfl
            dsimp only at h
            refine Or.inr (⟨⟨hc7, hc11, hc18, hc22, hc26⟩, ?_⟩)
            exact ⟨_, rfl, rfl, rfl, h⟩
theorem m_mt15 {sv : Nat → Int32} {L n : Nat} {lf : dlf} {g : cg} {o : cg × Option cv} {W P : Nat} {fa : Int} (rW : W ≤ 5) (rP : P ≤ 5) (hfa : g 254 (19 + 6 * W) = fa) (h : zr sv L n 312 15 lf [] g o) (hl0 : lf 0 = (4, 253)) (hl1 : lf 1 = (0, (W : Int))) (hl2 : lf 2 = (0, (P : Int))) : ((ban (bsr fa ((P : Int))) 1 ≠ 1) ∧ (o = (cup (cup (cup g 254 (19 + 6 * W) (bor fa (bsl 1 ((P : Int))))) 254 (19 + 6 * P) (bor ((cup g 254 (19 + 6 * W) (bor fa (bsl 1 ((P : Int))))) 254 (19 + 6 * P)) (bsl 1 ((W : Int))))) 253 2 0, some (0, 1)))) ∨ ((ban (bsr fa ((P : Int))) 1 = 1) ∧ (o = (cup g 253 2 7, some (0, 0)))) := by
  rw [zov hl0, zov hl1, zov hl2] at h
  have h := zm zy_312 h 3 (q := (18, dset (dset (dset lf 2 (0, (P : Int))) 1 (0, (W : Int))) 0 (4, 253), [(0, (P : Int)), (0, (W : Int)), (4, 253)], g)) rfl
  dsimp only at h
  obtain ⟨gz1, rz2, hk, h⟩ := zcallI zy_312 h rfl rfl zy_214 zk_214
  dsimp only at hk h
  have hO3 := h
  have h := hk
  clear hk
  have h := zm zy_214 h 4 (q := (6, darg 0 [(4, 253), (0, (W : Int)), (0, (P : Int))], [(0, (W : Int)), (4, 254), (4, 253)], g)) rfl
  dsimp only at h
  obtain ⟨gz4, rz5, hk, h⟩ := zcallI zy_214 h rfl rfl zy_209 zk_209
  dsimp only at hk h
  have hO6 := h
  have h := hk
  clear hk
  have h := zm zy_209 h 5 (q := (7, darg 0 [(0, (W : Int))], [(0, w32 (15 + (w32 (6 * ((W : Int))))))], g)) rfl
  dsimp only at h
  try rw [w32_eq (z := 6 * ((W : Int))) (v := 6 * (W : Int)) (by omega) (by omega) (by omega)] at h
  try rw [w32_eq (z := 15 + (6 * (W : Int))) (v := 15 + 6 * (W : Int)) (by omega) (by omega) (by omega)] at h
  have h := zret zy_209 h rfl rfl
  obtain ⟨e1, e2⟩ := oI h
  have h := hO6
  rw [e1, e2] at h
  clear e1 e2
  clear hO6
  have h := zm zy_214 h 2 (q := (11, darg 0 [(4, 253), (0, (W : Int)), (0, (P : Int))], [(0, w32 ((15 + 6 * (W : Int)) + 4)), (4, 254), (4, 253)], g)) rfl
  dsimp only at h
  try rw [w32_eq (z := (15 + 6 * (W : Int)) + 4) (v := 19 + 6 * (W : Int)) (by omega) (by omega) (by omega)] at h
  have h := zald zy_214 h rfl rfl (dvb_254 (i := 19 + 6 * (W : Int)) (by omega) (by omega))
  dsimp only at h
  try rw [show (19 + 6 * (W : Int)).toNat = 19 + 6 * W from by omega] at h
  try rw [hfa] at h
  have h := zm zy_214 h 1 (q := (13, darg 0 [(4, 253), (0, (W : Int)), (0, (P : Int))], [(0, (P : Int)), (0, fa), (4, 253)], g)) rfl
  dsimp only at h
  obtain ⟨gz7, rz8, hk, h⟩ := zcallI zy_214 h rfl rfl zy_215 zk_215
  dsimp only at hk h
  have hO9 := h
  have h := hk
  clear hk
  have h := zm zy_215 h 7 (q := (cond (crel .ne (ban (bsr fa ((P : Int))) 1) 1) 13 9, darg 0 [(4, 253), (0, fa), (0, (P : Int))], [], g)) rfl
  dsimp only at h
  rcases zif_ne h with ⟨hc10, h⟩ | ⟨hc10, h⟩
  · have h := zm zy_215 h 1 (q := (14, darg 0 [(4, 253), (0, fa), (0, (P : Int))], [(0, 0)], g)) rfl
    dsimp only at h
    have h := zret zy_215 h rfl rfl
    obtain ⟨e1, e2⟩ := oI h
    have h := hO9
    rw [e1, e2] at h
    clear e1 e2
    clear hO9
    have h := zret zy_214 h rfl rfl
    obtain ⟨e1, e2⟩ := oI h
    have h := hO3
    rw [e1, e2] at h
    clear e1 e2
    clear hO3
    have h := zm zy_312 h 4 (q := (36, dset (dset (dset lf 2 (0, (P : Int))) 1 (0, (W : Int))) 0 (4, 253), [(0, (W : Int)), (4, 254)], g)) rfl
    dsimp only at h
    obtain ⟨gz11, rz12, hk, h⟩ := zcallI zy_312 h rfl rfl zy_209 zk_209
    dsimp only at hk h
    have hO13 := h
    have h := hk
    clear hk
    have h := zm zy_209 h 5 (q := (7, darg 0 [(0, (W : Int))], [(0, w32 (15 + (w32 (6 * ((W : Int))))))], g)) rfl
    dsimp only at h
    try rw [w32_eq (z := 6 * ((W : Int))) (v := 6 * (W : Int)) (by omega) (by omega) (by omega)] at h
    try rw [w32_eq (z := 15 + (6 * (W : Int))) (v := 15 + 6 * (W : Int)) (by omega) (by omega) (by omega)] at h
    have h := zret zy_209 h rfl rfl
    obtain ⟨e1, e2⟩ := oI h
    have h := hO13
    rw [e1, e2] at h
    clear e1 e2
    clear hO13
    have h := zm zy_312 h 3 (q := (42, dset (dset (dset lf 2 (0, (P : Int))) 1 (0, (W : Int))) 0 (4, 253), [(0, w32 ((15 + 6 * (W : Int)) + 4)), (4, 254), (0, w32 ((15 + 6 * (W : Int)) + 4)), (4, 254)], g)) rfl
    dsimp only at h
    try rw [w32_eq (z := (15 + 6 * (W : Int)) + 4) (v := 19 + 6 * (W : Int)) (by omega) (by omega) (by omega)] at h
    have h := zald zy_312 h rfl rfl (dvb_254 (i := 19 + 6 * (W : Int)) (by omega) (by omega))
    dsimp only at h
    try rw [show (19 + 6 * (W : Int)).toNat = 19 + 6 * W from by omega] at h
    try rw [hfa] at h
    have h := zm zy_312 h 8 (q := (53, dset (dset (dset lf 2 (0, (P : Int))) 1 (0, (W : Int))) 0 (4, 253), [(0, (P : Int)), (4, 254)], cup g 254 ((19 + 6 * (W : Int)).toNat) (bor fa (bsl 1 ((P : Int)))))) rfl
    dsimp only at h
    try rw [show (19 + 6 * (W : Int)).toNat = 19 + 6 * W from by omega] at h
    obtain ⟨gz14, rz15, hk, h⟩ := zcallI zy_312 h rfl rfl zy_209 zk_209
    dsimp only at hk h
    have hO16 := h
    have h := hk
    clear hk
    have h := zm zy_209 h 5 (q := (7, darg 0 [(0, (P : Int))], [(0, w32 (15 + (w32 (6 * ((P : Int))))))], cup g 254 (19 + 6 * W) (bor fa (bsl 1 ((P : Int)))))) rfl
    dsimp only at h
    try rw [w32_eq (z := 6 * ((P : Int))) (v := 6 * (P : Int)) (by omega) (by omega) (by omega)] at h
    try rw [w32_eq (z := 15 + (6 * (P : Int))) (v := 15 + 6 * (P : Int)) (by omega) (by omega) (by omega)] at h
    have h := zret zy_209 h rfl rfl
    obtain ⟨e1, e2⟩ := oI h
    have h := hO16
    rw [e1, e2] at h
    clear e1 e2
    clear hO16
    have h := zm zy_312 h 3 (q := (59, dset (dset (dset lf 2 (0, (P : Int))) 1 (0, (W : Int))) 0 (4, 253), [(0, w32 ((15 + 6 * (P : Int)) + 4)), (4, 254), (0, w32 ((15 + 6 * (P : Int)) + 4)), (4, 254)], cup g 254 (19 + 6 * W) (bor fa (bsl 1 ((P : Int)))))) rfl
    dsimp only at h
    try rw [w32_eq (z := (15 + 6 * (P : Int)) + 4) (v := 19 + 6 * (P : Int)) (by omega) (by omega) (by omega)] at h
    have h := zald zy_312 h rfl rfl (dvb_254 (i := 19 + 6 * (P : Int)) (by omega) (by omega))
    dsimp only at h
    try rw [show (19 + 6 * (P : Int)).toNat = 19 + 6 * P from by omega] at h
    have h := zm zy_312 h 7 (q := (67, dset (dset (dset lf 2 (0, (P : Int))) 1 (0, (W : Int))) 0 (4, 253), [(0, 0), (4, 253)], cup (cup g 254 (19 + 6 * W) (bor fa (bsl 1 ((P : Int))))) 254 ((19 + 6 * (P : Int)).toNat) (bor ((cup g 254 (19 + 6 * W) (bor fa (bsl 1 ((P : Int))))) 254 (19 + 6 * P)) (bsl 1 ((W : Int)))))) rfl
    dsimp only at h
    try rw [show (19 + 6 * (P : Int)).toNat = 19 + 6 * P from by omega] at h
    obtain ⟨gz17, rz18, hk, h⟩ := zcallI zy_312 h rfl rfl zy_161 zk_161
    dsimp only at hk h
    have hO19 := h
    have h := hk
    clear hk
    have h := zm zy_161 h 7 (q := (14, darg 0 [(4, 253), (0, 0)], [(0, 1)], cup (cup (cup g 254 (19 + 6 * W) (bor fa (bsl 1 ((P : Int))))) 254 (19 + 6 * P) (bor ((cup g 254 (19 + 6 * W) (bor fa (bsl 1 ((P : Int))))) 254 (19 + 6 * P)) (bsl 1 ((W : Int))))) 253 2 0)) rfl
    dsimp only at h
    have h := zret zy_161 h rfl rfl
    obtain ⟨e1, e2⟩ := oI h
    have h := hO19
    rw [e1, e2] at h
    clear e1 e2
    clear hO19
    refine Or.inl (⟨hc10, ?_⟩)
    exact zret zy_312 h rfl rfl
  · have h := zm zy_215 h 2 (q := (14, darg 0 [(4, 253), (0, fa), (0, (P : Int))], [(0, 1)], g)) rfl
    dsimp only at h
    have h := zret zy_215 h rfl rfl
    obtain ⟨e1, e2⟩ := oI h
    have h := hO9
    rw [e1, e2] at h
    clear e1 e2
    clear hO9
    have h := zret zy_214 h rfl rfl
    obtain ⟨e1, e2⟩ := oI h
    have h := hO3
    rw [e1, e2] at h
    clear e1 e2
    clear hO3
    have h := zm zy_312 h 3 (q := (27, dset (dset (dset lf 2 (0, (P : Int))) 1 (0, (W : Int))) 0 (4, 253), [(0, 7), (4, 253)], g)) rfl
    dsimp only at h
    obtain ⟨gz20, rz21, hk, h⟩ := zcallI zy_312 h rfl rfl zy_161 zk_161
    dsimp only at hk h
    have hO22 := h
    have h := hk
    clear hk
    have h := zm zy_161 h 6 (q := (14, darg 0 [(4, 253), (0, 7)], [(0, 0)], cup g 253 2 7)) rfl
    dsimp only at h
    have h := zret zy_161 h rfl rfl
    obtain ⟨e1, e2⟩ := oI h
    have h := hO22
    rw [e1, e2] at h
    clear e1 e2
    clear hO22
    refine Or.inr (⟨hc10, ?_⟩)
    exact zret zy_312 h rfl rfl
end
