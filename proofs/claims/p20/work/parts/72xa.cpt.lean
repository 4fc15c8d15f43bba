/-! copies of a court: printed by program (wip/tools/zcp2.py) -/
section
set_option maxRecDepth 100000
theorem zy_62 : xg xcode 62 = some xt_62 := rfl
theorem zk_62 : zkc 0 xt_62 = true := by decide +kernel
theorem dvp_7 {g : cg} {i : Int} (h0 : 0 ≤ i) (h1 : i < 16) : dval xh2 g 7 i.toNat = (4, 29 + i) := by
  rcases (show i = 0 ∨ i = 1 ∨ i = 2 ∨ i = 3 ∨ i = 4 ∨ i = 5 ∨ i = 6 ∨ i = 7 ∨ i = 8 ∨ i = 9 ∨ i = 10 ∨ i = 11 ∨ i = 12 ∨ i = 13 ∨ i = 14 ∨ i = 15 from by omega) with e | e | e | e | e | e | e | e | e | e | e | e | e | e | e | e <;> subst e <;> rfl
theorem dvp_49 {g : cg} {i : Int} (h0 : 0 ≤ i) (h1 : i < 16) : dval xh2 g 49 i.toNat = (4, 71 + i) := by
  rcases (show i = 0 ∨ i = 1 ∨ i = 2 ∨ i = 3 ∨ i = 4 ∨ i = 5 ∨ i = 6 ∨ i = 7 ∨ i = 8 ∨ i = 9 ∨ i = 10 ∨ i = 11 ∨ i = 12 ∨ i = 13 ∨ i = 14 ∨ i = 15 from by omega) with e | e | e | e | e | e | e | e | e | e | e | e | e | e | e | e <;> subst e <;> rfl
theorem dvp_130 {g : cg} {i : Int} (h0 : 0 ≤ i) (h1 : i < 6) : dval xh2 g 130 i.toNat = (4, 141 + 2 * i) := by
  rcases (show i = 0 ∨ i = 1 ∨ i = 2 ∨ i = 3 ∨ i = 4 ∨ i = 5 from by omega) with e | e | e | e | e | e <;> subst e <;> rfl
theorem dvp_131 {g : cg} {i : Int} (h0 : 0 ≤ i) (h1 : i < 16) : dval xh2 g 131 i.toNat = (4, 153 + i) := by
  rcases (show i = 0 ∨ i = 1 ∨ i = 2 ∨ i = 3 ∨ i = 4 ∨ i = 5 ∨ i = 6 ∨ i = 7 ∨ i = 8 ∨ i = 9 ∨ i = 10 ∨ i = 11 ∨ i = 12 ∨ i = 13 ∨ i = 14 ∨ i = 15 from by omega) with e | e | e | e | e | e | e | e | e | e | e | e | e | e | e | e <;> subst e <;> rfl
theorem dvp_172 {g : cg} {i : Int} (h0 : 0 ≤ i) (h1 : i < 6) : dval xh2 g 172 i.toNat = (4, 183 + 2 * i) := by
  rcases (show i = 0 ∨ i = 1 ∨ i = 2 ∨ i = 3 ∨ i = 4 ∨ i = 5 from by omega) with e | e | e | e | e | e <;> subst e <;> rfl
theorem dvp_173 {g : cg} {i : Int} (h0 : 0 ≤ i) (h1 : i < 16) : dval xh2 g 173 i.toNat = (4, 195 + i) := by
  rcases (show i = 0 ∨ i = 1 ∨ i = 2 ∨ i = 3 ∨ i = 4 ∨ i = 5 ∨ i = 6 ∨ i = 7 ∨ i = 8 ∨ i = 9 ∨ i = 10 ∨ i = 11 ∨ i = 12 ∨ i = 13 ∨ i = 14 ∨ i = 15 from by omega) with e | e | e | e | e | e | e | e | e | e | e | e | e | e | e | e <;> subst e <;> rfl
theorem dvp_214 {g : cg} {i : Int} (h0 : 0 ≤ i) (h1 : i < 6) : dval xh2 g 214 i.toNat = (4, 225 + 2 * i) := by
  rcases (show i = 0 ∨ i = 1 ∨ i = 2 ∨ i = 3 ∨ i = 4 ∨ i = 5 from by omega) with e | e | e | e | e | e <;> subst e <;> rfl
theorem dvp_215 {g : cg} {i : Int} (h0 : 0 ≤ i) (h1 : i < 16) : dval xh2 g 215 i.toNat = (4, 237 + i) := by
  rcases (show i = 0 ∨ i = 1 ∨ i = 2 ∨ i = 3 ∨ i = 4 ∨ i = 5 ∨ i = 6 ∨ i = 7 ∨ i = 8 ∨ i = 9 ∨ i = 10 ∨ i = 11 ∨ i = 12 ∨ i = 13 ∨ i = 14 ∨ i = 15 from by omega) with e | e | e | e | e | e | e | e | e | e | e | e | e | e | e | e <;> subst e <;> rfl
theorem dvf_17_0 {g : cg} {i : Int} (h0 : 0 ≤ i) (h1 : i < 6) : dval xh2 g (17 + 2 * i).toNat 0 = (2, g (17 + 2 * i).toNat 0) := by
  rcases (show i = 0 ∨ i = 1 ∨ i = 2 ∨ i = 3 ∨ i = 4 ∨ i = 5 from by omega) with e | e | e | e | e | e <;> subst e <;> rfl
theorem dvf_17_1 {g : cg} {i : Int} (h0 : 0 ≤ i) (h1 : i < 6) : dval xh2 g (17 + 2 * i).toNat 1 = (0, g (17 + 2 * i).toNat 1) := by
  rcases (show i = 0 ∨ i = 1 ∨ i = 2 ∨ i = 3 ∨ i = 4 ∨ i = 5 from by omega) with e | e | e | e | e | e <;> subst e <;> rfl
theorem dvf_17_2 {g : cg} {i : Int} (h0 : 0 ≤ i) (h1 : i < 6) : dval xh2 g (17 + 2 * i).toNat 2 = (0, g (17 + 2 * i).toNat 2) := by
  rcases (show i = 0 ∨ i = 1 ∨ i = 2 ∨ i = 3 ∨ i = 4 ∨ i = 5 from by omega) with e | e | e | e | e | e <;> subst e <;> rfl
theorem dvf_17_3 {g : cg} {i : Int} (h0 : 0 ≤ i) (h1 : i < 6) : dval xh2 g (17 + 2 * i).toNat 3 = (0, g (17 + 2 * i).toNat 3) := by
  rcases (show i = 0 ∨ i = 1 ∨ i = 2 ∨ i = 3 ∨ i = 4 ∨ i = 5 from by omega) with e | e | e | e | e | e <;> subst e <;> rfl
theorem dvf_17_4 {g : cg} {i : Int} (h0 : 0 ≤ i) (h1 : i < 6) : dval xh2 g (17 + 2 * i).toNat 4 = (0, g (17 + 2 * i).toNat 4) := by
  rcases (show i = 0 ∨ i = 1 ∨ i = 2 ∨ i = 3 ∨ i = 4 ∨ i = 5 from by omega) with e | e | e | e | e | e <;> subst e <;> rfl
theorem dvf_17_5 {g : cg} {i : Int} (h0 : 0 ≤ i) (h1 : i < 6) : dval xh2 g (17 + 2 * i).toNat 5 = (0, g (17 + 2 * i).toNat 5) := by
  rcases (show i = 0 ∨ i = 1 ∨ i = 2 ∨ i = 3 ∨ i = 4 ∨ i = 5 from by omega) with e | e | e | e | e | e <;> subst e <;> rfl
theorem dvf_29_0 {g : cg} {i : Int} (h0 : 0 ≤ i) (h1 : i < 16) : dval xh2 g (29 + i).toNat 0 = (0, g (29 + i).toNat 0) := by
  rcases (show i = 0 ∨ i = 1 ∨ i = 2 ∨ i = 3 ∨ i = 4 ∨ i = 5 ∨ i = 6 ∨ i = 7 ∨ i = 8 ∨ i = 9 ∨ i = 10 ∨ i = 11 ∨ i = 12 ∨ i = 13 ∨ i = 14 ∨ i = 15 from by omega) with e | e | e | e | e | e | e | e | e | e | e | e | e | e | e | e <;> subst e <;> rfl
theorem dvf_29_1 {g : cg} {i : Int} (h0 : 0 ≤ i) (h1 : i < 16) : dval xh2 g (29 + i).toNat 1 = (0, g (29 + i).toNat 1) := by
  rcases (show i = 0 ∨ i = 1 ∨ i = 2 ∨ i = 3 ∨ i = 4 ∨ i = 5 ∨ i = 6 ∨ i = 7 ∨ i = 8 ∨ i = 9 ∨ i = 10 ∨ i = 11 ∨ i = 12 ∨ i = 13 ∨ i = 14 ∨ i = 15 from by omega) with e | e | e | e | e | e | e | e | e | e | e | e | e | e | e | e <;> subst e <;> rfl
theorem dvf_29_2 {g : cg} {i : Int} (h0 : 0 ≤ i) (h1 : i < 16) : dval xh2 g (29 + i).toNat 2 = (0, g (29 + i).toNat 2) := by
  rcases (show i = 0 ∨ i = 1 ∨ i = 2 ∨ i = 3 ∨ i = 4 ∨ i = 5 ∨ i = 6 ∨ i = 7 ∨ i = 8 ∨ i = 9 ∨ i = 10 ∨ i = 11 ∨ i = 12 ∨ i = 13 ∨ i = 14 ∨ i = 15 from by omega) with e | e | e | e | e | e | e | e | e | e | e | e | e | e | e | e <;> subst e <;> rfl
theorem dvf_29_3 {g : cg} {i : Int} (h0 : 0 ≤ i) (h1 : i < 16) : dval xh2 g (29 + i).toNat 3 = (0, g (29 + i).toNat 3) := by
  rcases (show i = 0 ∨ i = 1 ∨ i = 2 ∨ i = 3 ∨ i = 4 ∨ i = 5 ∨ i = 6 ∨ i = 7 ∨ i = 8 ∨ i = 9 ∨ i = 10 ∨ i = 11 ∨ i = 12 ∨ i = 13 ∨ i = 14 ∨ i = 15 from by omega) with e | e | e | e | e | e | e | e | e | e | e | e | e | e | e | e <;> subst e <;> rfl
theorem dvf_29_4 {g : cg} {i : Int} (h0 : 0 ≤ i) (h1 : i < 16) : dval xh2 g (29 + i).toNat 4 = (0, g (29 + i).toNat 4) := by
  rcases (show i = 0 ∨ i = 1 ∨ i = 2 ∨ i = 3 ∨ i = 4 ∨ i = 5 ∨ i = 6 ∨ i = 7 ∨ i = 8 ∨ i = 9 ∨ i = 10 ∨ i = 11 ∨ i = 12 ∨ i = 13 ∨ i = 14 ∨ i = 15 from by omega) with e | e | e | e | e | e | e | e | e | e | e | e | e | e | e | e <;> subst e <;> rfl
theorem dvf_29_5 {g : cg} {i : Int} (h0 : 0 ≤ i) (h1 : i < 16) : dval xh2 g (29 + i).toNat 5 = (0, g (29 + i).toNat 5) := by
  rcases (show i = 0 ∨ i = 1 ∨ i = 2 ∨ i = 3 ∨ i = 4 ∨ i = 5 ∨ i = 6 ∨ i = 7 ∨ i = 8 ∨ i = 9 ∨ i = 10 ∨ i = 11 ∨ i = 12 ∨ i = 13 ∨ i = 14 ∨ i = 15 from by omega) with e | e | e | e | e | e | e | e | e | e | e | e | e | e | e | e <;> subst e <;> rfl
theorem dvf_29_6 {g : cg} {i : Int} (h0 : 0 ≤ i) (h1 : i < 16) : dval xh2 g (29 + i).toNat 6 = (0, g (29 + i).toNat 6) := by
  rcases (show i = 0 ∨ i = 1 ∨ i = 2 ∨ i = 3 ∨ i = 4 ∨ i = 5 ∨ i = 6 ∨ i = 7 ∨ i = 8 ∨ i = 9 ∨ i = 10 ∨ i = 11 ∨ i = 12 ∨ i = 13 ∨ i = 14 ∨ i = 15 from by omega) with e | e | e | e | e | e | e | e | e | e | e | e | e | e | e | e <;> subst e <;> rfl
theorem dvf_29_7 {g : cg} {i : Int} (h0 : 0 ≤ i) (h1 : i < 16) : dval xh2 g (29 + i).toNat 7 = (0, g (29 + i).toNat 7) := by
  rcases (show i = 0 ∨ i = 1 ∨ i = 2 ∨ i = 3 ∨ i = 4 ∨ i = 5 ∨ i = 6 ∨ i = 7 ∨ i = 8 ∨ i = 9 ∨ i = 10 ∨ i = 11 ∨ i = 12 ∨ i = 13 ∨ i = 14 ∨ i = 15 from by omega) with e | e | e | e | e | e | e | e | e | e | e | e | e | e | e | e <;> subst e <;> rfl
theorem dvf_71_0 {g : cg} {i : Int} (h0 : 0 ≤ i) (h1 : i < 16) : dval xh2 g (71 + i).toNat 0 = (0, g (71 + i).toNat 0) := by
  rcases (show i = 0 ∨ i = 1 ∨ i = 2 ∨ i = 3 ∨ i = 4 ∨ i = 5 ∨ i = 6 ∨ i = 7 ∨ i = 8 ∨ i = 9 ∨ i = 10 ∨ i = 11 ∨ i = 12 ∨ i = 13 ∨ i = 14 ∨ i = 15 from by omega) with e | e | e | e | e | e | e | e | e | e | e | e | e | e | e | e <;> subst e <;> rfl
theorem dvf_71_1 {g : cg} {i : Int} (h0 : 0 ≤ i) (h1 : i < 16) : dval xh2 g (71 + i).toNat 1 = (0, g (71 + i).toNat 1) := by
  rcases (show i = 0 ∨ i = 1 ∨ i = 2 ∨ i = 3 ∨ i = 4 ∨ i = 5 ∨ i = 6 ∨ i = 7 ∨ i = 8 ∨ i = 9 ∨ i = 10 ∨ i = 11 ∨ i = 12 ∨ i = 13 ∨ i = 14 ∨ i = 15 from by omega) with e | e | e | e | e | e | e | e | e | e | e | e | e | e | e | e <;> subst e <;> rfl
theorem dvf_71_2 {g : cg} {i : Int} (h0 : 0 ≤ i) (h1 : i < 16) : dval xh2 g (71 + i).toNat 2 = (0, g (71 + i).toNat 2) := by
  rcases (show i = 0 ∨ i = 1 ∨ i = 2 ∨ i = 3 ∨ i = 4 ∨ i = 5 ∨ i = 6 ∨ i = 7 ∨ i = 8 ∨ i = 9 ∨ i = 10 ∨ i = 11 ∨ i = 12 ∨ i = 13 ∨ i = 14 ∨ i = 15 from by omega) with e | e | e | e | e | e | e | e | e | e | e | e | e | e | e | e <;> subst e <;> rfl
theorem dvf_71_3 {g : cg} {i : Int} (h0 : 0 ≤ i) (h1 : i < 16) : dval xh2 g (71 + i).toNat 3 = (0, g (71 + i).toNat 3) := by
  rcases (show i = 0 ∨ i = 1 ∨ i = 2 ∨ i = 3 ∨ i = 4 ∨ i = 5 ∨ i = 6 ∨ i = 7 ∨ i = 8 ∨ i = 9 ∨ i = 10 ∨ i = 11 ∨ i = 12 ∨ i = 13 ∨ i = 14 ∨ i = 15 from by omega) with e | e | e | e | e | e | e | e | e | e | e | e | e | e | e | e <;> subst e <;> rfl
theorem dvf_71_4 {g : cg} {i : Int} (h0 : 0 ≤ i) (h1 : i < 16) : dval xh2 g (71 + i).toNat 4 = (0, g (71 + i).toNat 4) := by
  rcases (show i = 0 ∨ i = 1 ∨ i = 2 ∨ i = 3 ∨ i = 4 ∨ i = 5 ∨ i = 6 ∨ i = 7 ∨ i = 8 ∨ i = 9 ∨ i = 10 ∨ i = 11 ∨ i = 12 ∨ i = 13 ∨ i = 14 ∨ i = 15 from by omega) with e | e | e | e | e | e | e | e | e | e | e | e | e | e | e | e <;> subst e <;> rfl
theorem dvf_71_5 {g : cg} {i : Int} (h0 : 0 ≤ i) (h1 : i < 16) : dval xh2 g (71 + i).toNat 5 = (0, g (71 + i).toNat 5) := by
  rcases (show i = 0 ∨ i = 1 ∨ i = 2 ∨ i = 3 ∨ i = 4 ∨ i = 5 ∨ i = 6 ∨ i = 7 ∨ i = 8 ∨ i = 9 ∨ i = 10 ∨ i = 11 ∨ i = 12 ∨ i = 13 ∨ i = 14 ∨ i = 15 from by omega) with e | e | e | e | e | e | e | e | e | e | e | e | e | e | e | e <;> subst e <;> rfl
theorem dvf_71_6 {g : cg} {i : Int} (h0 : 0 ≤ i) (h1 : i < 16) : dval xh2 g (71 + i).toNat 6 = (0, g (71 + i).toNat 6) := by
  rcases (show i = 0 ∨ i = 1 ∨ i = 2 ∨ i = 3 ∨ i = 4 ∨ i = 5 ∨ i = 6 ∨ i = 7 ∨ i = 8 ∨ i = 9 ∨ i = 10 ∨ i = 11 ∨ i = 12 ∨ i = 13 ∨ i = 14 ∨ i = 15 from by omega) with e | e | e | e | e | e | e | e | e | e | e | e | e | e | e | e <;> subst e <;> rfl
theorem dvf_71_7 {g : cg} {i : Int} (h0 : 0 ≤ i) (h1 : i < 16) : dval xh2 g (71 + i).toNat 7 = (0, g (71 + i).toNat 7) := by
  rcases (show i = 0 ∨ i = 1 ∨ i = 2 ∨ i = 3 ∨ i = 4 ∨ i = 5 ∨ i = 6 ∨ i = 7 ∨ i = 8 ∨ i = 9 ∨ i = 10 ∨ i = 11 ∨ i = 12 ∨ i = 13 ∨ i = 14 ∨ i = 15 from by omega) with e | e | e | e | e | e | e | e | e | e | e | e | e | e | e | e <;> subst e <;> rfl
theorem dvf_141_0 {g : cg} {i : Int} (h0 : 0 ≤ i) (h1 : i < 6) : dval xh2 g (141 + 2 * i).toNat 0 = (2, g (141 + 2 * i).toNat 0) := by
  rcases (show i = 0 ∨ i = 1 ∨ i = 2 ∨ i = 3 ∨ i = 4 ∨ i = 5 from by omega) with e | e | e | e | e | e <;> subst e <;> rfl
theorem dvf_141_1 {g : cg} {i : Int} (h0 : 0 ≤ i) (h1 : i < 6) : dval xh2 g (141 + 2 * i).toNat 1 = (0, g (141 + 2 * i).toNat 1) := by
  rcases (show i = 0 ∨ i = 1 ∨ i = 2 ∨ i = 3 ∨ i = 4 ∨ i = 5 from by omega) with e | e | e | e | e | e <;> subst e <;> rfl
theorem dvf_141_2 {g : cg} {i : Int} (h0 : 0 ≤ i) (h1 : i < 6) : dval xh2 g (141 + 2 * i).toNat 2 = (0, g (141 + 2 * i).toNat 2) := by
  rcases (show i = 0 ∨ i = 1 ∨ i = 2 ∨ i = 3 ∨ i = 4 ∨ i = 5 from by omega) with e | e | e | e | e | e <;> subst e <;> rfl
theorem dvf_141_3 {g : cg} {i : Int} (h0 : 0 ≤ i) (h1 : i < 6) : dval xh2 g (141 + 2 * i).toNat 3 = (0, g (141 + 2 * i).toNat 3) := by
  rcases (show i = 0 ∨ i = 1 ∨ i = 2 ∨ i = 3 ∨ i = 4 ∨ i = 5 from by omega) with e | e | e | e | e | e <;> subst e <;> rfl
theorem dvf_141_4 {g : cg} {i : Int} (h0 : 0 ≤ i) (h1 : i < 6) : dval xh2 g (141 + 2 * i).toNat 4 = (0, g (141 + 2 * i).toNat 4) := by
  rcases (show i = 0 ∨ i = 1 ∨ i = 2 ∨ i = 3 ∨ i = 4 ∨ i = 5 from by omega) with e | e | e | e | e | e <;> subst e <;> rfl
theorem dvf_141_5 {g : cg} {i : Int} (h0 : 0 ≤ i) (h1 : i < 6) : dval xh2 g (141 + 2 * i).toNat 5 = (0, g (141 + 2 * i).toNat 5) := by
  rcases (show i = 0 ∨ i = 1 ∨ i = 2 ∨ i = 3 ∨ i = 4 ∨ i = 5 from by omega) with e | e | e | e | e | e <;> subst e <;> rfl
theorem dvf_141_6 {g : cg} {i : Int} (h0 : 0 ≤ i) (h1 : i < 6) : dval xh2 g (141 + 2 * i).toNat 6 = (4, 142 + 2 * i) := by
  rcases (show i = 0 ∨ i = 1 ∨ i = 2 ∨ i = 3 ∨ i = 4 ∨ i = 5 from by omega) with e | e | e | e | e | e <;> subst e <;> rfl
theorem dvf_153_0 {g : cg} {i : Int} (h0 : 0 ≤ i) (h1 : i < 16) : dval xh2 g (153 + i).toNat 0 = (0, g (153 + i).toNat 0) := by
  rcases (show i = 0 ∨ i = 1 ∨ i = 2 ∨ i = 3 ∨ i = 4 ∨ i = 5 ∨ i = 6 ∨ i = 7 ∨ i = 8 ∨ i = 9 ∨ i = 10 ∨ i = 11 ∨ i = 12 ∨ i = 13 ∨ i = 14 ∨ i = 15 from by omega) with e | e | e | e | e | e | e | e | e | e | e | e | e | e | e | e <;> subst e <;> rfl
theorem dvf_153_1 {g : cg} {i : Int} (h0 : 0 ≤ i) (h1 : i < 16) : dval xh2 g (153 + i).toNat 1 = (0, g (153 + i).toNat 1) := by
  rcases (show i = 0 ∨ i = 1 ∨ i = 2 ∨ i = 3 ∨ i = 4 ∨ i = 5 ∨ i = 6 ∨ i = 7 ∨ i = 8 ∨ i = 9 ∨ i = 10 ∨ i = 11 ∨ i = 12 ∨ i = 13 ∨ i = 14 ∨ i = 15 from by omega) with e | e | e | e | e | e | e | e | e | e | e | e | e | e | e | e <;> subst e <;> rfl
theorem dvf_153_2 {g : cg} {i : Int} (h0 : 0 ≤ i) (h1 : i < 16) : dval xh2 g (153 + i).toNat 2 = (0, g (153 + i).toNat 2) := by
  rcases (show i = 0 ∨ i = 1 ∨ i = 2 ∨ i = 3 ∨ i = 4 ∨ i = 5 ∨ i = 6 ∨ i = 7 ∨ i = 8 ∨ i = 9 ∨ i = 10 ∨ i = 11 ∨ i = 12 ∨ i = 13 ∨ i = 14 ∨ i = 15 from by omega) with e | e | e | e | e | e | e | e | e | e | e | e | e | e | e | e <;> subst e <;> rfl
theorem dvf_153_3 {g : cg} {i : Int} (h0 : 0 ≤ i) (h1 : i < 16) : dval xh2 g (153 + i).toNat 3 = (0, g (153 + i).toNat 3) := by
  rcases (show i = 0 ∨ i = 1 ∨ i = 2 ∨ i = 3 ∨ i = 4 ∨ i = 5 ∨ i = 6 ∨ i = 7 ∨ i = 8 ∨ i = 9 ∨ i = 10 ∨ i = 11 ∨ i = 12 ∨ i = 13 ∨ i = 14 ∨ i = 15 from by omega) with e | e | e | e | e | e | e | e | e | e | e | e | e | e | e | e <;> subst e <;> rfl
theorem dvf_153_4 {g : cg} {i : Int} (h0 : 0 ≤ i) (h1 : i < 16) : dval xh2 g (153 + i).toNat 4 = (0, g (153 + i).toNat 4) := by
  rcases (show i = 0 ∨ i = 1 ∨ i = 2 ∨ i = 3 ∨ i = 4 ∨ i = 5 ∨ i = 6 ∨ i = 7 ∨ i = 8 ∨ i = 9 ∨ i = 10 ∨ i = 11 ∨ i = 12 ∨ i = 13 ∨ i = 14 ∨ i = 15 from by omega) with e | e | e | e | e | e | e | e | e | e | e | e | e | e | e | e <;> subst e <;> rfl
theorem dvf_153_5 {g : cg} {i : Int} (h0 : 0 ≤ i) (h1 : i < 16) : dval xh2 g (153 + i).toNat 5 = (0, g (153 + i).toNat 5) := by
  rcases (show i = 0 ∨ i = 1 ∨ i = 2 ∨ i = 3 ∨ i = 4 ∨ i = 5 ∨ i = 6 ∨ i = 7 ∨ i = 8 ∨ i = 9 ∨ i = 10 ∨ i = 11 ∨ i = 12 ∨ i = 13 ∨ i = 14 ∨ i = 15 from by omega) with e | e | e | e | e | e | e | e | e | e | e | e | e | e | e | e <;> subst e <;> rfl
theorem dvf_153_6 {g : cg} {i : Int} (h0 : 0 ≤ i) (h1 : i < 16) : dval xh2 g (153 + i).toNat 6 = (0, g (153 + i).toNat 6) := by
  rcases (show i = 0 ∨ i = 1 ∨ i = 2 ∨ i = 3 ∨ i = 4 ∨ i = 5 ∨ i = 6 ∨ i = 7 ∨ i = 8 ∨ i = 9 ∨ i = 10 ∨ i = 11 ∨ i = 12 ∨ i = 13 ∨ i = 14 ∨ i = 15 from by omega) with e | e | e | e | e | e | e | e | e | e | e | e | e | e | e | e <;> subst e <;> rfl
theorem dvf_153_7 {g : cg} {i : Int} (h0 : 0 ≤ i) (h1 : i < 16) : dval xh2 g (153 + i).toNat 7 = (0, g (153 + i).toNat 7) := by
  rcases (show i = 0 ∨ i = 1 ∨ i = 2 ∨ i = 3 ∨ i = 4 ∨ i = 5 ∨ i = 6 ∨ i = 7 ∨ i = 8 ∨ i = 9 ∨ i = 10 ∨ i = 11 ∨ i = 12 ∨ i = 13 ∨ i = 14 ∨ i = 15 from by omega) with e | e | e | e | e | e | e | e | e | e | e | e | e | e | e | e <;> subst e <;> rfl
theorem dvf_183_0 {g : cg} {i : Int} (h0 : 0 ≤ i) (h1 : i < 6) : dval xh2 g (183 + 2 * i).toNat 0 = (2, g (183 + 2 * i).toNat 0) := by
  rcases (show i = 0 ∨ i = 1 ∨ i = 2 ∨ i = 3 ∨ i = 4 ∨ i = 5 from by omega) with e | e | e | e | e | e <;> subst e <;> rfl
theorem dvf_183_1 {g : cg} {i : Int} (h0 : 0 ≤ i) (h1 : i < 6) : dval xh2 g (183 + 2 * i).toNat 1 = (0, g (183 + 2 * i).toNat 1) := by
  rcases (show i = 0 ∨ i = 1 ∨ i = 2 ∨ i = 3 ∨ i = 4 ∨ i = 5 from by omega) with e | e | e | e | e | e <;> subst e <;> rfl
theorem dvf_183_2 {g : cg} {i : Int} (h0 : 0 ≤ i) (h1 : i < 6) : dval xh2 g (183 + 2 * i).toNat 2 = (0, g (183 + 2 * i).toNat 2) := by
  rcases (show i = 0 ∨ i = 1 ∨ i = 2 ∨ i = 3 ∨ i = 4 ∨ i = 5 from by omega) with e | e | e | e | e | e <;> subst e <;> rfl
theorem dvf_183_3 {g : cg} {i : Int} (h0 : 0 ≤ i) (h1 : i < 6) : dval xh2 g (183 + 2 * i).toNat 3 = (0, g (183 + 2 * i).toNat 3) := by
  rcases (show i = 0 ∨ i = 1 ∨ i = 2 ∨ i = 3 ∨ i = 4 ∨ i = 5 from by omega) with e | e | e | e | e | e <;> subst e <;> rfl
theorem dvf_183_4 {g : cg} {i : Int} (h0 : 0 ≤ i) (h1 : i < 6) : dval xh2 g (183 + 2 * i).toNat 4 = (0, g (183 + 2 * i).toNat 4) := by
  rcases (show i = 0 ∨ i = 1 ∨ i = 2 ∨ i = 3 ∨ i = 4 ∨ i = 5 from by omega) with e | e | e | e | e | e <;> subst e <;> rfl
theorem dvf_183_5 {g : cg} {i : Int} (h0 : 0 ≤ i) (h1 : i < 6) : dval xh2 g (183 + 2 * i).toNat 5 = (0, g (183 + 2 * i).toNat 5) := by
  rcases (show i = 0 ∨ i = 1 ∨ i = 2 ∨ i = 3 ∨ i = 4 ∨ i = 5 from by omega) with e | e | e | e | e | e <;> subst e <;> rfl
theorem dvf_183_6 {g : cg} {i : Int} (h0 : 0 ≤ i) (h1 : i < 6) : dval xh2 g (183 + 2 * i).toNat 6 = (4, 184 + 2 * i) := by
  rcases (show i = 0 ∨ i = 1 ∨ i = 2 ∨ i = 3 ∨ i = 4 ∨ i = 5 from by omega) with e | e | e | e | e | e <;> subst e <;> rfl
theorem dvf_195_0 {g : cg} {i : Int} (h0 : 0 ≤ i) (h1 : i < 16) : dval xh2 g (195 + i).toNat 0 = (0, g (195 + i).toNat 0) := by
  rcases (show i = 0 ∨ i = 1 ∨ i = 2 ∨ i = 3 ∨ i = 4 ∨ i = 5 ∨ i = 6 ∨ i = 7 ∨ i = 8 ∨ i = 9 ∨ i = 10 ∨ i = 11 ∨ i = 12 ∨ i = 13 ∨ i = 14 ∨ i = 15 from by omega) with e | e | e | e | e | e | e | e | e | e | e | e | e | e | e | e <;> subst e <;> rfl
theorem dvf_195_1 {g : cg} {i : Int} (h0 : 0 ≤ i) (h1 : i < 16) : dval xh2 g (195 + i).toNat 1 = (0, g (195 + i).toNat 1) := by
  rcases (show i = 0 ∨ i = 1 ∨ i = 2 ∨ i = 3 ∨ i = 4 ∨ i = 5 ∨ i = 6 ∨ i = 7 ∨ i = 8 ∨ i = 9 ∨ i = 10 ∨ i = 11 ∨ i = 12 ∨ i = 13 ∨ i = 14 ∨ i = 15 from by omega) with e | e | e | e | e | e | e | e | e | e | e | e | e | e | e | e <;> subst e <;> rfl
theorem dvf_195_2 {g : cg} {i : Int} (h0 : 0 ≤ i) (h1 : i < 16) : dval xh2 g (195 + i).toNat 2 = (0, g (195 + i).toNat 2) := by
  rcases (show i = 0 ∨ i = 1 ∨ i = 2 ∨ i = 3 ∨ i = 4 ∨ i = 5 ∨ i = 6 ∨ i = 7 ∨ i = 8 ∨ i = 9 ∨ i = 10 ∨ i = 11 ∨ i = 12 ∨ i = 13 ∨ i = 14 ∨ i = 15 from by omega) with e | e | e | e | e | e | e | e | e | e | e | e | e | e | e | e <;> subst e <;> rfl
theorem dvf_195_3 {g : cg} {i : Int} (h0 : 0 ≤ i) (h1 : i < 16) : dval xh2 g (195 + i).toNat 3 = (0, g (195 + i).toNat 3) := by
  rcases (show i = 0 ∨ i = 1 ∨ i = 2 ∨ i = 3 ∨ i = 4 ∨ i = 5 ∨ i = 6 ∨ i = 7 ∨ i = 8 ∨ i = 9 ∨ i = 10 ∨ i = 11 ∨ i = 12 ∨ i = 13 ∨ i = 14 ∨ i = 15 from by omega) with e | e | e | e | e | e | e | e | e | e | e | e | e | e | e | e <;> subst e <;> rfl
theorem dvf_195_4 {g : cg} {i : Int} (h0 : 0 ≤ i) (h1 : i < 16) : dval xh2 g (195 + i).toNat 4 = (0, g (195 + i).toNat 4) := by
  rcases (show i = 0 ∨ i = 1 ∨ i = 2 ∨ i = 3 ∨ i = 4 ∨ i = 5 ∨ i = 6 ∨ i = 7 ∨ i = 8 ∨ i = 9 ∨ i = 10 ∨ i = 11 ∨ i = 12 ∨ i = 13 ∨ i = 14 ∨ i = 15 from by omega) with e | e | e | e | e | e | e | e | e | e | e | e | e | e | e | e <;> subst e <;> rfl
theorem dvf_195_5 {g : cg} {i : Int} (h0 : 0 ≤ i) (h1 : i < 16) : dval xh2 g (195 + i).toNat 5 = (0, g (195 + i).toNat 5) := by
  rcases (show i = 0 ∨ i = 1 ∨ i = 2 ∨ i = 3 ∨ i = 4 ∨ i = 5 ∨ i = 6 ∨ i = 7 ∨ i = 8 ∨ i = 9 ∨ i = 10 ∨ i = 11 ∨ i = 12 ∨ i = 13 ∨ i = 14 ∨ i = 15 from by omega) with e | e | e | e | e | e | e | e | e | e | e | e | e | e | e | e <;> subst e <;> rfl
theorem dvf_195_6 {g : cg} {i : Int} (h0 : 0 ≤ i) (h1 : i < 16) : dval xh2 g (195 + i).toNat 6 = (0, g (195 + i).toNat 6) := by
  rcases (show i = 0 ∨ i = 1 ∨ i = 2 ∨ i = 3 ∨ i = 4 ∨ i = 5 ∨ i = 6 ∨ i = 7 ∨ i = 8 ∨ i = 9 ∨ i = 10 ∨ i = 11 ∨ i = 12 ∨ i = 13 ∨ i = 14 ∨ i = 15 from by omega) with e | e | e | e | e | e | e | e | e | e | e | e | e | e | e | e <;> subst e <;> rfl
theorem dvf_195_7 {g : cg} {i : Int} (h0 : 0 ≤ i) (h1 : i < 16) : dval xh2 g (195 + i).toNat 7 = (0, g (195 + i).toNat 7) := by
  rcases (show i = 0 ∨ i = 1 ∨ i = 2 ∨ i = 3 ∨ i = 4 ∨ i = 5 ∨ i = 6 ∨ i = 7 ∨ i = 8 ∨ i = 9 ∨ i = 10 ∨ i = 11 ∨ i = 12 ∨ i = 13 ∨ i = 14 ∨ i = 15 from by omega) with e | e | e | e | e | e | e | e | e | e | e | e | e | e | e | e <;> subst e <;> rfl
theorem dvf_225_0 {g : cg} {i : Int} (h0 : 0 ≤ i) (h1 : i < 6) : dval xh2 g (225 + 2 * i).toNat 0 = (2, g (225 + 2 * i).toNat 0) := by
  rcases (show i = 0 ∨ i = 1 ∨ i = 2 ∨ i = 3 ∨ i = 4 ∨ i = 5 from by omega) with e | e | e | e | e | e <;> subst e <;> rfl
theorem dvf_225_1 {g : cg} {i : Int} (h0 : 0 ≤ i) (h1 : i < 6) : dval xh2 g (225 + 2 * i).toNat 1 = (0, g (225 + 2 * i).toNat 1) := by
  rcases (show i = 0 ∨ i = 1 ∨ i = 2 ∨ i = 3 ∨ i = 4 ∨ i = 5 from by omega) with e | e | e | e | e | e <;> subst e <;> rfl
theorem dvf_225_2 {g : cg} {i : Int} (h0 : 0 ≤ i) (h1 : i < 6) : dval xh2 g (225 + 2 * i).toNat 2 = (0, g (225 + 2 * i).toNat 2) := by
  rcases (show i = 0 ∨ i = 1 ∨ i = 2 ∨ i = 3 ∨ i = 4 ∨ i = 5 from by omega) with e | e | e | e | e | e <;> subst e <;> rfl
theorem dvf_225_3 {g : cg} {i : Int} (h0 : 0 ≤ i) (h1 : i < 6) : dval xh2 g (225 + 2 * i).toNat 3 = (0, g (225 + 2 * i).toNat 3) := by
  rcases (show i = 0 ∨ i = 1 ∨ i = 2 ∨ i = 3 ∨ i = 4 ∨ i = 5 from by omega) with e | e | e | e | e | e <;> subst e <;> rfl
theorem dvf_225_4 {g : cg} {i : Int} (h0 : 0 ≤ i) (h1 : i < 6) : dval xh2 g (225 + 2 * i).toNat 4 = (0, g (225 + 2 * i).toNat 4) := by
  rcases (show i = 0 ∨ i = 1 ∨ i = 2 ∨ i = 3 ∨ i = 4 ∨ i = 5 from by omega) with e | e | e | e | e | e <;> subst e <;> rfl
theorem dvf_225_5 {g : cg} {i : Int} (h0 : 0 ≤ i) (h1 : i < 6) : dval xh2 g (225 + 2 * i).toNat 5 = (0, g (225 + 2 * i).toNat 5) := by
  rcases (show i = 0 ∨ i = 1 ∨ i = 2 ∨ i = 3 ∨ i = 4 ∨ i = 5 from by omega) with e | e | e | e | e | e <;> subst e <;> rfl
theorem dvf_225_6 {g : cg} {i : Int} (h0 : 0 ≤ i) (h1 : i < 6) : dval xh2 g (225 + 2 * i).toNat 6 = (4, 226 + 2 * i) := by
  rcases (show i = 0 ∨ i = 1 ∨ i = 2 ∨ i = 3 ∨ i = 4 ∨ i = 5 from by omega) with e | e | e | e | e | e <;> subst e <;> rfl
theorem dvf_237_0 {g : cg} {i : Int} (h0 : 0 ≤ i) (h1 : i < 16) : dval xh2 g (237 + i).toNat 0 = (0, g (237 + i).toNat 0) := by
  rcases (show i = 0 ∨ i = 1 ∨ i = 2 ∨ i = 3 ∨ i = 4 ∨ i = 5 ∨ i = 6 ∨ i = 7 ∨ i = 8 ∨ i = 9 ∨ i = 10 ∨ i = 11 ∨ i = 12 ∨ i = 13 ∨ i = 14 ∨ i = 15 from by omega) with e | e | e | e | e | e | e | e | e | e | e | e | e | e | e | e <;> subst e <;> rfl
theorem dvf_237_1 {g : cg} {i : Int} (h0 : 0 ≤ i) (h1 : i < 16) : dval xh2 g (237 + i).toNat 1 = (0, g (237 + i).toNat 1) := by
  rcases (show i = 0 ∨ i = 1 ∨ i = 2 ∨ i = 3 ∨ i = 4 ∨ i = 5 ∨ i = 6 ∨ i = 7 ∨ i = 8 ∨ i = 9 ∨ i = 10 ∨ i = 11 ∨ i = 12 ∨ i = 13 ∨ i = 14 ∨ i = 15 from by omega) with e | e | e | e | e | e | e | e | e | e | e | e | e | e | e | e <;> subst e <;> rfl
theorem dvf_237_2 {g : cg} {i : Int} (h0 : 0 ≤ i) (h1 : i < 16) : dval xh2 g (237 + i).toNat 2 = (0, g (237 + i).toNat 2) := by
  rcases (show i = 0 ∨ i = 1 ∨ i = 2 ∨ i = 3 ∨ i = 4 ∨ i = 5 ∨ i = 6 ∨ i = 7 ∨ i = 8 ∨ i = 9 ∨ i = 10 ∨ i = 11 ∨ i = 12 ∨ i = 13 ∨ i = 14 ∨ i = 15 from by omega) with e | e | e | e | e | e | e | e | e | e | e | e | e | e | e | e <;> subst e <;> rfl
theorem dvf_237_3 {g : cg} {i : Int} (h0 : 0 ≤ i) (h1 : i < 16) : dval xh2 g (237 + i).toNat 3 = (0, g (237 + i).toNat 3) := by
  rcases (show i = 0 ∨ i = 1 ∨ i = 2 ∨ i = 3 ∨ i = 4 ∨ i = 5 ∨ i = 6 ∨ i = 7 ∨ i = 8 ∨ i = 9 ∨ i = 10 ∨ i = 11 ∨ i = 12 ∨ i = 13 ∨ i = 14 ∨ i = 15 from by omega) with e | e | e | e | e | e | e | e | e | e | e | e | e | e | e | e <;> subst e <;> rfl
theorem dvf_237_4 {g : cg} {i : Int} (h0 : 0 ≤ i) (h1 : i < 16) : dval xh2 g (237 + i).toNat 4 = (0, g (237 + i).toNat 4) := by
  rcases (show i = 0 ∨ i = 1 ∨ i = 2 ∨ i = 3 ∨ i = 4 ∨ i = 5 ∨ i = 6 ∨ i = 7 ∨ i = 8 ∨ i = 9 ∨ i = 10 ∨ i = 11 ∨ i = 12 ∨ i = 13 ∨ i = 14 ∨ i = 15 from by omega) with e | e | e | e | e | e | e | e | e | e | e | e | e | e | e | e <;> subst e <;> rfl
theorem dvf_237_5 {g : cg} {i : Int} (h0 : 0 ≤ i) (h1 : i < 16) : dval xh2 g (237 + i).toNat 5 = (0, g (237 + i).toNat 5) := by
  rcases (show i = 0 ∨ i = 1 ∨ i = 2 ∨ i = 3 ∨ i = 4 ∨ i = 5 ∨ i = 6 ∨ i = 7 ∨ i = 8 ∨ i = 9 ∨ i = 10 ∨ i = 11 ∨ i = 12 ∨ i = 13 ∨ i = 14 ∨ i = 15 from by omega) with e | e | e | e | e | e | e | e | e | e | e | e | e | e | e | e <;> subst e <;> rfl
theorem dvf_237_6 {g : cg} {i : Int} (h0 : 0 ≤ i) (h1 : i < 16) : dval xh2 g (237 + i).toNat 6 = (0, g (237 + i).toNat 6) := by
  rcases (show i = 0 ∨ i = 1 ∨ i = 2 ∨ i = 3 ∨ i = 4 ∨ i = 5 ∨ i = 6 ∨ i = 7 ∨ i = 8 ∨ i = 9 ∨ i = 10 ∨ i = 11 ∨ i = 12 ∨ i = 13 ∨ i = 14 ∨ i = 15 from by omega) with e | e | e | e | e | e | e | e | e | e | e | e | e | e | e | e <;> subst e <;> rfl
theorem dvf_237_7 {g : cg} {i : Int} (h0 : 0 ≤ i) (h1 : i < 16) : dval xh2 g (237 + i).toNat 7 = (0, g (237 + i).toNat 7) := by
  rcases (show i = 0 ∨ i = 1 ∨ i = 2 ∨ i = 3 ∨ i = 4 ∨ i = 5 ∨ i = 6 ∨ i = 7 ∨ i = 8 ∨ i = 9 ∨ i = 10 ∨ i = 11 ∨ i = 12 ∨ i = 13 ∨ i = 14 ∨ i = 15 from by omega) with e | e | e | e | e | e | e | e | e | e | e | e | e | e | e | e <;> subst e <;> rfl
theorem c_all_3_45 {sv : Nat → Int32} {L n : Nat} {lf : dlf} {g : cg} {o : cg × Option cv} (h : zr sv L n 59 0 lf [] g o) (h0 : lf 0 = (4, 3)) (h1 : lf 1 = (4, 45)) : ∃ g1, zr sv L n 60 0 (darg 0 [(4, 3), (4, 45)]) [] g (g1, none) ∧ (∃ g2, zr sv L n 63 0 (darg 0 [(4, 8), (4, 50)]) [] g1 (g2, none) ∧ (o = (g2, none))) := by
  rw [zov h0, zov h1] at h
  have h := zm zy_59 h 2 (q := (2, dset (dset lf 1 (4, 45)) 0 (4, 3), [(4, 45), (4, 3)], g)) rfl
  dsimp only at h
  obtain ⟨g1, hk, h⟩ := zcallV zy_59 h rfl rfl zy_60 zk_60
  dsimp only at hk h
  refine ⟨g1, hk, ?_⟩
  have h := zm zy_59 h 4 (q := (13, dset (dset lf 1 (4, 45)) 0 (4, 3), [(4, 50), (4, 8)], g1)) rfl
  dsimp only at h
  obtain ⟨g2, hk, h⟩ := zcallV zy_59 h rfl rfl zy_63 zk_63
  dsimp only at hk h
  refine ⟨g2, hk, ?_⟩
  exact zret zy_59 h rfl rfl
theorem c_case0_3_45 {sv : Nat → Int32} {L n : Nat} {lf : dlf} {g : cg} {o : cg × Option cv} (h : zr sv L n 60 0 lf [] g o) (h0 : lf 0 = (4, 3)) (h1 : lf 1 = (4, 45)) : ∃ lf'1, lf'1 0 = (4, 3) ∧ lf'1 1 = (4, 45) ∧ lf'1 2 = (0, 0) ∧ zr sv L n 60 86 lf'1 [] (ccp (ccp (cup (cup (cup (cup (cup (cup (cup g 3 0 (g 45 0)) 3 3 (g 45 3)) 3 5 (g 45 5)) 3 6 (g 45 6)) 3 7 (g 45 7)) 3 8 (g 45 8)) 3 9 (g 45 9)) 46 4 0 0 5) 47 5 0 0 5) o := by
  rw [zov h0, zov h1] at h
  have h := zm zy_60 h 46 (q := (86, dset (dset (dset lf 1 (4, 45)) 0 (4, 3)) 2 (0, 0), [], ccp (ccp (cup (cup (cup (cup (cup (cup (cup g 3 0 (g 45 0)) 3 3 (g 45 3)) 3 5 (g 45 5)) 3 6 (g 45 6)) 3 7 (g 45 7)) 3 8 (g 45 8)) 3 9 (g 45 9)) 46 4 0 0 5) 47 5 0 0 5)) rfl
  dsimp only at h
  exact ⟨_, rfl, rfl, rfl, h⟩
theorem c_case86_3_45 {sv : Nat → Int32} {L n : Nat} {lf : dlf} {g : cg} {o : cg × Option cv} {b : Int} (h : zr sv L (n + 1) 60 86 lf [] g o) (h0 : lf 0 = (4, 3)) (h1 : lf 1 = (4, 45)) (h2 : lf 2 = (0, b)) : (g 3 3 ≤ b ∧ (∃ lf'2, lf'2 0 = (4, 3) ∧ lf'2 1 = (4, 45) ∧ lf'2 2 = (0, 0) ∧ zr sv L n 60 123 lf'2 [] g o)) ∨ (b < g 3 3 ∧ ((6 ≤ b ∧ (∃ lf'4, lf'4 0 = (4, 3) ∧ lf'4 1 = (4, 45) ∧ lf'4 2 = (0, 0) ∧ zr sv L n 60 123 lf'4 [] g o)) ∨ (b < 6 ∧ (0 ≤ b → b < 6 → (∃ g7, zr sv L n 61 0 (darg 0 [(4, 17 + 2 * b), (4, 59 + 2 * b)]) [] g (g7, none) ∧ (∃ lf'8, lf'8 0 = (4, 3) ∧ lf'8 1 = (4, 45) ∧ lf'8 2 = (0, w32 (b + 1)) ∧ zr sv L n 60 86 lf'8 [] g7 o)))))) := by
  rw [zov h0, zov h1, zov h2] at h
  have h := zm1 zy_60 h 3 (q := (cond (crel .ge b (g 3 3)) 121 94, dset (dset (dset lf 2 (0, b)) 1 (4, 45)) 0 (4, 3), [], g)) rfl
  dsimp only at h
  rcases zif_ge h with ⟨hc1, h⟩ | ⟨hc1, h⟩
  · refine Or.inl ⟨hc1, ?_⟩
    have h := zm zy_60 h 2 (q := (123, dset (dset (dset (dset lf 2 (0, b)) 1 (4, 45)) 0 (4, 3)) 2 (0, 0), [], g)) rfl
    dsimp only at h
    exact ⟨_, rfl, rfl, rfl, h⟩
  · refine Or.inr ⟨hc1, ?_⟩
    have h := zm zy_60 h 3 (q := (cond (crel .ge b 6) 121 100, dset (dset (dset lf 2 (0, b)) 1 (4, 45)) 0 (4, 3), [], g)) rfl
    dsimp only at h
    rcases zif_ge h with ⟨hc3, h⟩ | ⟨hc3, h⟩
    · refine Or.inl ⟨hc3, ?_⟩
      have h := zm zy_60 h 2 (q := (123, dset (dset (dset (dset lf 2 (0, b)) 1 (4, 45)) 0 (4, 3)) 2 (0, 0), [], g)) rfl
      dsimp only at h
      exact ⟨_, rfl, rfl, rfl, h⟩
    · refine Or.inr ⟨hc3, ?_⟩
      intro ha5 hb6
      have h := zm zy_60 h 3 (q := (105, dset (dset (dset lf 2 (0, b)) 1 (4, 45)) 0 (4, 3), [(0, b), (4, 6)], g)) rfl
      dsimp only at h
      have h := zald zy_60 h rfl rfl (dvp_6 ha5 hb6)
      have h := zm zy_60 h 3 (q := (111, dset (dset (dset lf 2 (0, b)) 1 (4, 45)) 0 (4, 3), [(0, b), (4, 48), (4, 17 + 2 * b)], g)) rfl
      dsimp only at h
      have h := zald zy_60 h rfl rfl (dvp_48 ha5 hb6)
      obtain ⟨g7, hk, h⟩ := zcallV zy_60 h rfl rfl zy_61 zk_61
      dsimp only at hk h
      refine ⟨g7, hk, ?_⟩
      have h := zm zy_60 h 2 (q := (86, dset (dset (dset (dset lf 2 (0, b)) 1 (4, 45)) 0 (4, 3)) 2 (0, w32 (b + 1)), [], g7)) rfl
      dsimp only at h
      exact ⟨_, rfl, rfl, rfl, h⟩
theorem c_case123_3_45 {sv : Nat → Int32} {L n : Nat} {lf : dlf} {g : cg} {o : cg × Option cv} {b : Int} (h : zr sv L (n + 1) 60 123 lf [] g o) (h0 : lf 0 = (4, 3)) (h1 : lf 1 = (4, 45)) (h2 : lf 2 = (0, b)) : (g 3 9 ≤ b ∧ (o = (g, none))) ∨ (b < g 3 9 ∧ ((16 ≤ b ∧ (o = (g, none))) ∨ (b < 16 ∧ (0 ≤ b → b < 16 → (∃ g5, zr sv L n 62 0 (darg 0 [(4, 29 + b), (4, 71 + b)]) [] g (g5, none) ∧ (∃ lf'6, lf'6 0 = (4, 3) ∧ lf'6 1 = (4, 45) ∧ lf'6 2 = (0, w32 (b + 1)) ∧ zr sv L n 60 123 lf'6 [] g5 o)))))) := by
  rw [zov h0, zov h1, zov h2] at h
  have h := zm1 zy_60 h 3 (q := (cond (crel .ge b (g 3 9)) 158 131, dset (dset (dset lf 2 (0, b)) 1 (4, 45)) 0 (4, 3), [], g)) rfl
  dsimp only at h
  rcases zif_ge h with ⟨hc1, h⟩ | ⟨hc1, h⟩
  · refine Or.inl ⟨hc1, ?_⟩
    exact zret zy_60 h rfl rfl
  · refine Or.inr ⟨hc1, ?_⟩
    have h := zm zy_60 h 3 (q := (cond (crel .ge b 16) 158 137, dset (dset (dset lf 2 (0, b)) 1 (4, 45)) 0 (4, 3), [], g)) rfl
    dsimp only at h
    rcases zif_ge h with ⟨hc2, h⟩ | ⟨hc2, h⟩
    · refine Or.inl ⟨hc2, ?_⟩
      exact zret zy_60 h rfl rfl
    · refine Or.inr ⟨hc2, ?_⟩
      intro ha3 hb4
      have h := zm zy_60 h 3 (q := (142, dset (dset (dset lf 2 (0, b)) 1 (4, 45)) 0 (4, 3), [(0, b), (4, 7)], g)) rfl
      dsimp only at h
      have h := zald zy_60 h rfl rfl (dvp_7 ha3 hb4)
      have h := zm zy_60 h 3 (q := (148, dset (dset (dset lf 2 (0, b)) 1 (4, 45)) 0 (4, 3), [(0, b), (4, 49), (4, 29 + b)], g)) rfl
      dsimp only at h
      have h := zald zy_60 h rfl rfl (dvp_49 ha3 hb4)
      obtain ⟨g5, hk, h⟩ := zcallV zy_60 h rfl rfl zy_62 zk_62
      dsimp only at hk h
      refine ⟨g5, hk, ?_⟩
      have h := zm zy_60 h 2 (q := (123, dset (dset (dset (dset lf 2 (0, b)) 1 (4, 45)) 0 (4, 3)) 2 (0, w32 (b + 1)), [], g5)) rfl
      dsimp only at h
      exact ⟨_, rfl, rfl, rfl, h⟩
theorem c_per_3_45 {sv : Nat → Int32} {L n : Nat} {lf : dlf} {g : cg} {o : cg × Option cv} {i : Int} (hi0 : 0 ≤ i) (hi6 : i < 6) (h : zr sv L n 61 0 lf [] g o) (h0 : lf 0 = (4, 17 + 2 * i)) (h1 : lf 1 = (4, 59 + 2 * i)) : o = (ccp (cup (cup (cup (cup (cup (cup g ((17 + 2 * i).toNat) 0 (g ((59 + 2 * i).toNat) 0)) ((17 + 2 * i).toNat) 1 (g ((59 + 2 * i).toNat) 1)) ((17 + 2 * i).toNat) 2 (g ((59 + 2 * i).toNat) 2)) ((17 + 2 * i).toNat) 3 (g ((59 + 2 * i).toNat) 3)) ((17 + 2 * i).toNat) 4 (g ((59 + 2 * i).toNat) 4)) ((17 + 2 * i).toNat) 5 (g ((59 + 2 * i).toNat) 5)) ((60 + 2 * i).toNat) ((18 + 2 * i).toNat) 0 0 8, none) := by
  rw [zov h0, zov h1] at h
  have h := zm zy_61 h 2 (q := (2, dset (dset lf 1 (4, 59 + 2 * i)) 0 (4, 17 + 2 * i), [(4, 59 + 2 * i), (4, 17 + 2 * i)], g)) rfl
  dsimp only at h
  have h := zgf zy_61 h rfl rfl (dvf_59_0 hi0 hi6)
  have h : zr sv L n 61 5 (dset (dset lf 1 (4, 59 + 2 * i)) 0 (4, 17 + 2 * i)) [(2, g ((59 + 2 * i).toNat) 0), (4, 17 + 2 * i)] (g) o := by first | exact h | (rw [cup_at] at h; exact h) | ((repeat rw [cup_ne (by omega)] at h); exact h)
  have h := zm zy_61 h 3 (q := (10, dset (dset lf 1 (4, 59 + 2 * i)) 0 (4, 17 + 2 * i), [(4, 59 + 2 * i), (4, 17 + 2 * i)], cup g ((17 + 2 * i).toNat) 0 (g ((59 + 2 * i).toNat) 0))) rfl
  dsimp only at h
  have h := zgf zy_61 h rfl rfl (dvf_59_1 hi0 hi6)
  have h : zr sv L n 61 13 (dset (dset lf 1 (4, 59 + 2 * i)) 0 (4, 17 + 2 * i)) [(0, g ((59 + 2 * i).toNat) 1), (4, 17 + 2 * i)] (cup g ((17 + 2 * i).toNat) 0 (g ((59 + 2 * i).toNat) 0)) o := by first | exact h | (rw [cup_at] at h; exact h) | ((repeat rw [cup_ne (by omega)] at h); exact h)
  have h := zm zy_61 h 3 (q := (18, dset (dset lf 1 (4, 59 + 2 * i)) 0 (4, 17 + 2 * i), [(4, 59 + 2 * i), (4, 17 + 2 * i)], cup (cup g ((17 + 2 * i).toNat) 0 (g ((59 + 2 * i).toNat) 0)) ((17 + 2 * i).toNat) 1 (g ((59 + 2 * i).toNat) 1))) rfl
  dsimp only at h
  have h := zgf zy_61 h rfl rfl (dvf_59_2 hi0 hi6)
  have h : zr sv L n 61 21 (dset (dset lf 1 (4, 59 + 2 * i)) 0 (4, 17 + 2 * i)) [(0, g ((59 + 2 * i).toNat) 2), (4, 17 + 2 * i)] (cup (cup g ((17 + 2 * i).toNat) 0 (g ((59 + 2 * i).toNat) 0)) ((17 + 2 * i).toNat) 1 (g ((59 + 2 * i).toNat) 1)) o := by first | exact h | (rw [cup_at] at h; exact h) | ((repeat rw [cup_ne (by omega)] at h); exact h)
  have h := zm zy_61 h 3 (q := (26, dset (dset lf 1 (4, 59 + 2 * i)) 0 (4, 17 + 2 * i), [(4, 59 + 2 * i), (4, 17 + 2 * i)], cup (cup (cup g ((17 + 2 * i).toNat) 0 (g ((59 + 2 * i).toNat) 0)) ((17 + 2 * i).toNat) 1 (g ((59 + 2 * i).toNat) 1)) ((17 + 2 * i).toNat) 2 (g ((59 + 2 * i).toNat) 2))) rfl
  dsimp only at h
  have h := zgf zy_61 h rfl rfl (dvf_59_3 hi0 hi6)
  have h : zr sv L n 61 29 (dset (dset lf 1 (4, 59 + 2 * i)) 0 (4, 17 + 2 * i)) [(0, g ((59 + 2 * i).toNat) 3), (4, 17 + 2 * i)] (cup (cup (cup g ((17 + 2 * i).toNat) 0 (g ((59 + 2 * i).toNat) 0)) ((17 + 2 * i).toNat) 1 (g ((59 + 2 * i).toNat) 1)) ((17 + 2 * i).toNat) 2 (g ((59 + 2 * i).toNat) 2)) o := by first | exact h | (rw [cup_at] at h; exact h) | ((repeat rw [cup_ne (by omega)] at h); exact h)
  have h := zm zy_61 h 3 (q := (34, dset (dset lf 1 (4, 59 + 2 * i)) 0 (4, 17 + 2 * i), [(4, 59 + 2 * i), (4, 17 + 2 * i)], cup (cup (cup (cup g ((17 + 2 * i).toNat) 0 (g ((59 + 2 * i).toNat) 0)) ((17 + 2 * i).toNat) 1 (g ((59 + 2 * i).toNat) 1)) ((17 + 2 * i).toNat) 2 (g ((59 + 2 * i).toNat) 2)) ((17 + 2 * i).toNat) 3 (g ((59 + 2 * i).toNat) 3))) rfl
  dsimp only at h
  have h := zgf zy_61 h rfl rfl (dvf_59_4 hi0 hi6)
  have h : zr sv L n 61 37 (dset (dset lf 1 (4, 59 + 2 * i)) 0 (4, 17 + 2 * i)) [(0, g ((59 + 2 * i).toNat) 4), (4, 17 + 2 * i)] (cup (cup (cup (cup g ((17 + 2 * i).toNat) 0 (g ((59 + 2 * i).toNat) 0)) ((17 + 2 * i).toNat) 1 (g ((59 + 2 * i).toNat) 1)) ((17 + 2 * i).toNat) 2 (g ((59 + 2 * i).toNat) 2)) ((17 + 2 * i).toNat) 3 (g ((59 + 2 * i).toNat) 3)) o := by first | exact h | (rw [cup_at] at h; exact h) | ((repeat rw [cup_ne (by omega)] at h); exact h)
  have h := zm zy_61 h 3 (q := (42, dset (dset lf 1 (4, 59 + 2 * i)) 0 (4, 17 + 2 * i), [(4, 59 + 2 * i), (4, 17 + 2 * i)], cup (cup (cup (cup (cup g ((17 + 2 * i).toNat) 0 (g ((59 + 2 * i).toNat) 0)) ((17 + 2 * i).toNat) 1 (g ((59 + 2 * i).toNat) 1)) ((17 + 2 * i).toNat) 2 (g ((59 + 2 * i).toNat) 2)) ((17 + 2 * i).toNat) 3 (g ((59 + 2 * i).toNat) 3)) ((17 + 2 * i).toNat) 4 (g ((59 + 2 * i).toNat) 4))) rfl
  dsimp only at h
  have h := zgf zy_61 h rfl rfl (dvf_59_5 hi0 hi6)
  have h : zr sv L n 61 45 (dset (dset lf 1 (4, 59 + 2 * i)) 0 (4, 17 + 2 * i)) [(0, g ((59 + 2 * i).toNat) 5), (4, 17 + 2 * i)] (cup (cup (cup (cup (cup g ((17 + 2 * i).toNat) 0 (g ((59 + 2 * i).toNat) 0)) ((17 + 2 * i).toNat) 1 (g ((59 + 2 * i).toNat) 1)) ((17 + 2 * i).toNat) 2 (g ((59 + 2 * i).toNat) 2)) ((17 + 2 * i).toNat) 3 (g ((59 + 2 * i).toNat) 3)) ((17 + 2 * i).toNat) 4 (g ((59 + 2 * i).toNat) 4)) o := by first | exact h | (rw [cup_at] at h; exact h) | ((repeat rw [cup_ne (by omega)] at h); exact h)
  have h := zm zy_61 h 2 (q := (49, dset (dset lf 1 (4, 59 + 2 * i)) 0 (4, 17 + 2 * i), [(4, 59 + 2 * i)], cup (cup (cup (cup (cup (cup g ((17 + 2 * i).toNat) 0 (g ((59 + 2 * i).toNat) 0)) ((17 + 2 * i).toNat) 1 (g ((59 + 2 * i).toNat) 1)) ((17 + 2 * i).toNat) 2 (g ((59 + 2 * i).toNat) 2)) ((17 + 2 * i).toNat) 3 (g ((59 + 2 * i).toNat) 3)) ((17 + 2 * i).toNat) 4 (g ((59 + 2 * i).toNat) 4)) ((17 + 2 * i).toNat) 5 (g ((59 + 2 * i).toNat) 5))) rfl
  dsimp only at h
  have h := zgf zy_61 h rfl rfl (dvf_59_6 hi0 hi6)
  have h := zm zy_61 h 2 (q := (54, dset (dset lf 1 (4, 59 + 2 * i)) 0 (4, 17 + 2 * i), [(4, 17 + 2 * i), (0, 0), (4, 60 + 2 * i)], cup (cup (cup (cup (cup (cup g ((17 + 2 * i).toNat) 0 (g ((59 + 2 * i).toNat) 0)) ((17 + 2 * i).toNat) 1 (g ((59 + 2 * i).toNat) 1)) ((17 + 2 * i).toNat) 2 (g ((59 + 2 * i).toNat) 2)) ((17 + 2 * i).toNat) 3 (g ((59 + 2 * i).toNat) 3)) ((17 + 2 * i).toNat) 4 (g ((59 + 2 * i).toNat) 4)) ((17 + 2 * i).toNat) 5 (g ((59 + 2 * i).toNat) 5))) rfl
  dsimp only at h
  have h := zgf zy_61 h rfl rfl (dvf_17_6 hi0 hi6)
  have h := zm zy_61 h 3 (q := (63, dset (dset lf 1 (4, 59 + 2 * i)) 0 (4, 17 + 2 * i), [], ccp (cup (cup (cup (cup (cup (cup g ((17 + 2 * i).toNat) 0 (g ((59 + 2 * i).toNat) 0)) ((17 + 2 * i).toNat) 1 (g ((59 + 2 * i).toNat) 1)) ((17 + 2 * i).toNat) 2 (g ((59 + 2 * i).toNat) 2)) ((17 + 2 * i).toNat) 3 (g ((59 + 2 * i).toNat) 3)) ((17 + 2 * i).toNat) 4 (g ((59 + 2 * i).toNat) 4)) ((17 + 2 * i).toNat) 5 (g ((59 + 2 * i).toNat) 5)) ((60 + 2 * i).toNat) ((18 + 2 * i).toNat) 0 0 8)) rfl
  dsimp only at h
  exact zret zy_61 h rfl rfl
theorem c_oath_3_45 {sv : Nat → Int32} {L n : Nat} {lf : dlf} {g : cg} {o : cg × Option cv} {i : Int} (hi0 : 0 ≤ i) (hi16 : i < 16) (h : zr sv L n 62 0 lf [] g o) (h0 : lf 0 = (4, 29 + i)) (h1 : lf 1 = (4, 71 + i)) : o = (cup (cup (cup (cup (cup (cup (cup (cup g ((29 + i).toNat) 0 (g ((71 + i).toNat) 0)) ((29 + i).toNat) 1 (g ((71 + i).toNat) 1)) ((29 + i).toNat) 2 (g ((71 + i).toNat) 2)) ((29 + i).toNat) 3 (g ((71 + i).toNat) 3)) ((29 + i).toNat) 4 (g ((71 + i).toNat) 4)) ((29 + i).toNat) 5 (g ((71 + i).toNat) 5)) ((29 + i).toNat) 6 (g ((71 + i).toNat) 6)) ((29 + i).toNat) 7 (g ((71 + i).toNat) 7), none) := by
  rw [zov h0, zov h1] at h
  have h := zm zy_62 h 2 (q := (2, dset (dset lf 1 (4, 71 + i)) 0 (4, 29 + i), [(4, 71 + i), (4, 29 + i)], g)) rfl
  dsimp only at h
  have h := zgf zy_62 h rfl rfl (dvf_71_0 hi0 hi16)
  have h : zr sv L n 62 5 (dset (dset lf 1 (4, 71 + i)) 0 (4, 29 + i)) [(0, g ((71 + i).toNat) 0), (4, 29 + i)] (g) o := by first | exact h | (rw [cup_at] at h; exact h) | ((repeat rw [cup_ne (by omega)] at h); exact h)
  have h := zm zy_62 h 3 (q := (10, dset (dset lf 1 (4, 71 + i)) 0 (4, 29 + i), [(4, 71 + i), (4, 29 + i)], cup g ((29 + i).toNat) 0 (g ((71 + i).toNat) 0))) rfl
  dsimp only at h
  have h := zgf zy_62 h rfl rfl (dvf_71_1 hi0 hi16)
  have h : zr sv L n 62 13 (dset (dset lf 1 (4, 71 + i)) 0 (4, 29 + i)) [(0, g ((71 + i).toNat) 1), (4, 29 + i)] (cup g ((29 + i).toNat) 0 (g ((71 + i).toNat) 0)) o := by first | exact h | (rw [cup_at] at h; exact h) | ((repeat rw [cup_ne (by omega)] at h); exact h)
  have h := zm zy_62 h 3 (q := (18, dset (dset lf 1 (4, 71 + i)) 0 (4, 29 + i), [(4, 71 + i), (4, 29 + i)], cup (cup g ((29 + i).toNat) 0 (g ((71 + i).toNat) 0)) ((29 + i).toNat) 1 (g ((71 + i).toNat) 1))) rfl
  dsimp only at h
  have h := zgf zy_62 h rfl rfl (dvf_71_2 hi0 hi16)
  have h : zr sv L n 62 21 (dset (dset lf 1 (4, 71 + i)) 0 (4, 29 + i)) [(0, g ((71 + i).toNat) 2), (4, 29 + i)] (cup (cup g ((29 + i).toNat) 0 (g ((71 + i).toNat) 0)) ((29 + i).toNat) 1 (g ((71 + i).toNat) 1)) o := by first | exact h | (rw [cup_at] at h; exact h) | ((repeat rw [cup_ne (by omega)] at h); exact h)
  have h := zm zy_62 h 3 (q := (26, dset (dset lf 1 (4, 71 + i)) 0 (4, 29 + i), [(4, 71 + i), (4, 29 + i)], cup (cup (cup g ((29 + i).toNat) 0 (g ((71 + i).toNat) 0)) ((29 + i).toNat) 1 (g ((71 + i).toNat) 1)) ((29 + i).toNat) 2 (g ((71 + i).toNat) 2))) rfl
  dsimp only at h
  have h := zgf zy_62 h rfl rfl (dvf_71_3 hi0 hi16)
  have h : zr sv L n 62 29 (dset (dset lf 1 (4, 71 + i)) 0 (4, 29 + i)) [(0, g ((71 + i).toNat) 3), (4, 29 + i)] (cup (cup (cup g ((29 + i).toNat) 0 (g ((71 + i).toNat) 0)) ((29 + i).toNat) 1 (g ((71 + i).toNat) 1)) ((29 + i).toNat) 2 (g ((71 + i).toNat) 2)) o := by first | exact h | (rw [cup_at] at h; exact h) | ((repeat rw [cup_ne (by omega)] at h); exact h)
  have h := zm zy_62 h 3 (q := (34, dset (dset lf 1 (4, 71 + i)) 0 (4, 29 + i), [(4, 71 + i), (4, 29 + i)], cup (cup (cup (cup g ((29 + i).toNat) 0 (g ((71 + i).toNat) 0)) ((29 + i).toNat) 1 (g ((71 + i).toNat) 1)) ((29 + i).toNat) 2 (g ((71 + i).toNat) 2)) ((29 + i).toNat) 3 (g ((71 + i).toNat) 3))) rfl
  dsimp only at h
  have h := zgf zy_62 h rfl rfl (dvf_71_4 hi0 hi16)
  have h : zr sv L n 62 37 (dset (dset lf 1 (4, 71 + i)) 0 (4, 29 + i)) [(0, g ((71 + i).toNat) 4), (4, 29 + i)] (cup (cup (cup (cup g ((29 + i).toNat) 0 (g ((71 + i).toNat) 0)) ((29 + i).toNat) 1 (g ((71 + i).toNat) 1)) ((29 + i).toNat) 2 (g ((71 + i).toNat) 2)) ((29 + i).toNat) 3 (g ((71 + i).toNat) 3)) o := by first | exact h | (rw [cup_at] at h; exact h) | ((repeat rw [cup_ne (by omega)] at h); exact h)
  have h := zm zy_62 h 3 (q := (42, dset (dset lf 1 (4, 71 + i)) 0 (4, 29 + i), [(4, 71 + i), (4, 29 + i)], cup (cup (cup (cup (cup g ((29 + i).toNat) 0 (g ((71 + i).toNat) 0)) ((29 + i).toNat) 1 (g ((71 + i).toNat) 1)) ((29 + i).toNat) 2 (g ((71 + i).toNat) 2)) ((29 + i).toNat) 3 (g ((71 + i).toNat) 3)) ((29 + i).toNat) 4 (g ((71 + i).toNat) 4))) rfl
  dsimp only at h
  have h := zgf zy_62 h rfl rfl (dvf_71_5 hi0 hi16)
  have h : zr sv L n 62 45 (dset (dset lf 1 (4, 71 + i)) 0 (4, 29 + i)) [(0, g ((71 + i).toNat) 5), (4, 29 + i)] (cup (cup (cup (cup (cup g ((29 + i).toNat) 0 (g ((71 + i).toNat) 0)) ((29 + i).toNat) 1 (g ((71 + i).toNat) 1)) ((29 + i).toNat) 2 (g ((71 + i).toNat) 2)) ((29 + i).toNat) 3 (g ((71 + i).toNat) 3)) ((29 + i).toNat) 4 (g ((71 + i).toNat) 4)) o := by first | exact h | (rw [cup_at] at h; exact h) | ((repeat rw [cup_ne (by omega)] at h); exact h)
  have h := zm zy_62 h 3 (q := (50, dset (dset lf 1 (4, 71 + i)) 0 (4, 29 + i), [(4, 71 + i), (4, 29 + i)], cup (cup (cup (cup (cup (cup g ((29 + i).toNat) 0 (g ((71 + i).toNat) 0)) ((29 + i).toNat) 1 (g ((71 + i).toNat) 1)) ((29 + i).toNat) 2 (g ((71 + i).toNat) 2)) ((29 + i).toNat) 3 (g ((71 + i).toNat) 3)) ((29 + i).toNat) 4 (g ((71 + i).toNat) 4)) ((29 + i).toNat) 5 (g ((71 + i).toNat) 5))) rfl
  dsimp only at h
  have h := zgf zy_62 h rfl rfl (dvf_71_6 hi0 hi16)
  have h : zr sv L n 62 53 (dset (dset lf 1 (4, 71 + i)) 0 (4, 29 + i)) [(0, g ((71 + i).toNat) 6), (4, 29 + i)] (cup (cup (cup (cup (cup (cup g ((29 + i).toNat) 0 (g ((71 + i).toNat) 0)) ((29 + i).toNat) 1 (g ((71 + i).toNat) 1)) ((29 + i).toNat) 2 (g ((71 + i).toNat) 2)) ((29 + i).toNat) 3 (g ((71 + i).toNat) 3)) ((29 + i).toNat) 4 (g ((71 + i).toNat) 4)) ((29 + i).toNat) 5 (g ((71 + i).toNat) 5)) o := by first | exact h | (rw [cup_at] at h; exact h) | ((repeat rw [cup_ne (by omega)] at h); exact h)
  have h := zm zy_62 h 3 (q := (58, dset (dset lf 1 (4, 71 + i)) 0 (4, 29 + i), [(4, 71 + i), (4, 29 + i)], cup (cup (cup (cup (cup (cup (cup g ((29 + i).toNat) 0 (g ((71 + i).toNat) 0)) ((29 + i).toNat) 1 (g ((71 + i).toNat) 1)) ((29 + i).toNat) 2 (g ((71 + i).toNat) 2)) ((29 + i).toNat) 3 (g ((71 + i).toNat) 3)) ((29 + i).toNat) 4 (g ((71 + i).toNat) 4)) ((29 + i).toNat) 5 (g ((71 + i).toNat) 5)) ((29 + i).toNat) 6 (g ((71 + i).toNat) 6))) rfl
  dsimp only at h
  have h := zgf zy_62 h rfl rfl (dvf_71_7 hi0 hi16)
  have h : zr sv L n 62 61 (dset (dset lf 1 (4, 71 + i)) 0 (4, 29 + i)) [(0, g ((71 + i).toNat) 7), (4, 29 + i)] (cup (cup (cup (cup (cup (cup (cup g ((29 + i).toNat) 0 (g ((71 + i).toNat) 0)) ((29 + i).toNat) 1 (g ((71 + i).toNat) 1)) ((29 + i).toNat) 2 (g ((71 + i).toNat) 2)) ((29 + i).toNat) 3 (g ((71 + i).toNat) 3)) ((29 + i).toNat) 4 (g ((71 + i).toNat) 4)) ((29 + i).toNat) 5 (g ((71 + i).toNat) 5)) ((29 + i).toNat) 6 (g ((71 + i).toNat) 6)) o := by first | exact h | (rw [cup_at] at h; exact h) | ((repeat rw [cup_ne (by omega)] at h); exact h)
  have h := zm zy_62 h 1 (q := (64, dset (dset lf 1 (4, 71 + i)) 0 (4, 29 + i), [], cup (cup (cup (cup (cup (cup (cup (cup g ((29 + i).toNat) 0 (g ((71 + i).toNat) 0)) ((29 + i).toNat) 1 (g ((71 + i).toNat) 1)) ((29 + i).toNat) 2 (g ((71 + i).toNat) 2)) ((29 + i).toNat) 3 (g ((71 + i).toNat) 3)) ((29 + i).toNat) 4 (g ((71 + i).toNat) 4)) ((29 + i).toNat) 5 (g ((71 + i).toNat) 5)) ((29 + i).toNat) 6 (g ((71 + i).toNat) 6)) ((29 + i).toNat) 7 (g ((71 + i).toNat) 7))) rfl
  dsimp only at h
  exact zret zy_62 h rfl rfl
theorem c_tri_3_45 {sv : Nat → Int32} {L n : Nat} {lf : dlf} {g : cg} {o : cg × Option cv} (h : zr sv L n 63 0 lf [] g o) (h0 : lf 0 = (4, 8)) (h1 : lf 1 = (4, 50)) : o = (ccp (ccp (ccp (ccp (ccp (ccp (ccp (ccp (cup (cup (cup g 8 0 (g 50 0)) 8 1 (g 50 1)) 8 2 (g 50 2)) 51 9 0 0 ((g 50 2).toNat)) 52 10 0 0 ((g 50 2).toNat)) 53 11 0 0 ((g 50 2).toNat)) 54 12 0 0 ((g 50 2).toNat)) 55 13 0 0 ((g 50 2).toNat)) 56 14 0 0 ((g 50 2).toNat)) 57 15 0 0 ((g 50 2).toNat)) 58 16 0 0 ((g 50 2).toNat), none) := by
  rw [zov h0, zov h1] at h
  have h := zm zy_63 h 84 (q := (160, dset (dset lf 1 (4, 50)) 0 (4, 8), [], ccp (ccp (ccp (ccp (ccp (ccp (ccp (ccp (cup (cup (cup g 8 0 (g 50 0)) 8 1 (g 50 1)) 8 2 (g 50 2)) 51 9 0 0 ((g 50 2).toNat)) 52 10 0 0 ((g 50 2).toNat)) 53 11 0 0 ((g 50 2).toNat)) 54 12 0 0 ((g 50 2).toNat)) 55 13 0 0 ((g 50 2).toNat)) 56 14 0 0 ((g 50 2).toNat)) 57 15 0 0 ((g 50 2).toNat)) 58 16 0 0 ((g 50 2).toNat))) rfl
  dsimp only at h
  exact zret zy_63 h rfl rfl
theorem c_all_127_3 {sv : Nat → Int32} {L n : Nat} {lf : dlf} {g : cg} {o : cg × Option cv} (h : zr sv L n 59 0 lf [] g o) (h0 : lf 0 = (4, 127)) (h1 : lf 1 = (4, 3)) : ∃ g1, zr sv L n 60 0 (darg 0 [(4, 127), (4, 3)]) [] g (g1, none) ∧ (∃ g2, zr sv L n 63 0 (darg 0 [(4, 132), (4, 8)]) [] g1 (g2, none) ∧ (o = (g2, none))) := by
  rw [zov h0, zov h1] at h
  have h := zm zy_59 h 2 (q := (2, dset (dset lf 1 (4, 3)) 0 (4, 127), [(4, 3), (4, 127)], g)) rfl
  dsimp only at h
  obtain ⟨g1, hk, h⟩ := zcallV zy_59 h rfl rfl zy_60 zk_60
  dsimp only at hk h
  refine ⟨g1, hk, ?_⟩
  have h := zm zy_59 h 4 (q := (13, dset (dset lf 1 (4, 3)) 0 (4, 127), [(4, 8), (4, 132)], g1)) rfl
  dsimp only at h
  obtain ⟨g2, hk, h⟩ := zcallV zy_59 h rfl rfl zy_63 zk_63
  dsimp only at hk h
  refine ⟨g2, hk, ?_⟩
  exact zret zy_59 h rfl rfl
theorem c_case0_127_3 {sv : Nat → Int32} {L n : Nat} {lf : dlf} {g : cg} {o : cg × Option cv} (h : zr sv L n 60 0 lf [] g o) (h0 : lf 0 = (4, 127)) (h1 : lf 1 = (4, 3)) : ∃ lf'1, lf'1 0 = (4, 127) ∧ lf'1 1 = (4, 3) ∧ lf'1 2 = (0, 0) ∧ zr sv L n 60 86 lf'1 [] (ccp (ccp (cup (cup (cup (cup (cup (cup (cup g 127 0 (g 3 0)) 127 3 (g 3 3)) 127 5 (g 3 5)) 127 6 (g 3 6)) 127 7 (g 3 7)) 127 8 (g 3 8)) 127 9 (g 3 9)) 4 128 0 0 5) 5 129 0 0 5) o := by
  rw [zov h0, zov h1] at h
  have h := zm zy_60 h 46 (q := (86, dset (dset (dset lf 1 (4, 3)) 0 (4, 127)) 2 (0, 0), [], ccp (ccp (cup (cup (cup (cup (cup (cup (cup g 127 0 (g 3 0)) 127 3 (g 3 3)) 127 5 (g 3 5)) 127 6 (g 3 6)) 127 7 (g 3 7)) 127 8 (g 3 8)) 127 9 (g 3 9)) 4 128 0 0 5) 5 129 0 0 5)) rfl
  dsimp only at h
  exact ⟨_, rfl, rfl, rfl, h⟩
theorem c_case86_127_3 {sv : Nat → Int32} {L n : Nat} {lf : dlf} {g : cg} {o : cg × Option cv} {b : Int} (h : zr sv L (n + 1) 60 86 lf [] g o) (h0 : lf 0 = (4, 127)) (h1 : lf 1 = (4, 3)) (h2 : lf 2 = (0, b)) : (g 127 3 ≤ b ∧ (∃ lf'2, lf'2 0 = (4, 127) ∧ lf'2 1 = (4, 3) ∧ lf'2 2 = (0, 0) ∧ zr sv L n 60 123 lf'2 [] g o)) ∨ (b < g 127 3 ∧ ((6 ≤ b ∧ (∃ lf'4, lf'4 0 = (4, 127) ∧ lf'4 1 = (4, 3) ∧ lf'4 2 = (0, 0) ∧ zr sv L n 60 123 lf'4 [] g o)) ∨ (b < 6 ∧ (0 ≤ b → b < 6 → (∃ g7, zr sv L n 61 0 (darg 0 [(4, 141 + 2 * b), (4, 17 + 2 * b)]) [] g (g7, none) ∧ (∃ lf'8, lf'8 0 = (4, 127) ∧ lf'8 1 = (4, 3) ∧ lf'8 2 = (0, w32 (b + 1)) ∧ zr sv L n 60 86 lf'8 [] g7 o)))))) := by
  rw [zov h0, zov h1, zov h2] at h
  have h := zm1 zy_60 h 3 (q := (cond (crel .ge b (g 127 3)) 121 94, dset (dset (dset lf 2 (0, b)) 1 (4, 3)) 0 (4, 127), [], g)) rfl
  dsimp only at h
  rcases zif_ge h with ⟨hc1, h⟩ | ⟨hc1, h⟩
  · refine Or.inl ⟨hc1, ?_⟩
    have h := zm zy_60 h 2 (q := (123, dset (dset (dset (dset lf 2 (0, b)) 1 (4, 3)) 0 (4, 127)) 2 (0, 0), [], g)) rfl
    dsimp only at h
    exact ⟨_, rfl, rfl, rfl, h⟩
  · refine Or.inr ⟨hc1, ?_⟩
    have h := zm zy_60 h 3 (q := (cond (crel .ge b 6) 121 100, dset (dset (dset lf 2 (0, b)) 1 (4, 3)) 0 (4, 127), [], g)) rfl
    dsimp only at h
    rcases zif_ge h with ⟨hc3, h⟩ | ⟨hc3, h⟩
    · refine Or.inl ⟨hc3, ?_⟩
      have h := zm zy_60 h 2 (q := (123, dset (dset (dset (dset lf 2 (0, b)) 1 (4, 3)) 0 (4, 127)) 2 (0, 0), [], g)) rfl
      dsimp only at h
      exact ⟨_, rfl, rfl, rfl, h⟩
    · refine Or.inr ⟨hc3, ?_⟩
      intro ha5 hb6
      have h := zm zy_60 h 3 (q := (105, dset (dset (dset lf 2 (0, b)) 1 (4, 3)) 0 (4, 127), [(0, b), (4, 130)], g)) rfl
      dsimp only at h
      have h := zald zy_60 h rfl rfl (dvp_130 ha5 hb6)
      have h := zm zy_60 h 3 (q := (111, dset (dset (dset lf 2 (0, b)) 1 (4, 3)) 0 (4, 127), [(0, b), (4, 6), (4, 141 + 2 * b)], g)) rfl
      dsimp only at h
      have h := zald zy_60 h rfl rfl (dvp_6 ha5 hb6)
      obtain ⟨g7, hk, h⟩ := zcallV zy_60 h rfl rfl zy_61 zk_61
      dsimp only at hk h
      refine ⟨g7, hk, ?_⟩
      have h := zm zy_60 h 2 (q := (86, dset (dset (dset (dset lf 2 (0, b)) 1 (4, 3)) 0 (4, 127)) 2 (0, w32 (b + 1)), [], g7)) rfl
      dsimp only at h
      exact ⟨_, rfl, rfl, rfl, h⟩
theorem c_case123_127_3 {sv : Nat → Int32} {L n : Nat} {lf : dlf} {g : cg} {o : cg × Option cv} {b : Int} (h : zr sv L (n + 1) 60 123 lf [] g o) (h0 : lf 0 = (4, 127)) (h1 : lf 1 = (4, 3)) (h2 : lf 2 = (0, b)) : (g 127 9 ≤ b ∧ (o = (g, none))) ∨ (b < g 127 9 ∧ ((16 ≤ b ∧ (o = (g, none))) ∨ (b < 16 ∧ (0 ≤ b → b < 16 → (∃ g5, zr sv L n 62 0 (darg 0 [(4, 153 + b), (4, 29 + b)]) [] g (g5, none) ∧ (∃ lf'6, lf'6 0 = (4, 127) ∧ lf'6 1 = (4, 3) ∧ lf'6 2 = (0, w32 (b + 1)) ∧ zr sv L n 60 123 lf'6 [] g5 o)))))) := by
  rw [zov h0, zov h1, zov h2] at h
  have h := zm1 zy_60 h 3 (q := (cond (crel .ge b (g 127 9)) 158 131, dset (dset (dset lf 2 (0, b)) 1 (4, 3)) 0 (4, 127), [], g)) rfl
  dsimp only at h
  rcases zif_ge h with ⟨hc1, h⟩ | ⟨hc1, h⟩
  · refine Or.inl ⟨hc1, ?_⟩
    exact zret zy_60 h rfl rfl
  · refine Or.inr ⟨hc1, ?_⟩
    have h := zm zy_60 h 3 (q := (cond (crel .ge b 16) 158 137, dset (dset (dset lf 2 (0, b)) 1 (4, 3)) 0 (4, 127), [], g)) rfl
    dsimp only at h
    rcases zif_ge h with ⟨hc2, h⟩ | ⟨hc2, h⟩
    · refine Or.inl ⟨hc2, ?_⟩
      exact zret zy_60 h rfl rfl
    · refine Or.inr ⟨hc2, ?_⟩
      intro ha3 hb4
      have h := zm zy_60 h 3 (q := (142, dset (dset (dset lf 2 (0, b)) 1 (4, 3)) 0 (4, 127), [(0, b), (4, 131)], g)) rfl
      dsimp only at h
      have h := zald zy_60 h rfl rfl (dvp_131 ha3 hb4)
      have h := zm zy_60 h 3 (q := (148, dset (dset (dset lf 2 (0, b)) 1 (4, 3)) 0 (4, 127), [(0, b), (4, 7), (4, 153 + b)], g)) rfl
      dsimp only at h
      have h := zald zy_60 h rfl rfl (dvp_7 ha3 hb4)
      obtain ⟨g5, hk, h⟩ := zcallV zy_60 h rfl rfl zy_62 zk_62
      dsimp only at hk h
      refine ⟨g5, hk, ?_⟩
      have h := zm zy_60 h 2 (q := (123, dset (dset (dset (dset lf 2 (0, b)) 1 (4, 3)) 0 (4, 127)) 2 (0, w32 (b + 1)), [], g5)) rfl
      dsimp only at h
      exact ⟨_, rfl, rfl, rfl, h⟩
theorem c_per_127_3 {sv : Nat → Int32} {L n : Nat} {lf : dlf} {g : cg} {o : cg × Option cv} {i : Int} (hi0 : 0 ≤ i) (hi6 : i < 6) (h : zr sv L n 61 0 lf [] g o) (h0 : lf 0 = (4, 141 + 2 * i)) (h1 : lf 1 = (4, 17 + 2 * i)) : o = (ccp (cup (cup (cup (cup (cup (cup g ((141 + 2 * i).toNat) 0 (g ((17 + 2 * i).toNat) 0)) ((141 + 2 * i).toNat) 1 (g ((17 + 2 * i).toNat) 1)) ((141 + 2 * i).toNat) 2 (g ((17 + 2 * i).toNat) 2)) ((141 + 2 * i).toNat) 3 (g ((17 + 2 * i).toNat) 3)) ((141 + 2 * i).toNat) 4 (g ((17 + 2 * i).toNat) 4)) ((141 + 2 * i).toNat) 5 (g ((17 + 2 * i).toNat) 5)) ((18 + 2 * i).toNat) ((142 + 2 * i).toNat) 0 0 8, none) := by
  rw [zov h0, zov h1] at h
  have h := zm zy_61 h 2 (q := (2, dset (dset lf 1 (4, 17 + 2 * i)) 0 (4, 141 + 2 * i), [(4, 17 + 2 * i), (4, 141 + 2 * i)], g)) rfl
  dsimp only at h
  have h := zgf zy_61 h rfl rfl (dvf_17_0 hi0 hi6)
  have h : zr sv L n 61 5 (dset (dset lf 1 (4, 17 + 2 * i)) 0 (4, 141 + 2 * i)) [(2, g ((17 + 2 * i).toNat) 0), (4, 141 + 2 * i)] (g) o := by first | exact h | (rw [cup_at] at h; exact h) | ((repeat rw [cup_ne (by omega)] at h); exact h)
  have h := zm zy_61 h 3 (q := (10, dset (dset lf 1 (4, 17 + 2 * i)) 0 (4, 141 + 2 * i), [(4, 17 + 2 * i), (4, 141 + 2 * i)], cup g ((141 + 2 * i).toNat) 0 (g ((17 + 2 * i).toNat) 0))) rfl
  dsimp only at h
  have h := zgf zy_61 h rfl rfl (dvf_17_1 hi0 hi6)
  have h : zr sv L n 61 13 (dset (dset lf 1 (4, 17 + 2 * i)) 0 (4, 141 + 2 * i)) [(0, g ((17 + 2 * i).toNat) 1), (4, 141 + 2 * i)] (cup g ((141 + 2 * i).toNat) 0 (g ((17 + 2 * i).toNat) 0)) o := by first | exact h | (rw [cup_at] at h; exact h) | ((repeat rw [cup_ne (by omega)] at h); exact h)
  have h := zm zy_61 h 3 (q := (18, dset (dset lf 1 (4, 17 + 2 * i)) 0 (4, 141 + 2 * i), [(4, 17 + 2 * i), (4, 141 + 2 * i)], cup (cup g ((141 + 2 * i).toNat) 0 (g ((17 + 2 * i).toNat) 0)) ((141 + 2 * i).toNat) 1 (g ((17 + 2 * i).toNat) 1))) rfl
  dsimp only at h
  have h := zgf zy_61 h rfl rfl (dvf_17_2 hi0 hi6)
  have h : zr sv L n 61 21 (dset (dset lf 1 (4, 17 + 2 * i)) 0 (4, 141 + 2 * i)) [(0, g ((17 + 2 * i).toNat) 2), (4, 141 + 2 * i)] (cup (cup g ((141 + 2 * i).toNat) 0 (g ((17 + 2 * i).toNat) 0)) ((141 + 2 * i).toNat) 1 (g ((17 + 2 * i).toNat) 1)) o := by first | exact h | (rw [cup_at] at h; exact h) | ((repeat rw [cup_ne (by omega)] at h); exact h)
  have h := zm zy_61 h 3 (q := (26, dset (dset lf 1 (4, 17 + 2 * i)) 0 (4, 141 + 2 * i), [(4, 17 + 2 * i), (4, 141 + 2 * i)], cup (cup (cup g ((141 + 2 * i).toNat) 0 (g ((17 + 2 * i).toNat) 0)) ((141 + 2 * i).toNat) 1 (g ((17 + 2 * i).toNat) 1)) ((141 + 2 * i).toNat) 2 (g ((17 + 2 * i).toNat) 2))) rfl
  dsimp only at h
  have h := zgf zy_61 h rfl rfl (dvf_17_3 hi0 hi6)
  have h : zr sv L n 61 29 (dset (dset lf 1 (4, 17 + 2 * i)) 0 (4, 141 + 2 * i)) [(0, g ((17 + 2 * i).toNat) 3), (4, 141 + 2 * i)] (cup (cup (cup g ((141 + 2 * i).toNat) 0 (g ((17 + 2 * i).toNat) 0)) ((141 + 2 * i).toNat) 1 (g ((17 + 2 * i).toNat) 1)) ((141 + 2 * i).toNat) 2 (g ((17 + 2 * i).toNat) 2)) o := by first | exact h | (rw [cup_at] at h; exact h) | ((repeat rw [cup_ne (by omega)] at h); exact h)
  have h := zm zy_61 h 3 (q := (34, dset (dset lf 1 (4, 17 + 2 * i)) 0 (4, 141 + 2 * i), [(4, 17 + 2 * i), (4, 141 + 2 * i)], cup (cup (cup (cup g ((141 + 2 * i).toNat) 0 (g ((17 + 2 * i).toNat) 0)) ((141 + 2 * i).toNat) 1 (g ((17 + 2 * i).toNat) 1)) ((141 + 2 * i).toNat) 2 (g ((17 + 2 * i).toNat) 2)) ((141 + 2 * i).toNat) 3 (g ((17 + 2 * i).toNat) 3))) rfl
  dsimp only at h
  have h := zgf zy_61 h rfl rfl (dvf_17_4 hi0 hi6)
  have h : zr sv L n 61 37 (dset (dset lf 1 (4, 17 + 2 * i)) 0 (4, 141 + 2 * i)) [(0, g ((17 + 2 * i).toNat) 4), (4, 141 + 2 * i)] (cup (cup (cup (cup g ((141 + 2 * i).toNat) 0 (g ((17 + 2 * i).toNat) 0)) ((141 + 2 * i).toNat) 1 (g ((17 + 2 * i).toNat) 1)) ((141 + 2 * i).toNat) 2 (g ((17 + 2 * i).toNat) 2)) ((141 + 2 * i).toNat) 3 (g ((17 + 2 * i).toNat) 3)) o := by first | exact h | (rw [cup_at] at h; exact h) | ((repeat rw [cup_ne (by omega)] at h); exact h)
  have h := zm zy_61 h 3 (q := (42, dset (dset lf 1 (4, 17 + 2 * i)) 0 (4, 141 + 2 * i), [(4, 17 + 2 * i), (4, 141 + 2 * i)], cup (cup (cup (cup (cup g ((141 + 2 * i).toNat) 0 (g ((17 + 2 * i).toNat) 0)) ((141 + 2 * i).toNat) 1 (g ((17 + 2 * i).toNat) 1)) ((141 + 2 * i).toNat) 2 (g ((17 + 2 * i).toNat) 2)) ((141 + 2 * i).toNat) 3 (g ((17 + 2 * i).toNat) 3)) ((141 + 2 * i).toNat) 4 (g ((17 + 2 * i).toNat) 4))) rfl
  dsimp only at h
  have h := zgf zy_61 h rfl rfl (dvf_17_5 hi0 hi6)
  have h : zr sv L n 61 45 (dset (dset lf 1 (4, 17 + 2 * i)) 0 (4, 141 + 2 * i)) [(0, g ((17 + 2 * i).toNat) 5), (4, 141 + 2 * i)] (cup (cup (cup (cup (cup g ((141 + 2 * i).toNat) 0 (g ((17 + 2 * i).toNat) 0)) ((141 + 2 * i).toNat) 1 (g ((17 + 2 * i).toNat) 1)) ((141 + 2 * i).toNat) 2 (g ((17 + 2 * i).toNat) 2)) ((141 + 2 * i).toNat) 3 (g ((17 + 2 * i).toNat) 3)) ((141 + 2 * i).toNat) 4 (g ((17 + 2 * i).toNat) 4)) o := by first | exact h | (rw [cup_at] at h; exact h) | ((repeat rw [cup_ne (by omega)] at h); exact h)
  have h := zm zy_61 h 2 (q := (49, dset (dset lf 1 (4, 17 + 2 * i)) 0 (4, 141 + 2 * i), [(4, 17 + 2 * i)], cup (cup (cup (cup (cup (cup g ((141 + 2 * i).toNat) 0 (g ((17 + 2 * i).toNat) 0)) ((141 + 2 * i).toNat) 1 (g ((17 + 2 * i).toNat) 1)) ((141 + 2 * i).toNat) 2 (g ((17 + 2 * i).toNat) 2)) ((141 + 2 * i).toNat) 3 (g ((17 + 2 * i).toNat) 3)) ((141 + 2 * i).toNat) 4 (g ((17 + 2 * i).toNat) 4)) ((141 + 2 * i).toNat) 5 (g ((17 + 2 * i).toNat) 5))) rfl
  dsimp only at h
  have h := zgf zy_61 h rfl rfl (dvf_17_6 hi0 hi6)
  have h := zm zy_61 h 2 (q := (54, dset (dset lf 1 (4, 17 + 2 * i)) 0 (4, 141 + 2 * i), [(4, 141 + 2 * i), (0, 0), (4, 18 + 2 * i)], cup (cup (cup (cup (cup (cup g ((141 + 2 * i).toNat) 0 (g ((17 + 2 * i).toNat) 0)) ((141 + 2 * i).toNat) 1 (g ((17 + 2 * i).toNat) 1)) ((141 + 2 * i).toNat) 2 (g ((17 + 2 * i).toNat) 2)) ((141 + 2 * i).toNat) 3 (g ((17 + 2 * i).toNat) 3)) ((141 + 2 * i).toNat) 4 (g ((17 + 2 * i).toNat) 4)) ((141 + 2 * i).toNat) 5 (g ((17 + 2 * i).toNat) 5))) rfl
  dsimp only at h
  have h := zgf zy_61 h rfl rfl (dvf_141_6 hi0 hi6)
  have h := zm zy_61 h 3 (q := (63, dset (dset lf 1 (4, 17 + 2 * i)) 0 (4, 141 + 2 * i), [], ccp (cup (cup (cup (cup (cup (cup g ((141 + 2 * i).toNat) 0 (g ((17 + 2 * i).toNat) 0)) ((141 + 2 * i).toNat) 1 (g ((17 + 2 * i).toNat) 1)) ((141 + 2 * i).toNat) 2 (g ((17 + 2 * i).toNat) 2)) ((141 + 2 * i).toNat) 3 (g ((17 + 2 * i).toNat) 3)) ((141 + 2 * i).toNat) 4 (g ((17 + 2 * i).toNat) 4)) ((141 + 2 * i).toNat) 5 (g ((17 + 2 * i).toNat) 5)) ((18 + 2 * i).toNat) ((142 + 2 * i).toNat) 0 0 8)) rfl
  dsimp only at h
  exact zret zy_61 h rfl rfl
theorem c_oath_127_3 {sv : Nat → Int32} {L n : Nat} {lf : dlf} {g : cg} {o : cg × Option cv} {i : Int} (hi0 : 0 ≤ i) (hi16 : i < 16) (h : zr sv L n 62 0 lf [] g o) (h0 : lf 0 = (4, 153 + i)) (h1 : lf 1 = (4, 29 + i)) : o = (cup (cup (cup (cup (cup (cup (cup (cup g ((153 + i).toNat) 0 (g ((29 + i).toNat) 0)) ((153 + i).toNat) 1 (g ((29 + i).toNat) 1)) ((153 + i).toNat) 2 (g ((29 + i).toNat) 2)) ((153 + i).toNat) 3 (g ((29 + i).toNat) 3)) ((153 + i).toNat) 4 (g ((29 + i).toNat) 4)) ((153 + i).toNat) 5 (g ((29 + i).toNat) 5)) ((153 + i).toNat) 6 (g ((29 + i).toNat) 6)) ((153 + i).toNat) 7 (g ((29 + i).toNat) 7), none) := by
  rw [zov h0, zov h1] at h
  have h := zm zy_62 h 2 (q := (2, dset (dset lf 1 (4, 29 + i)) 0 (4, 153 + i), [(4, 29 + i), (4, 153 + i)], g)) rfl
  dsimp only at h
  have h := zgf zy_62 h rfl rfl (dvf_29_0 hi0 hi16)
  have h : zr sv L n 62 5 (dset (dset lf 1 (4, 29 + i)) 0 (4, 153 + i)) [(0, g ((29 + i).toNat) 0), (4, 153 + i)] (g) o := by first | exact h | (rw [cup_at] at h; exact h) | ((repeat rw [cup_ne (by omega)] at h); exact h)
  have h := zm zy_62 h 3 (q := (10, dset (dset lf 1 (4, 29 + i)) 0 (4, 153 + i), [(4, 29 + i), (4, 153 + i)], cup g ((153 + i).toNat) 0 (g ((29 + i).toNat) 0))) rfl
  dsimp only at h
  have h := zgf zy_62 h rfl rfl (dvf_29_1 hi0 hi16)
  have h : zr sv L n 62 13 (dset (dset lf 1 (4, 29 + i)) 0 (4, 153 + i)) [(0, g ((29 + i).toNat) 1), (4, 153 + i)] (cup g ((153 + i).toNat) 0 (g ((29 + i).toNat) 0)) o := by first | exact h | (rw [cup_at] at h; exact h) | ((repeat rw [cup_ne (by omega)] at h); exact h)
  have h := zm zy_62 h 3 (q := (18, dset (dset lf 1 (4, 29 + i)) 0 (4, 153 + i), [(4, 29 + i), (4, 153 + i)], cup (cup g ((153 + i).toNat) 0 (g ((29 + i).toNat) 0)) ((153 + i).toNat) 1 (g ((29 + i).toNat) 1))) rfl
  dsimp only at h
  have h := zgf zy_62 h rfl rfl (dvf_29_2 hi0 hi16)
  have h : zr sv L n 62 21 (dset (dset lf 1 (4, 29 + i)) 0 (4, 153 + i)) [(0, g ((29 + i).toNat) 2), (4, 153 + i)] (cup (cup g ((153 + i).toNat) 0 (g ((29 + i).toNat) 0)) ((153 + i).toNat) 1 (g ((29 + i).toNat) 1)) o := by first | exact h | (rw [cup_at] at h; exact h) | ((repeat rw [cup_ne (by omega)] at h); exact h)
  have h := zm zy_62 h 3 (q := (26, dset (dset lf 1 (4, 29 + i)) 0 (4, 153 + i), [(4, 29 + i), (4, 153 + i)], cup (cup (cup g ((153 + i).toNat) 0 (g ((29 + i).toNat) 0)) ((153 + i).toNat) 1 (g ((29 + i).toNat) 1)) ((153 + i).toNat) 2 (g ((29 + i).toNat) 2))) rfl
  dsimp only at h
  have h := zgf zy_62 h rfl rfl (dvf_29_3 hi0 hi16)
  have h : zr sv L n 62 29 (dset (dset lf 1 (4, 29 + i)) 0 (4, 153 + i)) [(0, g ((29 + i).toNat) 3), (4, 153 + i)] (cup (cup (cup g ((153 + i).toNat) 0 (g ((29 + i).toNat) 0)) ((153 + i).toNat) 1 (g ((29 + i).toNat) 1)) ((153 + i).toNat) 2 (g ((29 + i).toNat) 2)) o := by first | exact h | (rw [cup_at] at h; exact h) | ((repeat rw [cup_ne (by omega)] at h); exact h)
  have h := zm zy_62 h 3 (q := (34, dset (dset lf 1 (4, 29 + i)) 0 (4, 153 + i), [(4, 29 + i), (4, 153 + i)], cup (cup (cup (cup g ((153 + i).toNat) 0 (g ((29 + i).toNat) 0)) ((153 + i).toNat) 1 (g ((29 + i).toNat) 1)) ((153 + i).toNat) 2 (g ((29 + i).toNat) 2)) ((153 + i).toNat) 3 (g ((29 + i).toNat) 3))) rfl
  dsimp only at h
  have h := zgf zy_62 h rfl rfl (dvf_29_4 hi0 hi16)
  have h : zr sv L n 62 37 (dset (dset lf 1 (4, 29 + i)) 0 (4, 153 + i)) [(0, g ((29 + i).toNat) 4), (4, 153 + i)] (cup (cup (cup (cup g ((153 + i).toNat) 0 (g ((29 + i).toNat) 0)) ((153 + i).toNat) 1 (g ((29 + i).toNat) 1)) ((153 + i).toNat) 2 (g ((29 + i).toNat) 2)) ((153 + i).toNat) 3 (g ((29 + i).toNat) 3)) o := by first | exact h | (rw [cup_at] at h; exact h) | ((repeat rw [cup_ne (by omega)] at h); exact h)
  have h := zm zy_62 h 3 (q := (42, dset (dset lf 1 (4, 29 + i)) 0 (4, 153 + i), [(4, 29 + i), (4, 153 + i)], cup (cup (cup (cup (cup g ((153 + i).toNat) 0 (g ((29 + i).toNat) 0)) ((153 + i).toNat) 1 (g ((29 + i).toNat) 1)) ((153 + i).toNat) 2 (g ((29 + i).toNat) 2)) ((153 + i).toNat) 3 (g ((29 + i).toNat) 3)) ((153 + i).toNat) 4 (g ((29 + i).toNat) 4))) rfl
  dsimp only at h
  have h := zgf zy_62 h rfl rfl (dvf_29_5 hi0 hi16)
  have h : zr sv L n 62 45 (dset (dset lf 1 (4, 29 + i)) 0 (4, 153 + i)) [(0, g ((29 + i).toNat) 5), (4, 153 + i)] (cup (cup (cup (cup (cup g ((153 + i).toNat) 0 (g ((29 + i).toNat) 0)) ((153 + i).toNat) 1 (g ((29 + i).toNat) 1)) ((153 + i).toNat) 2 (g ((29 + i).toNat) 2)) ((153 + i).toNat) 3 (g ((29 + i).toNat) 3)) ((153 + i).toNat) 4 (g ((29 + i).toNat) 4)) o := by first | exact h | (rw [cup_at] at h; exact h) | ((repeat rw [cup_ne (by omega)] at h); exact h)
  have h := zm zy_62 h 3 (q := (50, dset (dset lf 1 (4, 29 + i)) 0 (4, 153 + i), [(4, 29 + i), (4, 153 + i)], cup (cup (cup (cup (cup (cup g ((153 + i).toNat) 0 (g ((29 + i).toNat) 0)) ((153 + i).toNat) 1 (g ((29 + i).toNat) 1)) ((153 + i).toNat) 2 (g ((29 + i).toNat) 2)) ((153 + i).toNat) 3 (g ((29 + i).toNat) 3)) ((153 + i).toNat) 4 (g ((29 + i).toNat) 4)) ((153 + i).toNat) 5 (g ((29 + i).toNat) 5))) rfl
  dsimp only at h
  have h := zgf zy_62 h rfl rfl (dvf_29_6 hi0 hi16)
  have h : zr sv L n 62 53 (dset (dset lf 1 (4, 29 + i)) 0 (4, 153 + i)) [(0, g ((29 + i).toNat) 6), (4, 153 + i)] (cup (cup (cup (cup (cup (cup g ((153 + i).toNat) 0 (g ((29 + i).toNat) 0)) ((153 + i).toNat) 1 (g ((29 + i).toNat) 1)) ((153 + i).toNat) 2 (g ((29 + i).toNat) 2)) ((153 + i).toNat) 3 (g ((29 + i).toNat) 3)) ((153 + i).toNat) 4 (g ((29 + i).toNat) 4)) ((153 + i).toNat) 5 (g ((29 + i).toNat) 5)) o := by first | exact h | (rw [cup_at] at h; exact h) | ((repeat rw [cup_ne (by omega)] at h); exact h)
  have h := zm zy_62 h 3 (q := (58, dset (dset lf 1 (4, 29 + i)) 0 (4, 153 + i), [(4, 29 + i), (4, 153 + i)], cup (cup (cup (cup (cup (cup (cup g ((153 + i).toNat) 0 (g ((29 + i).toNat) 0)) ((153 + i).toNat) 1 (g ((29 + i).toNat) 1)) ((153 + i).toNat) 2 (g ((29 + i).toNat) 2)) ((153 + i).toNat) 3 (g ((29 + i).toNat) 3)) ((153 + i).toNat) 4 (g ((29 + i).toNat) 4)) ((153 + i).toNat) 5 (g ((29 + i).toNat) 5)) ((153 + i).toNat) 6 (g ((29 + i).toNat) 6))) rfl
  dsimp only at h
  have h := zgf zy_62 h rfl rfl (dvf_29_7 hi0 hi16)
  have h : zr sv L n 62 61 (dset (dset lf 1 (4, 29 + i)) 0 (4, 153 + i)) [(0, g ((29 + i).toNat) 7), (4, 153 + i)] (cup (cup (cup (cup (cup (cup (cup g ((153 + i).toNat) 0 (g ((29 + i).toNat) 0)) ((153 + i).toNat) 1 (g ((29 + i).toNat) 1)) ((153 + i).toNat) 2 (g ((29 + i).toNat) 2)) ((153 + i).toNat) 3 (g ((29 + i).toNat) 3)) ((153 + i).toNat) 4 (g ((29 + i).toNat) 4)) ((153 + i).toNat) 5 (g ((29 + i).toNat) 5)) ((153 + i).toNat) 6 (g ((29 + i).toNat) 6)) o := by first | exact h | (rw [cup_at] at h; exact h) | ((repeat rw [cup_ne (by omega)] at h); exact h)
  have h := zm zy_62 h 1 (q := (64, dset (dset lf 1 (4, 29 + i)) 0 (4, 153 + i), [], cup (cup (cup (cup (cup (cup (cup (cup g ((153 + i).toNat) 0 (g ((29 + i).toNat) 0)) ((153 + i).toNat) 1 (g ((29 + i).toNat) 1)) ((153 + i).toNat) 2 (g ((29 + i).toNat) 2)) ((153 + i).toNat) 3 (g ((29 + i).toNat) 3)) ((153 + i).toNat) 4 (g ((29 + i).toNat) 4)) ((153 + i).toNat) 5 (g ((29 + i).toNat) 5)) ((153 + i).toNat) 6 (g ((29 + i).toNat) 6)) ((153 + i).toNat) 7 (g ((29 + i).toNat) 7))) rfl
  dsimp only at h
  exact zret zy_62 h rfl rfl
theorem c_tri_127_3 {sv : Nat → Int32} {L n : Nat} {lf : dlf} {g : cg} {o : cg × Option cv} (h : zr sv L n 63 0 lf [] g o) (h0 : lf 0 = (4, 132)) (h1 : lf 1 = (4, 8)) : o = (ccp (ccp (ccp (ccp (ccp (ccp (ccp (ccp (cup (cup (cup g 132 0 (g 8 0)) 132 1 (g 8 1)) 132 2 (g 8 2)) 9 133 0 0 ((g 8 2).toNat)) 10 134 0 0 ((g 8 2).toNat)) 11 135 0 0 ((g 8 2).toNat)) 12 136 0 0 ((g 8 2).toNat)) 13 137 0 0 ((g 8 2).toNat)) 14 138 0 0 ((g 8 2).toNat)) 15 139 0 0 ((g 8 2).toNat)) 16 140 0 0 ((g 8 2).toNat), none) := by
  rw [zov h0, zov h1] at h
  have h := zm zy_63 h 84 (q := (160, dset (dset lf 1 (4, 8)) 0 (4, 132), [], ccp (ccp (ccp (ccp (ccp (ccp (ccp (ccp (cup (cup (cup g 132 0 (g 8 0)) 132 1 (g 8 1)) 132 2 (g 8 2)) 9 133 0 0 ((g 8 2).toNat)) 10 134 0 0 ((g 8 2).toNat)) 11 135 0 0 ((g 8 2).toNat)) 12 136 0 0 ((g 8 2).toNat)) 13 137 0 0 ((g 8 2).toNat)) 14 138 0 0 ((g 8 2).toNat)) 15 139 0 0 ((g 8 2).toNat)) 16 140 0 0 ((g 8 2).toNat))) rfl
  dsimp only at h
  exact zret zy_63 h rfl rfl
theorem c_all_169_3 {sv : Nat → Int32} {L n : Nat} {lf : dlf} {g : cg} {o : cg × Option cv} (h : zr sv L n 59 0 lf [] g o) (h0 : lf 0 = (4, 169)) (h1 : lf 1 = (4, 3)) : ∃ g1, zr sv L n 60 0 (darg 0 [(4, 169), (4, 3)]) [] g (g1, none) ∧ (∃ g2, zr sv L n 63 0 (darg 0 [(4, 174), (4, 8)]) [] g1 (g2, none) ∧ (o = (g2, none))) := by
  rw [zov h0, zov h1] at h
  have h := zm zy_59 h 2 (q := (2, dset (dset lf 1 (4, 3)) 0 (4, 169), [(4, 3), (4, 169)], g)) rfl
  dsimp only at h
  obtain ⟨g1, hk, h⟩ := zcallV zy_59 h rfl rfl zy_60 zk_60
  dsimp only at hk h
  refine ⟨g1, hk, ?_⟩
  have h := zm zy_59 h 4 (q := (13, dset (dset lf 1 (4, 3)) 0 (4, 169), [(4, 8), (4, 174)], g1)) rfl
  dsimp only at h
  obtain ⟨g2, hk, h⟩ := zcallV zy_59 h rfl rfl zy_63 zk_63
  dsimp only at hk h
  refine ⟨g2, hk, ?_⟩
  exact zret zy_59 h rfl rfl
theorem c_case0_169_3 {sv : Nat → Int32} {L n : Nat} {lf : dlf} {g : cg} {o : cg × Option cv} (h : zr sv L n 60 0 lf [] g o) (h0 : lf 0 = (4, 169)) (h1 : lf 1 = (4, 3)) : ∃ lf'1, lf'1 0 = (4, 169) ∧ lf'1 1 = (4, 3) ∧ lf'1 2 = (0, 0) ∧ zr sv L n 60 86 lf'1 [] (ccp (ccp (cup (cup (cup (cup (cup (cup (cup g 169 0 (g 3 0)) 169 3 (g 3 3)) 169 5 (g 3 5)) 169 6 (g 3 6)) 169 7 (g 3 7)) 169 8 (g 3 8)) 169 9 (g 3 9)) 4 170 0 0 5) 5 171 0 0 5) o := by
  rw [zov h0, zov h1] at h
  have h := zm zy_60 h 46 (q := (86, dset (dset (dset lf 1 (4, 3)) 0 (4, 169)) 2 (0, 0), [], ccp (ccp (cup (cup (cup (cup (cup (cup (cup g 169 0 (g 3 0)) 169 3 (g 3 3)) 169 5 (g 3 5)) 169 6 (g 3 6)) 169 7 (g 3 7)) 169 8 (g 3 8)) 169 9 (g 3 9)) 4 170 0 0 5) 5 171 0 0 5)) rfl
  dsimp only at h
  exact ⟨_, rfl, rfl, rfl, h⟩
theorem c_case86_169_3 {sv : Nat → Int32} {L n : Nat} {lf : dlf} {g : cg} {o : cg × Option cv} {b : Int} (h : zr sv L (n + 1) 60 86 lf [] g o) (h0 : lf 0 = (4, 169)) (h1 : lf 1 = (4, 3)) (h2 : lf 2 = (0, b)) : (g 169 3 ≤ b ∧ (∃ lf'2, lf'2 0 = (4, 169) ∧ lf'2 1 = (4, 3) ∧ lf'2 2 = (0, 0) ∧ zr sv L n 60 123 lf'2 [] g o)) ∨ (b < g 169 3 ∧ ((6 ≤ b ∧ (∃ lf'4, lf'4 0 = (4, 169) ∧ lf'4 1 = (4, 3) ∧ lf'4 2 = (0, 0) ∧ zr sv L n 60 123 lf'4 [] g o)) ∨ (b < 6 ∧ (0 ≤ b → b < 6 → (∃ g7, zr sv L n 61 0 (darg 0 [(4, 183 + 2 * b), (4, 17 + 2 * b)]) [] g (g7, none) ∧ (∃ lf'8, lf'8 0 = (4, 169) ∧ lf'8 1 = (4, 3) ∧ lf'8 2 = (0, w32 (b + 1)) ∧ zr sv L n 60 86 lf'8 [] g7 o)))))) := by
  rw [zov h0, zov h1, zov h2] at h
  have h := zm1 zy_60 h 3 (q := (cond (crel .ge b (g 169 3)) 121 94, dset (dset (dset lf 2 (0, b)) 1 (4, 3)) 0 (4, 169), [], g)) rfl
  dsimp only at h
  rcases zif_ge h with ⟨hc1, h⟩ | ⟨hc1, h⟩
  · refine Or.inl ⟨hc1, ?_⟩
    have h := zm zy_60 h 2 (q := (123, dset (dset (dset (dset lf 2 (0, b)) 1 (4, 3)) 0 (4, 169)) 2 (0, 0), [], g)) rfl
    dsimp only at h
    exact ⟨_, rfl, rfl, rfl, h⟩
  · refine Or.inr ⟨hc1, ?_⟩
    have h := zm zy_60 h 3 (q := (cond (crel .ge b 6) 121 100, dset (dset (dset lf 2 (0, b)) 1 (4, 3)) 0 (4, 169), [], g)) rfl
    dsimp only at h
    rcases zif_ge h with ⟨hc3, h⟩ | ⟨hc3, h⟩
    · refine Or.inl ⟨hc3, ?_⟩
      have h := zm zy_60 h 2 (q := (123, dset (dset (dset (dset lf 2 (0, b)) 1 (4, 3)) 0 (4, 169)) 2 (0, 0), [], g)) rfl
      dsimp only at h
      exact ⟨_, rfl, rfl, rfl, h⟩
    · refine Or.inr ⟨hc3, ?_⟩
      intro ha5 hb6
      have h := zm zy_60 h 3 (q := (105, dset (dset (dset lf 2 (0, b)) 1 (4, 3)) 0 (4, 169), [(0, b), (4, 172)], g)) rfl
      dsimp only at h
      have h := zald zy_60 h rfl rfl (dvp_172 ha5 hb6)
      have h := zm zy_60 h 3 (q := (111, dset (dset (dset lf 2 (0, b)) 1 (4, 3)) 0 (4, 169), [(0, b), (4, 6), (4, 183 + 2 * b)], g)) rfl
      dsimp only at h
      have h := zald zy_60 h rfl rfl (dvp_6 ha5 hb6)
      obtain ⟨g7, hk, h⟩ := zcallV zy_60 h rfl rfl zy_61 zk_61
      dsimp only at hk h
      refine ⟨g7, hk, ?_⟩
      have h := zm zy_60 h 2 (q := (86, dset (dset (dset (dset lf 2 (0, b)) 1 (4, 3)) 0 (4, 169)) 2 (0, w32 (b + 1)), [], g7)) rfl
      dsimp only at h
      exact ⟨_, rfl, rfl, rfl, h⟩
theorem c_case123_169_3 {sv : Nat → Int32} {L n : Nat} {lf : dlf} {g : cg} {o : cg × Option cv} {b : Int} (h : zr sv L (n + 1) 60 123 lf [] g o) (h0 : lf 0 = (4, 169)) (h1 : lf 1 = (4, 3)) (h2 : lf 2 = (0, b)) : (g 169 9 ≤ b ∧ (o = (g, none))) ∨ (b < g 169 9 ∧ ((16 ≤ b ∧ (o = (g, none))) ∨ (b < 16 ∧ (0 ≤ b → b < 16 → (∃ g5, zr sv L n 62 0 (darg 0 [(4, 195 + b), (4, 29 + b)]) [] g (g5, none) ∧ (∃ lf'6, lf'6 0 = (4, 169) ∧ lf'6 1 = (4, 3) ∧ lf'6 2 = (0, w32 (b + 1)) ∧ zr sv L n 60 123 lf'6 [] g5 o)))))) := by
  rw [zov h0, zov h1, zov h2] at h
  have h := zm1 zy_60 h 3 (q := (cond (crel .ge b (g 169 9)) 158 131, dset (dset (dset lf 2 (0, b)) 1 (4, 3)) 0 (4, 169), [], g)) rfl
  dsimp only at h
  rcases zif_ge h with ⟨hc1, h⟩ | ⟨hc1, h⟩
  · refine Or.inl ⟨hc1, ?_⟩
    exact zret zy_60 h rfl rfl
  · refine Or.inr ⟨hc1, ?_⟩
    have h := zm zy_60 h 3 (q := (cond (crel .ge b 16) 158 137, dset (dset (dset lf 2 (0, b)) 1 (4, 3)) 0 (4, 169), [], g)) rfl
    dsimp only at h
    rcases zif_ge h with ⟨hc2, h⟩ | ⟨hc2, h⟩
    · refine Or.inl ⟨hc2, ?_⟩
      exact zret zy_60 h rfl rfl
    · refine Or.inr ⟨hc2, ?_⟩
      intro ha3 hb4
      have h := zm zy_60 h 3 (q := (142, dset (dset (dset lf 2 (0, b)) 1 (4, 3)) 0 (4, 169), [(0, b), (4, 173)], g)) rfl
      dsimp only at h
      have h := zald zy_60 h rfl rfl (dvp_173 ha3 hb4)
      have h := zm zy_60 h 3 (q := (148, dset (dset (dset lf 2 (0, b)) 1 (4, 3)) 0 (4, 169), [(0, b), (4, 7), (4, 195 + b)], g)) rfl
      dsimp only at h
      have h := zald zy_60 h rfl rfl (dvp_7 ha3 hb4)
      obtain ⟨g5, hk, h⟩ := zcallV zy_60 h rfl rfl zy_62 zk_62
      dsimp only at hk h
      refine ⟨g5, hk, ?_⟩
      have h := zm zy_60 h 2 (q := (123, dset (dset (dset (dset lf 2 (0, b)) 1 (4, 3)) 0 (4, 169)) 2 (0, w32 (b + 1)), [], g5)) rfl
      dsimp only at h
      exact ⟨_, rfl, rfl, rfl, h⟩
theorem c_per_169_3 {sv : Nat → Int32} {L n : Nat} {lf : dlf} {g : cg} {o : cg × Option cv} {i : Int} (hi0 : 0 ≤ i) (hi6 : i < 6) (h : zr sv L n 61 0 lf [] g o) (h0 : lf 0 = (4, 183 + 2 * i)) (h1 : lf 1 = (4, 17 + 2 * i)) : o = (ccp (cup (cup (cup (cup (cup (cup g ((183 + 2 * i).toNat) 0 (g ((17 + 2 * i).toNat) 0)) ((183 + 2 * i).toNat) 1 (g ((17 + 2 * i).toNat) 1)) ((183 + 2 * i).toNat) 2 (g ((17 + 2 * i).toNat) 2)) ((183 + 2 * i).toNat) 3 (g ((17 + 2 * i).toNat) 3)) ((183 + 2 * i).toNat) 4 (g ((17 + 2 * i).toNat) 4)) ((183 + 2 * i).toNat) 5 (g ((17 + 2 * i).toNat) 5)) ((18 + 2 * i).toNat) ((184 + 2 * i).toNat) 0 0 8, none) := by
  rw [zov h0, zov h1] at h
  have h := zm zy_61 h 2 (q := (2, dset (dset lf 1 (4, 17 + 2 * i)) 0 (4, 183 + 2 * i), [(4, 17 + 2 * i), (4, 183 + 2 * i)], g)) rfl
  dsimp only at h
  have h := zgf zy_61 h rfl rfl (dvf_17_0 hi0 hi6)
  have h : zr sv L n 61 5 (dset (dset lf 1 (4, 17 + 2 * i)) 0 (4, 183 + 2 * i)) [(2, g ((17 + 2 * i).toNat) 0), (4, 183 + 2 * i)] (g) o := by first | exact h | (rw [cup_at] at h; exact h) | ((repeat rw [cup_ne (by omega)] at h); exact h)
  have h := zm zy_61 h 3 (q := (10, dset (dset lf 1 (4, 17 + 2 * i)) 0 (4, 183 + 2 * i), [(4, 17 + 2 * i), (4, 183 + 2 * i)], cup g ((183 + 2 * i).toNat) 0 (g ((17 + 2 * i).toNat) 0))) rfl
  dsimp only at h
  have h := zgf zy_61 h rfl rfl (dvf_17_1 hi0 hi6)
  have h : zr sv L n 61 13 (dset (dset lf 1 (4, 17 + 2 * i)) 0 (4, 183 + 2 * i)) [(0, g ((17 + 2 * i).toNat) 1), (4, 183 + 2 * i)] (cup g ((183 + 2 * i).toNat) 0 (g ((17 + 2 * i).toNat) 0)) o := by first | exact h | (rw [cup_at] at h; exact h) | ((repeat rw [cup_ne (by omega)] at h); exact h)
  have h := zm zy_61 h 3 (q := (18, dset (dset lf 1 (4, 17 + 2 * i)) 0 (4, 183 + 2 * i), [(4, 17 + 2 * i), (4, 183 + 2 * i)], cup (cup g ((183 + 2 * i).toNat) 0 (g ((17 + 2 * i).toNat) 0)) ((183 + 2 * i).toNat) 1 (g ((17 + 2 * i).toNat) 1))) rfl
  dsimp only at h
  have h := zgf zy_61 h rfl rfl (dvf_17_2 hi0 hi6)
  have h : zr sv L n 61 21 (dset (dset lf 1 (4, 17 + 2 * i)) 0 (4, 183 + 2 * i)) [(0, g ((17 + 2 * i).toNat) 2), (4, 183 + 2 * i)] (cup (cup g ((183 + 2 * i).toNat) 0 (g ((17 + 2 * i).toNat) 0)) ((183 + 2 * i).toNat) 1 (g ((17 + 2 * i).toNat) 1)) o := by first | exact h | (rw [cup_at] at h; exact h) | ((repeat rw [cup_ne (by omega)] at h); exact h)
  have h := zm zy_61 h 3 (q := (26, dset (dset lf 1 (4, 17 + 2 * i)) 0 (4, 183 + 2 * i), [(4, 17 + 2 * i), (4, 183 + 2 * i)], cup (cup (cup g ((183 + 2 * i).toNat) 0 (g ((17 + 2 * i).toNat) 0)) ((183 + 2 * i).toNat) 1 (g ((17 + 2 * i).toNat) 1)) ((183 + 2 * i).toNat) 2 (g ((17 + 2 * i).toNat) 2))) rfl
  dsimp only at h
  have h := zgf zy_61 h rfl rfl (dvf_17_3 hi0 hi6)
  have h : zr sv L n 61 29 (dset (dset lf 1 (4, 17 + 2 * i)) 0 (4, 183 + 2 * i)) [(0, g ((17 + 2 * i).toNat) 3), (4, 183 + 2 * i)] (cup (cup (cup g ((183 + 2 * i).toNat) 0 (g ((17 + 2 * i).toNat) 0)) ((183 + 2 * i).toNat) 1 (g ((17 + 2 * i).toNat) 1)) ((183 + 2 * i).toNat) 2 (g ((17 + 2 * i).toNat) 2)) o := by first | exact h | (rw [cup_at] at h; exact h) | ((repeat rw [cup_ne (by omega)] at h); exact h)
  have h := zm zy_61 h 3 (q := (34, dset (dset lf 1 (4, 17 + 2 * i)) 0 (4, 183 + 2 * i), [(4, 17 + 2 * i), (4, 183 + 2 * i)], cup (cup (cup (cup g ((183 + 2 * i).toNat) 0 (g ((17 + 2 * i).toNat) 0)) ((183 + 2 * i).toNat) 1 (g ((17 + 2 * i).toNat) 1)) ((183 + 2 * i).toNat) 2 (g ((17 + 2 * i).toNat) 2)) ((183 + 2 * i).toNat) 3 (g ((17 + 2 * i).toNat) 3))) rfl
  dsimp only at h
  have h := zgf zy_61 h rfl rfl (dvf_17_4 hi0 hi6)
  have h : zr sv L n 61 37 (dset (dset lf 1 (4, 17 + 2 * i)) 0 (4, 183 + 2 * i)) [(0, g ((17 + 2 * i).toNat) 4), (4, 183 + 2 * i)] (cup (cup (cup (cup g ((183 + 2 * i).toNat) 0 (g ((17 + 2 * i).toNat) 0)) ((183 + 2 * i).toNat) 1 (g ((17 + 2 * i).toNat) 1)) ((183 + 2 * i).toNat) 2 (g ((17 + 2 * i).toNat) 2)) ((183 + 2 * i).toNat) 3 (g ((17 + 2 * i).toNat) 3)) o := by first | exact h | (rw [cup_at] at h; exact h) | ((repeat rw [cup_ne (by omega)] at h); exact h)
  have h := zm zy_61 h 3 (q := (42, dset (dset lf 1 (4, 17 + 2 * i)) 0 (4, 183 + 2 * i), [(4, 17 + 2 * i), (4, 183 + 2 * i)], cup (cup (cup (cup (cup g ((183 + 2 * i).toNat) 0 (g ((17 + 2 * i).toNat) 0)) ((183 + 2 * i).toNat) 1 (g ((17 + 2 * i).toNat) 1)) ((183 + 2 * i).toNat) 2 (g ((17 + 2 * i).toNat) 2)) ((183 + 2 * i).toNat) 3 (g ((17 + 2 * i).toNat) 3)) ((183 + 2 * i).toNat) 4 (g ((17 + 2 * i).toNat) 4))) rfl
  dsimp only at h
  have h := zgf zy_61 h rfl rfl (dvf_17_5 hi0 hi6)
  have h : zr sv L n 61 45 (dset (dset lf 1 (4, 17 + 2 * i)) 0 (4, 183 + 2 * i)) [(0, g ((17 + 2 * i).toNat) 5), (4, 183 + 2 * i)] (cup (cup (cup (cup (cup g ((183 + 2 * i).toNat) 0 (g ((17 + 2 * i).toNat) 0)) ((183 + 2 * i).toNat) 1 (g ((17 + 2 * i).toNat) 1)) ((183 + 2 * i).toNat) 2 (g ((17 + 2 * i).toNat) 2)) ((183 + 2 * i).toNat) 3 (g ((17 + 2 * i).toNat) 3)) ((183 + 2 * i).toNat) 4 (g ((17 + 2 * i).toNat) 4)) o := by first | exact h | (rw [cup_at] at h; exact h) | ((repeat rw [cup_ne (by omega)] at h); exact h)
  have h := zm zy_61 h 2 (q := (49, dset (dset lf 1 (4, 17 + 2 * i)) 0 (4, 183 + 2 * i), [(4, 17 + 2 * i)], cup (cup (cup (cup (cup (cup g ((183 + 2 * i).toNat) 0 (g ((17 + 2 * i).toNat) 0)) ((183 + 2 * i).toNat) 1 (g ((17 + 2 * i).toNat) 1)) ((183 + 2 * i).toNat) 2 (g ((17 + 2 * i).toNat) 2)) ((183 + 2 * i).toNat) 3 (g ((17 + 2 * i).toNat) 3)) ((183 + 2 * i).toNat) 4 (g ((17 + 2 * i).toNat) 4)) ((183 + 2 * i).toNat) 5 (g ((17 + 2 * i).toNat) 5))) rfl
  dsimp only at h
  have h := zgf zy_61 h rfl rfl (dvf_17_6 hi0 hi6)
  have h := zm zy_61 h 2 (q := (54, dset (dset lf 1 (4, 17 + 2 * i)) 0 (4, 183 + 2 * i), [(4, 183 + 2 * i), (0, 0), (4, 18 + 2 * i)], cup (cup (cup (cup (cup (cup g ((183 + 2 * i).toNat) 0 (g ((17 + 2 * i).toNat) 0)) ((183 + 2 * i).toNat) 1 (g ((17 + 2 * i).toNat) 1)) ((183 + 2 * i).toNat) 2 (g ((17 + 2 * i).toNat) 2)) ((183 + 2 * i).toNat) 3 (g ((17 + 2 * i).toNat) 3)) ((183 + 2 * i).toNat) 4 (g ((17 + 2 * i).toNat) 4)) ((183 + 2 * i).toNat) 5 (g ((17 + 2 * i).toNat) 5))) rfl
  dsimp only at h
  have h := zgf zy_61 h rfl rfl (dvf_183_6 hi0 hi6)
  have h := zm zy_61 h 3 (q := (63, dset (dset lf 1 (4, 17 + 2 * i)) 0 (4, 183 + 2 * i), [], ccp (cup (cup (cup (cup (cup (cup g ((183 + 2 * i).toNat) 0 (g ((17 + 2 * i).toNat) 0)) ((183 + 2 * i).toNat) 1 (g ((17 + 2 * i).toNat) 1)) ((183 + 2 * i).toNat) 2 (g ((17 + 2 * i).toNat) 2)) ((183 + 2 * i).toNat) 3 (g ((17 + 2 * i).toNat) 3)) ((183 + 2 * i).toNat) 4 (g ((17 + 2 * i).toNat) 4)) ((183 + 2 * i).toNat) 5 (g ((17 + 2 * i).toNat) 5)) ((18 + 2 * i).toNat) ((184 + 2 * i).toNat) 0 0 8)) rfl
  dsimp only at h
  exact zret zy_61 h rfl rfl
theorem c_oath_169_3 {sv : Nat → Int32} {L n : Nat} {lf : dlf} {g : cg} {o : cg × Option cv} {i : Int} (hi0 : 0 ≤ i) (hi16 : i < 16) (h : zr sv L n 62 0 lf [] g o) (h0 : lf 0 = (4, 195 + i)) (h1 : lf 1 = (4, 29 + i)) : o = (cup (cup (cup (cup (cup (cup (cup (cup g ((195 + i).toNat) 0 (g ((29 + i).toNat) 0)) ((195 + i).toNat) 1 (g ((29 + i).toNat) 1)) ((195 + i).toNat) 2 (g ((29 + i).toNat) 2)) ((195 + i).toNat) 3 (g ((29 + i).toNat) 3)) ((195 + i).toNat) 4 (g ((29 + i).toNat) 4)) ((195 + i).toNat) 5 (g ((29 + i).toNat) 5)) ((195 + i).toNat) 6 (g ((29 + i).toNat) 6)) ((195 + i).toNat) 7 (g ((29 + i).toNat) 7), none) := by
  rw [zov h0, zov h1] at h
  have h := zm zy_62 h 2 (q := (2, dset (dset lf 1 (4, 29 + i)) 0 (4, 195 + i), [(4, 29 + i), (4, 195 + i)], g)) rfl
  dsimp only at h
  have h := zgf zy_62 h rfl rfl (dvf_29_0 hi0 hi16)
  have h : zr sv L n 62 5 (dset (dset lf 1 (4, 29 + i)) 0 (4, 195 + i)) [(0, g ((29 + i).toNat) 0), (4, 195 + i)] (g) o := by first | exact h | (rw [cup_at] at h; exact h) | ((repeat rw [cup_ne (by omega)] at h); exact h)
  have h := zm zy_62 h 3 (q := (10, dset (dset lf 1 (4, 29 + i)) 0 (4, 195 + i), [(4, 29 + i), (4, 195 + i)], cup g ((195 + i).toNat) 0 (g ((29 + i).toNat) 0))) rfl
  dsimp only at h
  have h := zgf zy_62 h rfl rfl (dvf_29_1 hi0 hi16)
  have h : zr sv L n 62 13 (dset (dset lf 1 (4, 29 + i)) 0 (4, 195 + i)) [(0, g ((29 + i).toNat) 1), (4, 195 + i)] (cup g ((195 + i).toNat) 0 (g ((29 + i).toNat) 0)) o := by first | exact h | (rw [cup_at] at h; exact h) | ((repeat rw [cup_ne (by omega)] at h); exact h)
  have h := zm zy_62 h 3 (q := (18, dset (dset lf 1 (4, 29 + i)) 0 (4, 195 + i), [(4, 29 + i), (4, 195 + i)], cup (cup g ((195 + i).toNat) 0 (g ((29 + i).toNat) 0)) ((195 + i).toNat) 1 (g ((29 + i).toNat) 1))) rfl
  dsimp only at h
  have h := zgf zy_62 h rfl rfl (dvf_29_2 hi0 hi16)
  have h : zr sv L n 62 21 (dset (dset lf 1 (4, 29 + i)) 0 (4, 195 + i)) [(0, g ((29 + i).toNat) 2), (4, 195 + i)] (cup (cup g ((195 + i).toNat) 0 (g ((29 + i).toNat) 0)) ((195 + i).toNat) 1 (g ((29 + i).toNat) 1)) o := by first | exact h | (rw [cup_at] at h; exact h) | ((repeat rw [cup_ne (by omega)] at h); exact h)
  have h := zm zy_62 h 3 (q := (26, dset (dset lf 1 (4, 29 + i)) 0 (4, 195 + i), [(4, 29 + i), (4, 195 + i)], cup (cup (cup g ((195 + i).toNat) 0 (g ((29 + i).toNat) 0)) ((195 + i).toNat) 1 (g ((29 + i).toNat) 1)) ((195 + i).toNat) 2 (g ((29 + i).toNat) 2))) rfl
  dsimp only at h
  have h := zgf zy_62 h rfl rfl (dvf_29_3 hi0 hi16)
  have h : zr sv L n 62 29 (dset (dset lf 1 (4, 29 + i)) 0 (4, 195 + i)) [(0, g ((29 + i).toNat) 3), (4, 195 + i)] (cup (cup (cup g ((195 + i).toNat) 0 (g ((29 + i).toNat) 0)) ((195 + i).toNat) 1 (g ((29 + i).toNat) 1)) ((195 + i).toNat) 2 (g ((29 + i).toNat) 2)) o := by first | exact h | (rw [cup_at] at h; exact h) | ((repeat rw [cup_ne (by omega)] at h); exact h)
  have h := zm zy_62 h 3 (q := (34, dset (dset lf 1 (4, 29 + i)) 0 (4, 195 + i), [(4, 29 + i), (4, 195 + i)], cup (cup (cup (cup g ((195 + i).toNat) 0 (g ((29 + i).toNat) 0)) ((195 + i).toNat) 1 (g ((29 + i).toNat) 1)) ((195 + i).toNat) 2 (g ((29 + i).toNat) 2)) ((195 + i).toNat) 3 (g ((29 + i).toNat) 3))) rfl
  dsimp only at h
  have h := zgf zy_62 h rfl rfl (dvf_29_4 hi0 hi16)
  have h : zr sv L n 62 37 (dset (dset lf 1 (4, 29 + i)) 0 (4, 195 + i)) [(0, g ((29 + i).toNat) 4), (4, 195 + i)] (cup (cup (cup (cup g ((195 + i).toNat) 0 (g ((29 + i).toNat) 0)) ((195 + i).toNat) 1 (g ((29 + i).toNat) 1)) ((195 + i).toNat) 2 (g ((29 + i).toNat) 2)) ((195 + i).toNat) 3 (g ((29 + i).toNat) 3)) o := by first | exact h | (rw [cup_at] at h; exact h) | ((repeat rw [cup_ne (by omega)] at h); exact h)
  have h := zm zy_62 h 3 (q := (42, dset (dset lf 1 (4, 29 + i)) 0 (4, 195 + i), [(4, 29 + i), (4, 195 + i)], cup (cup (cup (cup (cup g ((195 + i).toNat) 0 (g ((29 + i).toNat) 0)) ((195 + i).toNat) 1 (g ((29 + i).toNat) 1)) ((195 + i).toNat) 2 (g ((29 + i).toNat) 2)) ((195 + i).toNat) 3 (g ((29 + i).toNat) 3)) ((195 + i).toNat) 4 (g ((29 + i).toNat) 4))) rfl
  dsimp only at h
  have h := zgf zy_62 h rfl rfl (dvf_29_5 hi0 hi16)
  have h : zr sv L n 62 45 (dset (dset lf 1 (4, 29 + i)) 0 (4, 195 + i)) [(0, g ((29 + i).toNat) 5), (4, 195 + i)] (cup (cup (cup (cup (cup g ((195 + i).toNat) 0 (g ((29 + i).toNat) 0)) ((195 + i).toNat) 1 (g ((29 + i).toNat) 1)) ((195 + i).toNat) 2 (g ((29 + i).toNat) 2)) ((195 + i).toNat) 3 (g ((29 + i).toNat) 3)) ((195 + i).toNat) 4 (g ((29 + i).toNat) 4)) o := by first | exact h | (rw [cup_at] at h; exact h) | ((repeat rw [cup_ne (by omega)] at h); exact h)
  have h := zm zy_62 h 3 (q := (50, dset (dset lf 1 (4, 29 + i)) 0 (4, 195 + i), [(4, 29 + i), (4, 195 + i)], cup (cup (cup (cup (cup (cup g ((195 + i).toNat) 0 (g ((29 + i).toNat) 0)) ((195 + i).toNat) 1 (g ((29 + i).toNat) 1)) ((195 + i).toNat) 2 (g ((29 + i).toNat) 2)) ((195 + i).toNat) 3 (g ((29 + i).toNat) 3)) ((195 + i).toNat) 4 (g ((29 + i).toNat) 4)) ((195 + i).toNat) 5 (g ((29 + i).toNat) 5))) rfl
  dsimp only at h
  have h := zgf zy_62 h rfl rfl (dvf_29_6 hi0 hi16)
  have h : zr sv L n 62 53 (dset (dset lf 1 (4, 29 + i)) 0 (4, 195 + i)) [(0, g ((29 + i).toNat) 6), (4, 195 + i)] (cup (cup (cup (cup (cup (cup g ((195 + i).toNat) 0 (g ((29 + i).toNat) 0)) ((195 + i).toNat) 1 (g ((29 + i).toNat) 1)) ((195 + i).toNat) 2 (g ((29 + i).toNat) 2)) ((195 + i).toNat) 3 (g ((29 + i).toNat) 3)) ((195 + i).toNat) 4 (g ((29 + i).toNat) 4)) ((195 + i).toNat) 5 (g ((29 + i).toNat) 5)) o := by first | exact h | (rw [cup_at] at h; exact h) | ((repeat rw [cup_ne (by omega)] at h); exact h)
  have h := zm zy_62 h 3 (q := (58, dset (dset lf 1 (4, 29 + i)) 0 (4, 195 + i), [(4, 29 + i), (4, 195 + i)], cup (cup (cup (cup (cup (cup (cup g ((195 + i).toNat) 0 (g ((29 + i).toNat) 0)) ((195 + i).toNat) 1 (g ((29 + i).toNat) 1)) ((195 + i).toNat) 2 (g ((29 + i).toNat) 2)) ((195 + i).toNat) 3 (g ((29 + i).toNat) 3)) ((195 + i).toNat) 4 (g ((29 + i).toNat) 4)) ((195 + i).toNat) 5 (g ((29 + i).toNat) 5)) ((195 + i).toNat) 6 (g ((29 + i).toNat) 6))) rfl
  dsimp only at h
  have h := zgf zy_62 h rfl rfl (dvf_29_7 hi0 hi16)
  have h : zr sv L n 62 61 (dset (dset lf 1 (4, 29 + i)) 0 (4, 195 + i)) [(0, g ((29 + i).toNat) 7), (4, 195 + i)] (cup (cup (cup (cup (cup (cup (cup g ((195 + i).toNat) 0 (g ((29 + i).toNat) 0)) ((195 + i).toNat) 1 (g ((29 + i).toNat) 1)) ((195 + i).toNat) 2 (g ((29 + i).toNat) 2)) ((195 + i).toNat) 3 (g ((29 + i).toNat) 3)) ((195 + i).toNat) 4 (g ((29 + i).toNat) 4)) ((195 + i).toNat) 5 (g ((29 + i).toNat) 5)) ((195 + i).toNat) 6 (g ((29 + i).toNat) 6)) o := by first | exact h | (rw [cup_at] at h; exact h) | ((repeat rw [cup_ne (by omega)] at h); exact h)
  have h := zm zy_62 h 1 (q := (64, dset (dset lf 1 (4, 29 + i)) 0 (4, 195 + i), [], cup (cup (cup (cup (cup (cup (cup (cup g ((195 + i).toNat) 0 (g ((29 + i).toNat) 0)) ((195 + i).toNat) 1 (g ((29 + i).toNat) 1)) ((195 + i).toNat) 2 (g ((29 + i).toNat) 2)) ((195 + i).toNat) 3 (g ((29 + i).toNat) 3)) ((195 + i).toNat) 4 (g ((29 + i).toNat) 4)) ((195 + i).toNat) 5 (g ((29 + i).toNat) 5)) ((195 + i).toNat) 6 (g ((29 + i).toNat) 6)) ((195 + i).toNat) 7 (g ((29 + i).toNat) 7))) rfl
  dsimp only at h
  exact zret zy_62 h rfl rfl
theorem c_tri_169_3 {sv : Nat → Int32} {L n : Nat} {lf : dlf} {g : cg} {o : cg × Option cv} (h : zr sv L n 63 0 lf [] g o) (h0 : lf 0 = (4, 174)) (h1 : lf 1 = (4, 8)) : o = (ccp (ccp (ccp (ccp (ccp (ccp (ccp (ccp (cup (cup (cup g 174 0 (g 8 0)) 174 1 (g 8 1)) 174 2 (g 8 2)) 9 175 0 0 ((g 8 2).toNat)) 10 176 0 0 ((g 8 2).toNat)) 11 177 0 0 ((g 8 2).toNat)) 12 178 0 0 ((g 8 2).toNat)) 13 179 0 0 ((g 8 2).toNat)) 14 180 0 0 ((g 8 2).toNat)) 15 181 0 0 ((g 8 2).toNat)) 16 182 0 0 ((g 8 2).toNat), none) := by
  rw [zov h0, zov h1] at h
  have h := zm zy_63 h 84 (q := (160, dset (dset lf 1 (4, 8)) 0 (4, 174), [], ccp (ccp (ccp (ccp (ccp (ccp (ccp (ccp (cup (cup (cup g 174 0 (g 8 0)) 174 1 (g 8 1)) 174 2 (g 8 2)) 9 175 0 0 ((g 8 2).toNat)) 10 176 0 0 ((g 8 2).toNat)) 11 177 0 0 ((g 8 2).toNat)) 12 178 0 0 ((g 8 2).toNat)) 13 179 0 0 ((g 8 2).toNat)) 14 180 0 0 ((g 8 2).toNat)) 15 181 0 0 ((g 8 2).toNat)) 16 182 0 0 ((g 8 2).toNat))) rfl
  dsimp only at h
  exact zret zy_63 h rfl rfl
theorem c_all_211_3 {sv : Nat → Int32} {L n : Nat} {lf : dlf} {g : cg} {o : cg × Option cv} (h : zr sv L n 59 0 lf [] g o) (h0 : lf 0 = (4, 211)) (h1 : lf 1 = (4, 3)) : ∃ g1, zr sv L n 60 0 (darg 0 [(4, 211), (4, 3)]) [] g (g1, none) ∧ (∃ g2, zr sv L n 63 0 (darg 0 [(4, 216), (4, 8)]) [] g1 (g2, none) ∧ (o = (g2, none))) := by
  rw [zov h0, zov h1] at h
  have h := zm zy_59 h 2 (q := (2, dset (dset lf 1 (4, 3)) 0 (4, 211), [(4, 3), (4, 211)], g)) rfl
  dsimp only at h
  obtain ⟨g1, hk, h⟩ := zcallV zy_59 h rfl rfl zy_60 zk_60
  dsimp only at hk h
  refine ⟨g1, hk, ?_⟩
  have h := zm zy_59 h 4 (q := (13, dset (dset lf 1 (4, 3)) 0 (4, 211), [(4, 8), (4, 216)], g1)) rfl
  dsimp only at h
  obtain ⟨g2, hk, h⟩ := zcallV zy_59 h rfl rfl zy_63 zk_63
  dsimp only at hk h
  refine ⟨g2, hk, ?_⟩
  exact zret zy_59 h rfl rfl
theorem c_case0_211_3 {sv : Nat → Int32} {L n : Nat} {lf : dlf} {g : cg} {o : cg × Option cv} (h : zr sv L n 60 0 lf [] g o) (h0 : lf 0 = (4, 211)) (h1 : lf 1 = (4, 3)) : ∃ lf'1, lf'1 0 = (4, 211) ∧ lf'1 1 = (4, 3) ∧ lf'1 2 = (0, 0) ∧ zr sv L n 60 86 lf'1 [] (ccp (ccp (cup (cup (cup (cup (cup (cup (cup g 211 0 (g 3 0)) 211 3 (g 3 3)) 211 5 (g 3 5)) 211 6 (g 3 6)) 211 7 (g 3 7)) 211 8 (g 3 8)) 211 9 (g 3 9)) 4 212 0 0 5) 5 213 0 0 5) o := by
  rw [zov h0, zov h1] at h
  have h := zm zy_60 h 46 (q := (86, dset (dset (dset lf 1 (4, 3)) 0 (4, 211)) 2 (0, 0), [], ccp (ccp (cup (cup (cup (cup (cup (cup (cup g 211 0 (g 3 0)) 211 3 (g 3 3)) 211 5 (g 3 5)) 211 6 (g 3 6)) 211 7 (g 3 7)) 211 8 (g 3 8)) 211 9 (g 3 9)) 4 212 0 0 5) 5 213 0 0 5)) rfl
  dsimp only at h
  exact ⟨_, rfl, rfl, rfl, h⟩
theorem c_case86_211_3 {sv : Nat → Int32} {L n : Nat} {lf : dlf} {g : cg} {o : cg × Option cv} {b : Int} (h : zr sv L (n + 1) 60 86 lf [] g o) (h0 : lf 0 = (4, 211)) (h1 : lf 1 = (4, 3)) (h2 : lf 2 = (0, b)) : (g 211 3 ≤ b ∧ (∃ lf'2, lf'2 0 = (4, 211) ∧ lf'2 1 = (4, 3) ∧ lf'2 2 = (0, 0) ∧ zr sv L n 60 123 lf'2 [] g o)) ∨ (b < g 211 3 ∧ ((6 ≤ b ∧ (∃ lf'4, lf'4 0 = (4, 211) ∧ lf'4 1 = (4, 3) ∧ lf'4 2 = (0, 0) ∧ zr sv L n 60 123 lf'4 [] g o)) ∨ (b < 6 ∧ (0 ≤ b → b < 6 → (∃ g7, zr sv L n 61 0 (darg 0 [(4, 225 + 2 * b), (4, 17 + 2 * b)]) [] g (g7, none) ∧ (∃ lf'8, lf'8 0 = (4, 211) ∧ lf'8 1 = (4, 3) ∧ lf'8 2 = (0, w32 (b + 1)) ∧ zr sv L n 60 86 lf'8 [] g7 o)))))) := by
  rw [zov h0, zov h1, zov h2] at h
  have h := zm1 zy_60 h 3 (q := (cond (crel .ge b (g 211 3)) 121 94, dset (dset (dset lf 2 (0, b)) 1 (4, 3)) 0 (4, 211), [], g)) rfl
  dsimp only at h
  rcases zif_ge h with ⟨hc1, h⟩ | ⟨hc1, h⟩
  · refine Or.inl ⟨hc1, ?_⟩
    have h := zm zy_60 h 2 (q := (123, dset (dset (dset (dset lf 2 (0, b)) 1 (4, 3)) 0 (4, 211)) 2 (0, 0), [], g)) rfl
    dsimp only at h
    exact ⟨_, rfl, rfl, rfl, h⟩
  · refine Or.inr ⟨hc1, ?_⟩
    have h := zm zy_60 h 3 (q := (cond (crel .ge b 6) 121 100, dset (dset (dset lf 2 (0, b)) 1 (4, 3)) 0 (4, 211), [], g)) rfl
    dsimp only at h
    rcases zif_ge h with ⟨hc3, h⟩ | ⟨hc3, h⟩
    · refine Or.inl ⟨hc3, ?_⟩
      have h := zm zy_60 h 2 (q := (123, dset (dset (dset (dset lf 2 (0, b)) 1 (4, 3)) 0 (4, 211)) 2 (0, 0), [], g)) rfl
      dsimp only at h
      exact ⟨_, rfl, rfl, rfl, h⟩
    · refine Or.inr ⟨hc3, ?_⟩
      intro ha5 hb6
      have h := zm zy_60 h 3 (q := (105, dset (dset (dset lf 2 (0, b)) 1 (4, 3)) 0 (4, 211), [(0, b), (4, 214)], g)) rfl
      dsimp only at h
      have h := zald zy_60 h rfl rfl (dvp_214 ha5 hb6)
      have h := zm zy_60 h 3 (q := (111, dset (dset (dset lf 2 (0, b)) 1 (4, 3)) 0 (4, 211), [(0, b), (4, 6), (4, 225 + 2 * b)], g)) rfl
      dsimp only at h
      have h := zald zy_60 h rfl rfl (dvp_6 ha5 hb6)
      obtain ⟨g7, hk, h⟩ := zcallV zy_60 h rfl rfl zy_61 zk_61
      dsimp only at hk h
      refine ⟨g7, hk, ?_⟩
      have h := zm zy_60 h 2 (q := (86, dset (dset (dset (dset lf 2 (0, b)) 1 (4, 3)) 0 (4, 211)) 2 (0, w32 (b + 1)), [], g7)) rfl
      dsimp only at h
      exact ⟨_, rfl, rfl, rfl, h⟩
theorem c_case123_211_3 {sv : Nat → Int32} {L n : Nat} {lf : dlf} {g : cg} {o : cg × Option cv} {b : Int} (h : zr sv L (n + 1) 60 123 lf [] g o) (h0 : lf 0 = (4, 211)) (h1 : lf 1 = (4, 3)) (h2 : lf 2 = (0, b)) : (g 211 9 ≤ b ∧ (o = (g, none))) ∨ (b < g 211 9 ∧ ((16 ≤ b ∧ (o = (g, none))) ∨ (b < 16 ∧ (0 ≤ b → b < 16 → (∃ g5, zr sv L n 62 0 (darg 0 [(4, 237 + b), (4, 29 + b)]) [] g (g5, none) ∧ (∃ lf'6, lf'6 0 = (4, 211) ∧ lf'6 1 = (4, 3) ∧ lf'6 2 = (0, w32 (b + 1)) ∧ zr sv L n 60 123 lf'6 [] g5 o)))))) := by
  rw [zov h0, zov h1, zov h2] at h
  have h := zm1 zy_60 h 3 (q := (cond (crel .ge b (g 211 9)) 158 131, dset (dset (dset lf 2 (0, b)) 1 (4, 3)) 0 (4, 211), [], g)) rfl
  dsimp only at h
  rcases zif_ge h with ⟨hc1, h⟩ | ⟨hc1, h⟩
  · refine Or.inl ⟨hc1, ?_⟩
    exact zret zy_60 h rfl rfl
  · refine Or.inr ⟨hc1, ?_⟩
    have h := zm zy_60 h 3 (q := (cond (crel .ge b 16) 158 137, dset (dset (dset lf 2 (0, b)) 1 (4, 3)) 0 (4, 211), [], g)) rfl
    dsimp only at h
    rcases zif_ge h with ⟨hc2, h⟩ | ⟨hc2, h⟩
    · refine Or.inl ⟨hc2, ?_⟩
      exact zret zy_60 h rfl rfl
    · refine Or.inr ⟨hc2, ?_⟩
      intro ha3 hb4
      have h := zm zy_60 h 3 (q := (142, dset (dset (dset lf 2 (0, b)) 1 (4, 3)) 0 (4, 211), [(0, b), (4, 215)], g)) rfl
      dsimp only at h
      have h := zald zy_60 h rfl rfl (dvp_215 ha3 hb4)
      have h := zm zy_60 h 3 (q := (148, dset (dset (dset lf 2 (0, b)) 1 (4, 3)) 0 (4, 211), [(0, b), (4, 7), (4, 237 + b)], g)) rfl
      dsimp only at h
      have h := zald zy_60 h rfl rfl (dvp_7 ha3 hb4)
      obtain ⟨g5, hk, h⟩ := zcallV zy_60 h rfl rfl zy_62 zk_62
      dsimp only at hk h
      refine ⟨g5, hk, ?_⟩
      have h := zm zy_60 h 2 (q := (123, dset (dset (dset (dset lf 2 (0, b)) 1 (4, 3)) 0 (4, 211)) 2 (0, w32 (b + 1)), [], g5)) rfl
      dsimp only at h
      exact ⟨_, rfl, rfl, rfl, h⟩
theorem c_per_211_3 {sv : Nat → Int32} {L n : Nat} {lf : dlf} {g : cg} {o : cg × Option cv} {i : Int} (hi0 : 0 ≤ i) (hi6 : i < 6) (h : zr sv L n 61 0 lf [] g o) (h0 : lf 0 = (4, 225 + 2 * i)) (h1 : lf 1 = (4, 17 + 2 * i)) : o = (ccp (cup (cup (cup (cup (cup (cup g ((225 + 2 * i).toNat) 0 (g ((17 + 2 * i).toNat) 0)) ((225 + 2 * i).toNat) 1 (g ((17 + 2 * i).toNat) 1)) ((225 + 2 * i).toNat) 2 (g ((17 + 2 * i).toNat) 2)) ((225 + 2 * i).toNat) 3 (g ((17 + 2 * i).toNat) 3)) ((225 + 2 * i).toNat) 4 (g ((17 + 2 * i).toNat) 4)) ((225 + 2 * i).toNat) 5 (g ((17 + 2 * i).toNat) 5)) ((18 + 2 * i).toNat) ((226 + 2 * i).toNat) 0 0 8, none) := by
  rw [zov h0, zov h1] at h
  have h := zm zy_61 h 2 (q := (2, dset (dset lf 1 (4, 17 + 2 * i)) 0 (4, 225 + 2 * i), [(4, 17 + 2 * i), (4, 225 + 2 * i)], g)) rfl
  dsimp only at h
  have h := zgf zy_61 h rfl rfl (dvf_17_0 hi0 hi6)
  have h : zr sv L n 61 5 (dset (dset lf 1 (4, 17 + 2 * i)) 0 (4, 225 + 2 * i)) [(2, g ((17 + 2 * i).toNat) 0), (4, 225 + 2 * i)] (g) o := by first | exact h | (rw [cup_at] at h; exact h) | ((repeat rw [cup_ne (by omega)] at h); exact h)
  have h := zm zy_61 h 3 (q := (10, dset (dset lf 1 (4, 17 + 2 * i)) 0 (4, 225 + 2 * i), [(4, 17 + 2 * i), (4, 225 + 2 * i)], cup g ((225 + 2 * i).toNat) 0 (g ((17 + 2 * i).toNat) 0))) rfl
  dsimp only at h
  have h := zgf zy_61 h rfl rfl (dvf_17_1 hi0 hi6)
  have h : zr sv L n 61 13 (dset (dset lf 1 (4, 17 + 2 * i)) 0 (4, 225 + 2 * i)) [(0, g ((17 + 2 * i).toNat) 1), (4, 225 + 2 * i)] (cup g ((225 + 2 * i).toNat) 0 (g ((17 + 2 * i).toNat) 0)) o := by first | exact h | (rw [cup_at] at h; exact h) | ((repeat rw [cup_ne (by omega)] at h); exact h)
  have h := zm zy_61 h 3 (q := (18, dset (dset lf 1 (4, 17 + 2 * i)) 0 (4, 225 + 2 * i), [(4, 17 + 2 * i), (4, 225 + 2 * i)], cup (cup g ((225 + 2 * i).toNat) 0 (g ((17 + 2 * i).toNat) 0)) ((225 + 2 * i).toNat) 1 (g ((17 + 2 * i).toNat) 1))) rfl
  dsimp only at h
  have h := zgf zy_61 h rfl rfl (dvf_17_2 hi0 hi6)
  have h : zr sv L n 61 21 (dset (dset lf 1 (4, 17 + 2 * i)) 0 (4, 225 + 2 * i)) [(0, g ((17 + 2 * i).toNat) 2), (4, 225 + 2 * i)] (cup (cup g ((225 + 2 * i).toNat) 0 (g ((17 + 2 * i).toNat) 0)) ((225 + 2 * i).toNat) 1 (g ((17 + 2 * i).toNat) 1)) o := by first | exact h | (rw [cup_at] at h; exact h) | ((repeat rw [cup_ne (by omega)] at h); exact h)
  have h := zm zy_61 h 3 (q := (26, dset (dset lf 1 (4, 17 + 2 * i)) 0 (4, 225 + 2 * i), [(4, 17 + 2 * i), (4, 225 + 2 * i)], cup (cup (cup g ((225 + 2 * i).toNat) 0 (g ((17 + 2 * i).toNat) 0)) ((225 + 2 * i).toNat) 1 (g ((17 + 2 * i).toNat) 1)) ((225 + 2 * i).toNat) 2 (g ((17 + 2 * i).toNat) 2))) rfl
  dsimp only at h
  have h := zgf zy_61 h rfl rfl (dvf_17_3 hi0 hi6)
  have h : zr sv L n 61 29 (dset (dset lf 1 (4, 17 + 2 * i)) 0 (4, 225 + 2 * i)) [(0, g ((17 + 2 * i).toNat) 3), (4, 225 + 2 * i)] (cup (cup (cup g ((225 + 2 * i).toNat) 0 (g ((17 + 2 * i).toNat) 0)) ((225 + 2 * i).toNat) 1 (g ((17 + 2 * i).toNat) 1)) ((225 + 2 * i).toNat) 2 (g ((17 + 2 * i).toNat) 2)) o := by first | exact h | (rw [cup_at] at h; exact h) | ((repeat rw [cup_ne (by omega)] at h); exact h)
  have h := zm zy_61 h 3 (q := (34, dset (dset lf 1 (4, 17 + 2 * i)) 0 (4, 225 + 2 * i), [(4, 17 + 2 * i), (4, 225 + 2 * i)], cup (cup (cup (cup g ((225 + 2 * i).toNat) 0 (g ((17 + 2 * i).toNat) 0)) ((225 + 2 * i).toNat) 1 (g ((17 + 2 * i).toNat) 1)) ((225 + 2 * i).toNat) 2 (g ((17 + 2 * i).toNat) 2)) ((225 + 2 * i).toNat) 3 (g ((17 + 2 * i).toNat) 3))) rfl
  dsimp only at h
  have h := zgf zy_61 h rfl rfl (dvf_17_4 hi0 hi6)
  have h : zr sv L n 61 37 (dset (dset lf 1 (4, 17 + 2 * i)) 0 (4, 225 + 2 * i)) [(0, g ((17 + 2 * i).toNat) 4), (4, 225 + 2 * i)] (cup (cup (cup (cup g ((225 + 2 * i).toNat) 0 (g ((17 + 2 * i).toNat) 0)) ((225 + 2 * i).toNat) 1 (g ((17 + 2 * i).toNat) 1)) ((225 + 2 * i).toNat) 2 (g ((17 + 2 * i).toNat) 2)) ((225 + 2 * i).toNat) 3 (g ((17 + 2 * i).toNat) 3)) o := by first | exact h | (rw [cup_at] at h; exact h) | ((repeat rw [cup_ne (by omega)] at h); exact h)
  have h := zm zy_61 h 3 (q := (42, dset (dset lf 1 (4, 17 + 2 * i)) 0 (4, 225 + 2 * i), [(4, 17 + 2 * i), (4, 225 + 2 * i)], cup (cup (cup (cup (cup g ((225 + 2 * i).toNat) 0 (g ((17 + 2 * i).toNat) 0)) ((225 + 2 * i).toNat) 1 (g ((17 + 2 * i).toNat) 1)) ((225 + 2 * i).toNat) 2 (g ((17 + 2 * i).toNat) 2)) ((225 + 2 * i).toNat) 3 (g ((17 + 2 * i).toNat) 3)) ((225 + 2 * i).toNat) 4 (g ((17 + 2 * i).toNat) 4))) rfl
  dsimp only at h
  have h := zgf zy_61 h rfl rfl (dvf_17_5 hi0 hi6)
  have h : zr sv L n 61 45 (dset (dset lf 1 (4, 17 + 2 * i)) 0 (4, 225 + 2 * i)) [(0, g ((17 + 2 * i).toNat) 5), (4, 225 + 2 * i)] (cup (cup (cup (cup (cup g ((225 + 2 * i).toNat) 0 (g ((17 + 2 * i).toNat) 0)) ((225 + 2 * i).toNat) 1 (g ((17 + 2 * i).toNat) 1)) ((225 + 2 * i).toNat) 2 (g ((17 + 2 * i).toNat) 2)) ((225 + 2 * i).toNat) 3 (g ((17 + 2 * i).toNat) 3)) ((225 + 2 * i).toNat) 4 (g ((17 + 2 * i).toNat) 4)) o := by first | exact h | (rw [cup_at] at h; exact h) | ((repeat rw [cup_ne (by omega)] at h); exact h)
  have h := zm zy_61 h 2 (q := (49, dset (dset lf 1 (4, 17 + 2 * i)) 0 (4, 225 + 2 * i), [(4, 17 + 2 * i)], cup (cup (cup (cup (cup (cup g ((225 + 2 * i).toNat) 0 (g ((17 + 2 * i).toNat) 0)) ((225 + 2 * i).toNat) 1 (g ((17 + 2 * i).toNat) 1)) ((225 + 2 * i).toNat) 2 (g ((17 + 2 * i).toNat) 2)) ((225 + 2 * i).toNat) 3 (g ((17 + 2 * i).toNat) 3)) ((225 + 2 * i).toNat) 4 (g ((17 + 2 * i).toNat) 4)) ((225 + 2 * i).toNat) 5 (g ((17 + 2 * i).toNat) 5))) rfl
  dsimp only at h
  have h := zgf zy_61 h rfl rfl (dvf_17_6 hi0 hi6)
  have h := zm zy_61 h 2 (q := (54, dset (dset lf 1 (4, 17 + 2 * i)) 0 (4, 225 + 2 * i), [(4, 225 + 2 * i), (0, 0), (4, 18 + 2 * i)], cup (cup (cup (cup (cup (cup g ((225 + 2 * i).toNat) 0 (g ((17 + 2 * i).toNat) 0)) ((225 + 2 * i).toNat) 1 (g ((17 + 2 * i).toNat) 1)) ((225 + 2 * i).toNat) 2 (g ((17 + 2 * i).toNat) 2)) ((225 + 2 * i).toNat) 3 (g ((17 + 2 * i).toNat) 3)) ((225 + 2 * i).toNat) 4 (g ((17 + 2 * i).toNat) 4)) ((225 + 2 * i).toNat) 5 (g ((17 + 2 * i).toNat) 5))) rfl
  dsimp only at h
  have h := zgf zy_61 h rfl rfl (dvf_225_6 hi0 hi6)
  have h := zm zy_61 h 3 (q := (63, dset (dset lf 1 (4, 17 + 2 * i)) 0 (4, 225 + 2 * i), [], ccp (cup (cup (cup (cup (cup (cup g ((225 + 2 * i).toNat) 0 (g ((17 + 2 * i).toNat) 0)) ((225 + 2 * i).toNat) 1 (g ((17 + 2 * i).toNat) 1)) ((225 + 2 * i).toNat) 2 (g ((17 + 2 * i).toNat) 2)) ((225 + 2 * i).toNat) 3 (g ((17 + 2 * i).toNat) 3)) ((225 + 2 * i).toNat) 4 (g ((17 + 2 * i).toNat) 4)) ((225 + 2 * i).toNat) 5 (g ((17 + 2 * i).toNat) 5)) ((18 + 2 * i).toNat) ((226 + 2 * i).toNat) 0 0 8)) rfl
  dsimp only at h
  exact zret zy_61 h rfl rfl
theorem c_oath_211_3 {sv : Nat → Int32} {L n : Nat} {lf : dlf} {g : cg} {o : cg × Option cv} {i : Int} (hi0 : 0 ≤ i) (hi16 : i < 16) (h : zr sv L n 62 0 lf [] g o) (h0 : lf 0 = (4, 237 + i)) (h1 : lf 1 = (4, 29 + i)) : o = (cup (cup (cup (cup (cup (cup (cup (cup g ((237 + i).toNat) 0 (g ((29 + i).toNat) 0)) ((237 + i).toNat) 1 (g ((29 + i).toNat) 1)) ((237 + i).toNat) 2 (g ((29 + i).toNat) 2)) ((237 + i).toNat) 3 (g ((29 + i).toNat) 3)) ((237 + i).toNat) 4 (g ((29 + i).toNat) 4)) ((237 + i).toNat) 5 (g ((29 + i).toNat) 5)) ((237 + i).toNat) 6 (g ((29 + i).toNat) 6)) ((237 + i).toNat) 7 (g ((29 + i).toNat) 7), none) := by
  rw [zov h0, zov h1] at h
  have h := zm zy_62 h 2 (q := (2, dset (dset lf 1 (4, 29 + i)) 0 (4, 237 + i), [(4, 29 + i), (4, 237 + i)], g)) rfl
  dsimp only at h
  have h := zgf zy_62 h rfl rfl (dvf_29_0 hi0 hi16)
  have h : zr sv L n 62 5 (dset (dset lf 1 (4, 29 + i)) 0 (4, 237 + i)) [(0, g ((29 + i).toNat) 0), (4, 237 + i)] (g) o := by first | exact h | (rw [cup_at] at h; exact h) | ((repeat rw [cup_ne (by omega)] at h); exact h)
  have h := zm zy_62 h 3 (q := (10, dset (dset lf 1 (4, 29 + i)) 0 (4, 237 + i), [(4, 29 + i), (4, 237 + i)], cup g ((237 + i).toNat) 0 (g ((29 + i).toNat) 0))) rfl
  dsimp only at h
  have h := zgf zy_62 h rfl rfl (dvf_29_1 hi0 hi16)
  have h : zr sv L n 62 13 (dset (dset lf 1 (4, 29 + i)) 0 (4, 237 + i)) [(0, g ((29 + i).toNat) 1), (4, 237 + i)] (cup g ((237 + i).toNat) 0 (g ((29 + i).toNat) 0)) o := by first | exact h | (rw [cup_at] at h; exact h) | ((repeat rw [cup_ne (by omega)] at h); exact h)
  have h := zm zy_62 h 3 (q := (18, dset (dset lf 1 (4, 29 + i)) 0 (4, 237 + i), [(4, 29 + i), (4, 237 + i)], cup (cup g ((237 + i).toNat) 0 (g ((29 + i).toNat) 0)) ((237 + i).toNat) 1 (g ((29 + i).toNat) 1))) rfl
  dsimp only at h
  have h := zgf zy_62 h rfl rfl (dvf_29_2 hi0 hi16)
  have h : zr sv L n 62 21 (dset (dset lf 1 (4, 29 + i)) 0 (4, 237 + i)) [(0, g ((29 + i).toNat) 2), (4, 237 + i)] (cup (cup g ((237 + i).toNat) 0 (g ((29 + i).toNat) 0)) ((237 + i).toNat) 1 (g ((29 + i).toNat) 1)) o := by first | exact h | (rw [cup_at] at h; exact h) | ((repeat rw [cup_ne (by omega)] at h); exact h)
  have h := zm zy_62 h 3 (q := (26, dset (dset lf 1 (4, 29 + i)) 0 (4, 237 + i), [(4, 29 + i), (4, 237 + i)], cup (cup (cup g ((237 + i).toNat) 0 (g ((29 + i).toNat) 0)) ((237 + i).toNat) 1 (g ((29 + i).toNat) 1)) ((237 + i).toNat) 2 (g ((29 + i).toNat) 2))) rfl
  dsimp only at h
  have h := zgf zy_62 h rfl rfl (dvf_29_3 hi0 hi16)
  have h : zr sv L n 62 29 (dset (dset lf 1 (4, 29 + i)) 0 (4, 237 + i)) [(0, g ((29 + i).toNat) 3), (4, 237 + i)] (cup (cup (cup g ((237 + i).toNat) 0 (g ((29 + i).toNat) 0)) ((237 + i).toNat) 1 (g ((29 + i).toNat) 1)) ((237 + i).toNat) 2 (g ((29 + i).toNat) 2)) o := by first | exact h | (rw [cup_at] at h; exact h) | ((repeat rw [cup_ne (by omega)] at h); exact h)
  have h := zm zy_62 h 3 (q := (34, dset (dset lf 1 (4, 29 + i)) 0 (4, 237 + i), [(4, 29 + i), (4, 237 + i)], cup (cup (cup (cup g ((237 + i).toNat) 0 (g ((29 + i).toNat) 0)) ((237 + i).toNat) 1 (g ((29 + i).toNat) 1)) ((237 + i).toNat) 2 (g ((29 + i).toNat) 2)) ((237 + i).toNat) 3 (g ((29 + i).toNat) 3))) rfl
  dsimp only at h
  have h := zgf zy_62 h rfl rfl (dvf_29_4 hi0 hi16)
  have h : zr sv L n 62 37 (dset (dset lf 1 (4, 29 + i)) 0 (4, 237 + i)) [(0, g ((29 + i).toNat) 4), (4, 237 + i)] (cup (cup (cup (cup g ((237 + i).toNat) 0 (g ((29 + i).toNat) 0)) ((237 + i).toNat) 1 (g ((29 + i).toNat) 1)) ((237 + i).toNat) 2 (g ((29 + i).toNat) 2)) ((237 + i).toNat) 3 (g ((29 + i).toNat) 3)) o := by first | exact h | (rw [cup_at] at h; exact h) | ((repeat rw [cup_ne (by omega)] at h); exact h)
  have h := zm zy_62 h 3 (q := (42, dset (dset lf 1 (4, 29 + i)) 0 (4, 237 + i), [(4, 29 + i), (4, 237 + i)], cup (cup (cup (cup (cup g ((237 + i).toNat) 0 (g ((29 + i).toNat) 0)) ((237 + i).toNat) 1 (g ((29 + i).toNat) 1)) ((237 + i).toNat) 2 (g ((29 + i).toNat) 2)) ((237 + i).toNat) 3 (g ((29 + i).toNat) 3)) ((237 + i).toNat) 4 (g ((29 + i).toNat) 4))) rfl
  dsimp only at h
  have h := zgf zy_62 h rfl rfl (dvf_29_5 hi0 hi16)
  have h : zr sv L n 62 45 (dset (dset lf 1 (4, 29 + i)) 0 (4, 237 + i)) [(0, g ((29 + i).toNat) 5), (4, 237 + i)] (cup (cup (cup (cup (cup g ((237 + i).toNat) 0 (g ((29 + i).toNat) 0)) ((237 + i).toNat) 1 (g ((29 + i).toNat) 1)) ((237 + i).toNat) 2 (g ((29 + i).toNat) 2)) ((237 + i).toNat) 3 (g ((29 + i).toNat) 3)) ((237 + i).toNat) 4 (g ((29 + i).toNat) 4)) o := by first | exact h | (rw [cup_at] at h; exact h) | ((repeat rw [cup_ne (by omega)] at h); exact h)
  have h := zm zy_62 h 3 (q := (50, dset (dset lf 1 (4, 29 + i)) 0 (4, 237 + i), [(4, 29 + i), (4, 237 + i)], cup (cup (cup (cup (cup (cup g ((237 + i).toNat) 0 (g ((29 + i).toNat) 0)) ((237 + i).toNat) 1 (g ((29 + i).toNat) 1)) ((237 + i).toNat) 2 (g ((29 + i).toNat) 2)) ((237 + i).toNat) 3 (g ((29 + i).toNat) 3)) ((237 + i).toNat) 4 (g ((29 + i).toNat) 4)) ((237 + i).toNat) 5 (g ((29 + i).toNat) 5))) rfl
  dsimp only at h
  have h := zgf zy_62 h rfl rfl (dvf_29_6 hi0 hi16)
  have h : zr sv L n 62 53 (dset (dset lf 1 (4, 29 + i)) 0 (4, 237 + i)) [(0, g ((29 + i).toNat) 6), (4, 237 + i)] (cup (cup (cup (cup (cup (cup g ((237 + i).toNat) 0 (g ((29 + i).toNat) 0)) ((237 + i).toNat) 1 (g ((29 + i).toNat) 1)) ((237 + i).toNat) 2 (g ((29 + i).toNat) 2)) ((237 + i).toNat) 3 (g ((29 + i).toNat) 3)) ((237 + i).toNat) 4 (g ((29 + i).toNat) 4)) ((237 + i).toNat) 5 (g ((29 + i).toNat) 5)) o := by first | exact h | (rw [cup_at] at h; exact h) | ((repeat rw [cup_ne (by omega)] at h); exact h)
  have h := zm zy_62 h 3 (q := (58, dset (dset lf 1 (4, 29 + i)) 0 (4, 237 + i), [(4, 29 + i), (4, 237 + i)], cup (cup (cup (cup (cup (cup (cup g ((237 + i).toNat) 0 (g ((29 + i).toNat) 0)) ((237 + i).toNat) 1 (g ((29 + i).toNat) 1)) ((237 + i).toNat) 2 (g ((29 + i).toNat) 2)) ((237 + i).toNat) 3 (g ((29 + i).toNat) 3)) ((237 + i).toNat) 4 (g ((29 + i).toNat) 4)) ((237 + i).toNat) 5 (g ((29 + i).toNat) 5)) ((237 + i).toNat) 6 (g ((29 + i).toNat) 6))) rfl
  dsimp only at h
  have h := zgf zy_62 h rfl rfl (dvf_29_7 hi0 hi16)
  have h : zr sv L n 62 61 (dset (dset lf 1 (4, 29 + i)) 0 (4, 237 + i)) [(0, g ((29 + i).toNat) 7), (4, 237 + i)] (cup (cup (cup (cup (cup (cup (cup g ((237 + i).toNat) 0 (g ((29 + i).toNat) 0)) ((237 + i).toNat) 1 (g ((29 + i).toNat) 1)) ((237 + i).toNat) 2 (g ((29 + i).toNat) 2)) ((237 + i).toNat) 3 (g ((29 + i).toNat) 3)) ((237 + i).toNat) 4 (g ((29 + i).toNat) 4)) ((237 + i).toNat) 5 (g ((29 + i).toNat) 5)) ((237 + i).toNat) 6 (g ((29 + i).toNat) 6)) o := by first | exact h | (rw [cup_at] at h; exact h) | ((repeat rw [cup_ne (by omega)] at h); exact h)
  have h := zm zy_62 h 1 (q := (64, dset (dset lf 1 (4, 29 + i)) 0 (4, 237 + i), [], cup (cup (cup (cup (cup (cup (cup (cup g ((237 + i).toNat) 0 (g ((29 + i).toNat) 0)) ((237 + i).toNat) 1 (g ((29 + i).toNat) 1)) ((237 + i).toNat) 2 (g ((29 + i).toNat) 2)) ((237 + i).toNat) 3 (g ((29 + i).toNat) 3)) ((237 + i).toNat) 4 (g ((29 + i).toNat) 4)) ((237 + i).toNat) 5 (g ((29 + i).toNat) 5)) ((237 + i).toNat) 6 (g ((29 + i).toNat) 6)) ((237 + i).toNat) 7 (g ((29 + i).toNat) 7))) rfl
  dsimp only at h
  exact zret zy_62 h rfl rfl
theorem c_tri_211_3 {sv : Nat → Int32} {L n : Nat} {lf : dlf} {g : cg} {o : cg × Option cv} (h : zr sv L n 63 0 lf [] g o) (h0 : lf 0 = (4, 216)) (h1 : lf 1 = (4, 8)) : o = (ccp (ccp (ccp (ccp (ccp (ccp (ccp (ccp (cup (cup (cup g 216 0 (g 8 0)) 216 1 (g 8 1)) 216 2 (g 8 2)) 9 217 0 0 ((g 8 2).toNat)) 10 218 0 0 ((g 8 2).toNat)) 11 219 0 0 ((g 8 2).toNat)) 12 220 0 0 ((g 8 2).toNat)) 13 221 0 0 ((g 8 2).toNat)) 14 222 0 0 ((g 8 2).toNat)) 15 223 0 0 ((g 8 2).toNat)) 16 224 0 0 ((g 8 2).toNat), none) := by
  rw [zov h0, zov h1] at h
  have h := zm zy_63 h 84 (q := (160, dset (dset lf 1 (4, 8)) 0 (4, 216), [], ccp (ccp (ccp (ccp (ccp (ccp (ccp (ccp (cup (cup (cup g 216 0 (g 8 0)) 216 1 (g 8 1)) 216 2 (g 8 2)) 9 217 0 0 ((g 8 2).toNat)) 10 218 0 0 ((g 8 2).toNat)) 11 219 0 0 ((g 8 2).toNat)) 12 220 0 0 ((g 8 2).toNat)) 13 221 0 0 ((g 8 2).toNat)) 14 222 0 0 ((g 8 2).toNat)) 15 223 0 0 ((g 8 2).toNat)) 16 224 0 0 ((g 8 2).toNat))) rfl
  dsimp only at h
  exact zret zy_63 h rfl rfl
theorem c_all_3_127 {sv : Nat → Int32} {L n : Nat} {lf : dlf} {g : cg} {o : cg × Option cv} (h : zr sv L n 59 0 lf [] g o) (h0 : lf 0 = (4, 3)) (h1 : lf 1 = (4, 127)) : ∃ g1, zr sv L n 60 0 (darg 0 [(4, 3), (4, 127)]) [] g (g1, none) ∧ (∃ g2, zr sv L n 63 0 (darg 0 [(4, 8), (4, 132)]) [] g1 (g2, none) ∧ (o = (g2, none))) := by
  rw [zov h0, zov h1] at h
  have h := zm zy_59 h 2 (q := (2, dset (dset lf 1 (4, 127)) 0 (4, 3), [(4, 127), (4, 3)], g)) rfl
  dsimp only at h
  obtain ⟨g1, hk, h⟩ := zcallV zy_59 h rfl rfl zy_60 zk_60
  dsimp only at hk h
  refine ⟨g1, hk, ?_⟩
  have h := zm zy_59 h 4 (q := (13, dset (dset lf 1 (4, 127)) 0 (4, 3), [(4, 132), (4, 8)], g1)) rfl
  dsimp only at h
  obtain ⟨g2, hk, h⟩ := zcallV zy_59 h rfl rfl zy_63 zk_63
  dsimp only at hk h
  refine ⟨g2, hk, ?_⟩
  exact zret zy_59 h rfl rfl
theorem c_case0_3_127 {sv : Nat → Int32} {L n : Nat} {lf : dlf} {g : cg} {o : cg × Option cv} (h : zr sv L n 60 0 lf [] g o) (h0 : lf 0 = (4, 3)) (h1 : lf 1 = (4, 127)) : ∃ lf'1, lf'1 0 = (4, 3) ∧ lf'1 1 = (4, 127) ∧ lf'1 2 = (0, 0) ∧ zr sv L n 60 86 lf'1 [] (ccp (ccp (cup (cup (cup (cup (cup (cup (cup g 3 0 (g 127 0)) 3 3 (g 127 3)) 3 5 (g 127 5)) 3 6 (g 127 6)) 3 7 (g 127 7)) 3 8 (g 127 8)) 3 9 (g 127 9)) 128 4 0 0 5) 129 5 0 0 5) o := by
  rw [zov h0, zov h1] at h
  have h := zm zy_60 h 46 (q := (86, dset (dset (dset lf 1 (4, 127)) 0 (4, 3)) 2 (0, 0), [], ccp (ccp (cup (cup (cup (cup (cup (cup (cup g 3 0 (g 127 0)) 3 3 (g 127 3)) 3 5 (g 127 5)) 3 6 (g 127 6)) 3 7 (g 127 7)) 3 8 (g 127 8)) 3 9 (g 127 9)) 128 4 0 0 5) 129 5 0 0 5)) rfl
  dsimp only at h
  exact ⟨_, rfl, rfl, rfl, h⟩
theorem c_case86_3_127 {sv : Nat → Int32} {L n : Nat} {lf : dlf} {g : cg} {o : cg × Option cv} {b : Int} (h : zr sv L (n + 1) 60 86 lf [] g o) (h0 : lf 0 = (4, 3)) (h1 : lf 1 = (4, 127)) (h2 : lf 2 = (0, b)) : (g 3 3 ≤ b ∧ (∃ lf'2, lf'2 0 = (4, 3) ∧ lf'2 1 = (4, 127) ∧ lf'2 2 = (0, 0) ∧ zr sv L n 60 123 lf'2 [] g o)) ∨ (b < g 3 3 ∧ ((6 ≤ b ∧ (∃ lf'4, lf'4 0 = (4, 3) ∧ lf'4 1 = (4, 127) ∧ lf'4 2 = (0, 0) ∧ zr sv L n 60 123 lf'4 [] g o)) ∨ (b < 6 ∧ (0 ≤ b → b < 6 → (∃ g7, zr sv L n 61 0 (darg 0 [(4, 17 + 2 * b), (4, 141 + 2 * b)]) [] g (g7, none) ∧ (∃ lf'8, lf'8 0 = (4, 3) ∧ lf'8 1 = (4, 127) ∧ lf'8 2 = (0, w32 (b + 1)) ∧ zr sv L n 60 86 lf'8 [] g7 o)))))) := by
  rw [zov h0, zov h1, zov h2] at h
  have h := zm1 zy_60 h 3 (q := (cond (crel .ge b (g 3 3)) 121 94, dset (dset (dset lf 2 (0, b)) 1 (4, 127)) 0 (4, 3), [], g)) rfl
  dsimp only at h
  rcases zif_ge h with ⟨hc1, h⟩ | ⟨hc1, h⟩
  · refine Or.inl ⟨hc1, ?_⟩
    have h := zm zy_60 h 2 (q := (123, dset (dset (dset (dset lf 2 (0, b)) 1 (4, 127)) 0 (4, 3)) 2 (0, 0), [], g)) rfl
    dsimp only at h
    exact ⟨_, rfl, rfl, rfl, h⟩
  · refine Or.inr ⟨hc1, ?_⟩
    have h := zm zy_60 h 3 (q := (cond (crel .ge b 6) 121 100, dset (dset (dset lf 2 (0, b)) 1 (4, 127)) 0 (4, 3), [], g)) rfl
    dsimp only at h
    rcases zif_ge h with ⟨hc3, h⟩ | ⟨hc3, h⟩
    · refine Or.inl ⟨hc3, ?_⟩
      have h := zm zy_60 h 2 (q := (123, dset (dset (dset (dset lf 2 (0, b)) 1 (4, 127)) 0 (4, 3)) 2 (0, 0), [], g)) rfl
      dsimp only at h
      exact ⟨_, rfl, rfl, rfl, h⟩
    · refine Or.inr ⟨hc3, ?_⟩
      intro ha5 hb6
      have h := zm zy_60 h 3 (q := (105, dset (dset (dset lf 2 (0, b)) 1 (4, 127)) 0 (4, 3), [(0, b), (4, 6)], g)) rfl
      dsimp only at h
      have h := zald zy_60 h rfl rfl (dvp_6 ha5 hb6)
      have h := zm zy_60 h 3 (q := (111, dset (dset (dset lf 2 (0, b)) 1 (4, 127)) 0 (4, 3), [(0, b), (4, 130), (4, 17 + 2 * b)], g)) rfl
      dsimp only at h
      have h := zald zy_60 h rfl rfl (dvp_130 ha5 hb6)
      obtain ⟨g7, hk, h⟩ := zcallV zy_60 h rfl rfl zy_61 zk_61
      dsimp only at hk h
      refine ⟨g7, hk, ?_⟩
      have h := zm zy_60 h 2 (q := (86, dset (dset (dset (dset lf 2 (0, b)) 1 (4, 127)) 0 (4, 3)) 2 (0, w32 (b + 1)), [], g7)) rfl
      dsimp only at h
      exact ⟨_, rfl, rfl, rfl, h⟩
theorem c_case123_3_127 {sv : Nat → Int32} {L n : Nat} {lf : dlf} {g : cg} {o : cg × Option cv} {b : Int} (h : zr sv L (n + 1) 60 123 lf [] g o) (h0 : lf 0 = (4, 3)) (h1 : lf 1 = (4, 127)) (h2 : lf 2 = (0, b)) : (g 3 9 ≤ b ∧ (o = (g, none))) ∨ (b < g 3 9 ∧ ((16 ≤ b ∧ (o = (g, none))) ∨ (b < 16 ∧ (0 ≤ b → b < 16 → (∃ g5, zr sv L n 62 0 (darg 0 [(4, 29 + b), (4, 153 + b)]) [] g (g5, none) ∧ (∃ lf'6, lf'6 0 = (4, 3) ∧ lf'6 1 = (4, 127) ∧ lf'6 2 = (0, w32 (b + 1)) ∧ zr sv L n 60 123 lf'6 [] g5 o)))))) := by
  rw [zov h0, zov h1, zov h2] at h
  have h := zm1 zy_60 h 3 (q := (cond (crel .ge b (g 3 9)) 158 131, dset (dset (dset lf 2 (0, b)) 1 (4, 127)) 0 (4, 3), [], g)) rfl
  dsimp only at h
  rcases zif_ge h with ⟨hc1, h⟩ | ⟨hc1, h⟩
  · refine Or.inl ⟨hc1, ?_⟩
    exact zret zy_60 h rfl rfl
  · refine Or.inr ⟨hc1, ?_⟩
    have h := zm zy_60 h 3 (q := (cond (crel .ge b 16) 158 137, dset (dset (dset lf 2 (0, b)) 1 (4, 127)) 0 (4, 3), [], g)) rfl
    dsimp only at h
    rcases zif_ge h with ⟨hc2, h⟩ | ⟨hc2, h⟩
    · refine Or.inl ⟨hc2, ?_⟩
      exact zret zy_60 h rfl rfl
    · refine Or.inr ⟨hc2, ?_⟩
      intro ha3 hb4
      have h := zm zy_60 h 3 (q := (142, dset (dset (dset lf 2 (0, b)) 1 (4, 127)) 0 (4, 3), [(0, b), (4, 7)], g)) rfl
      dsimp only at h
      have h := zald zy_60 h rfl rfl (dvp_7 ha3 hb4)
      have h := zm zy_60 h 3 (q := (148, dset (dset (dset lf 2 (0, b)) 1 (4, 127)) 0 (4, 3), [(0, b), (4, 131), (4, 29 + b)], g)) rfl
      dsimp only at h
      have h := zald zy_60 h rfl rfl (dvp_131 ha3 hb4)
      obtain ⟨g5, hk, h⟩ := zcallV zy_60 h rfl rfl zy_62 zk_62
      dsimp only at hk h
      refine ⟨g5, hk, ?_⟩
      have h := zm zy_60 h 2 (q := (123, dset (dset (dset (dset lf 2 (0, b)) 1 (4, 127)) 0 (4, 3)) 2 (0, w32 (b + 1)), [], g5)) rfl
      dsimp only at h
      exact ⟨_, rfl, rfl, rfl, h⟩
theorem c_per_3_127 {sv : Nat → Int32} {L n : Nat} {lf : dlf} {g : cg} {o : cg × Option cv} {i : Int} (hi0 : 0 ≤ i) (hi6 : i < 6) (h : zr sv L n 61 0 lf [] g o) (h0 : lf 0 = (4, 17 + 2 * i)) (h1 : lf 1 = (4, 141 + 2 * i)) : o = (ccp (cup (cup (cup (cup (cup (cup g ((17 + 2 * i).toNat) 0 (g ((141 + 2 * i).toNat) 0)) ((17 + 2 * i).toNat) 1 (g ((141 + 2 * i).toNat) 1)) ((17 + 2 * i).toNat) 2 (g ((141 + 2 * i).toNat) 2)) ((17 + 2 * i).toNat) 3 (g ((141 + 2 * i).toNat) 3)) ((17 + 2 * i).toNat) 4 (g ((141 + 2 * i).toNat) 4)) ((17 + 2 * i).toNat) 5 (g ((141 + 2 * i).toNat) 5)) ((142 + 2 * i).toNat) ((18 + 2 * i).toNat) 0 0 8, none) := by
  rw [zov h0, zov h1] at h
  have h := zm zy_61 h 2 (q := (2, dset (dset lf 1 (4, 141 + 2 * i)) 0 (4, 17 + 2 * i), [(4, 141 + 2 * i), (4, 17 + 2 * i)], g)) rfl
  dsimp only at h
  have h := zgf zy_61 h rfl rfl (dvf_141_0 hi0 hi6)
  have h : zr sv L n 61 5 (dset (dset lf 1 (4, 141 + 2 * i)) 0 (4, 17 + 2 * i)) [(2, g ((141 + 2 * i).toNat) 0), (4, 17 + 2 * i)] (g) o := by first | exact h | (rw [cup_at] at h; exact h) | ((repeat rw [cup_ne (by omega)] at h); exact h)
  have h := zm zy_61 h 3 (q := (10, dset (dset lf 1 (4, 141 + 2 * i)) 0 (4, 17 + 2 * i), [(4, 141 + 2 * i), (4, 17 + 2 * i)], cup g ((17 + 2 * i).toNat) 0 (g ((141 + 2 * i).toNat) 0))) rfl
  dsimp only at h
  have h := zgf zy_61 h rfl rfl (dvf_141_1 hi0 hi6)
  have h : zr sv L n 61 13 (dset (dset lf 1 (4, 141 + 2 * i)) 0 (4, 17 + 2 * i)) [(0, g ((141 + 2 * i).toNat) 1), (4, 17 + 2 * i)] (cup g ((17 + 2 * i).toNat) 0 (g ((141 + 2 * i).toNat) 0)) o := by first | exact h | (rw [cup_at] at h; exact h) | ((repeat rw [cup_ne (by omega)] at h); exact h)
  have h := zm zy_61 h 3 (q := (18, dset (dset lf 1 (4, 141 + 2 * i)) 0 (4, 17 + 2 * i), [(4, 141 + 2 * i), (4, 17 + 2 * i)], cup (cup g ((17 + 2 * i).toNat) 0 (g ((141 + 2 * i).toNat) 0)) ((17 + 2 * i).toNat) 1 (g ((141 + 2 * i).toNat) 1))) rfl
  dsimp only at h
  have h := zgf zy_61 h rfl rfl (dvf_141_2 hi0 hi6)
  have h : zr sv L n 61 21 (dset (dset lf 1 (4, 141 + 2 * i)) 0 (4, 17 + 2 * i)) [(0, g ((141 + 2 * i).toNat) 2), (4, 17 + 2 * i)] (cup (cup g ((17 + 2 * i).toNat) 0 (g ((141 + 2 * i).toNat) 0)) ((17 + 2 * i).toNat) 1 (g ((141 + 2 * i).toNat) 1)) o := by first | exact h | (rw [cup_at] at h; exact h) | ((repeat rw [cup_ne (by omega)] at h); exact h)
  have h := zm zy_61 h 3 (q := (26, dset (dset lf 1 (4, 141 + 2 * i)) 0 (4, 17 + 2 * i), [(4, 141 + 2 * i), (4, 17 + 2 * i)], cup (cup (cup g ((17 + 2 * i).toNat) 0 (g ((141 + 2 * i).toNat) 0)) ((17 + 2 * i).toNat) 1 (g ((141 + 2 * i).toNat) 1)) ((17 + 2 * i).toNat) 2 (g ((141 + 2 * i).toNat) 2))) rfl
  dsimp only at h
  have h := zgf zy_61 h rfl rfl (dvf_141_3 hi0 hi6)
  have h : zr sv L n 61 29 (dset (dset lf 1 (4, 141 + 2 * i)) 0 (4, 17 + 2 * i)) [(0, g ((141 + 2 * i).toNat) 3), (4, 17 + 2 * i)] (cup (cup (cup g ((17 + 2 * i).toNat) 0 (g ((141 + 2 * i).toNat) 0)) ((17 + 2 * i).toNat) 1 (g ((141 + 2 * i).toNat) 1)) ((17 + 2 * i).toNat) 2 (g ((141 + 2 * i).toNat) 2)) o := by first | exact h | (rw [cup_at] at h; exact h) | ((repeat rw [cup_ne (by omega)] at h); exact h)
  have h := zm zy_61 h 3 (q := (34, dset (dset lf 1 (4, 141 + 2 * i)) 0 (4, 17 + 2 * i), [(4, 141 + 2 * i), (4, 17 + 2 * i)], cup (cup (cup (cup g ((17 + 2 * i).toNat) 0 (g ((141 + 2 * i).toNat) 0)) ((17 + 2 * i).toNat) 1 (g ((141 + 2 * i).toNat) 1)) ((17 + 2 * i).toNat) 2 (g ((141 + 2 * i).toNat) 2)) ((17 + 2 * i).toNat) 3 (g ((141 + 2 * i).toNat) 3))) rfl
  dsimp only at h
  have h := zgf zy_61 h rfl rfl (dvf_141_4 hi0 hi6)
  have h : zr sv L n 61 37 (dset (dset lf 1 (4, 141 + 2 * i)) 0 (4, 17 + 2 * i)) [(0, g ((141 + 2 * i).toNat) 4), (4, 17 + 2 * i)] (cup (cup (cup (cup g ((17 + 2 * i).toNat) 0 (g ((141 + 2 * i).toNat) 0)) ((17 + 2 * i).toNat) 1 (g ((141 + 2 * i).toNat) 1)) ((17 + 2 * i).toNat) 2 (g ((141 + 2 * i).toNat) 2)) ((17 + 2 * i).toNat) 3 (g ((141 + 2 * i).toNat) 3)) o := by first | exact h | (rw [cup_at] at h; exact h) | ((repeat rw [cup_ne (by omega)] at h); exact h)
  have h := zm zy_61 h 3 (q := (42, dset (dset lf 1 (4, 141 + 2 * i)) 0 (4, 17 + 2 * i), [(4, 141 + 2 * i), (4, 17 + 2 * i)], cup (cup (cup (cup (cup g ((17 + 2 * i).toNat) 0 (g ((141 + 2 * i).toNat) 0)) ((17 + 2 * i).toNat) 1 (g ((141 + 2 * i).toNat) 1)) ((17 + 2 * i).toNat) 2 (g ((141 + 2 * i).toNat) 2)) ((17 + 2 * i).toNat) 3 (g ((141 + 2 * i).toNat) 3)) ((17 + 2 * i).toNat) 4 (g ((141 + 2 * i).toNat) 4))) rfl
  dsimp only at h
  have h := zgf zy_61 h rfl rfl (dvf_141_5 hi0 hi6)
  have h : zr sv L n 61 45 (dset (dset lf 1 (4, 141 + 2 * i)) 0 (4, 17 + 2 * i)) [(0, g ((141 + 2 * i).toNat) 5), (4, 17 + 2 * i)] (cup (cup (cup (cup (cup g ((17 + 2 * i).toNat) 0 (g ((141 + 2 * i).toNat) 0)) ((17 + 2 * i).toNat) 1 (g ((141 + 2 * i).toNat) 1)) ((17 + 2 * i).toNat) 2 (g ((141 + 2 * i).toNat) 2)) ((17 + 2 * i).toNat) 3 (g ((141 + 2 * i).toNat) 3)) ((17 + 2 * i).toNat) 4 (g ((141 + 2 * i).toNat) 4)) o := by first | exact h | (rw [cup_at] at h; exact h) | ((repeat rw [cup_ne (by omega)] at h); exact h)
  have h := zm zy_61 h 2 (q := (49, dset (dset lf 1 (4, 141 + 2 * i)) 0 (4, 17 + 2 * i), [(4, 141 + 2 * i)], cup (cup (cup (cup (cup (cup g ((17 + 2 * i).toNat) 0 (g ((141 + 2 * i).toNat) 0)) ((17 + 2 * i).toNat) 1 (g ((141 + 2 * i).toNat) 1)) ((17 + 2 * i).toNat) 2 (g ((141 + 2 * i).toNat) 2)) ((17 + 2 * i).toNat) 3 (g ((141 + 2 * i).toNat) 3)) ((17 + 2 * i).toNat) 4 (g ((141 + 2 * i).toNat) 4)) ((17 + 2 * i).toNat) 5 (g ((141 + 2 * i).toNat) 5))) rfl
  dsimp only at h
  have h := zgf zy_61 h rfl rfl (dvf_141_6 hi0 hi6)
  have h := zm zy_61 h 2 (q := (54, dset (dset lf 1 (4, 141 + 2 * i)) 0 (4, 17 + 2 * i), [(4, 17 + 2 * i), (0, 0), (4, 142 + 2 * i)], cup (cup (cup (cup (cup (cup g ((17 + 2 * i).toNat) 0 (g ((141 + 2 * i).toNat) 0)) ((17 + 2 * i).toNat) 1 (g ((141 + 2 * i).toNat) 1)) ((17 + 2 * i).toNat) 2 (g ((141 + 2 * i).toNat) 2)) ((17 + 2 * i).toNat) 3 (g ((141 + 2 * i).toNat) 3)) ((17 + 2 * i).toNat) 4 (g ((141 + 2 * i).toNat) 4)) ((17 + 2 * i).toNat) 5 (g ((141 + 2 * i).toNat) 5))) rfl
  dsimp only at h
  have h := zgf zy_61 h rfl rfl (dvf_17_6 hi0 hi6)
  have h := zm zy_61 h 3 (q := (63, dset (dset lf 1 (4, 141 + 2 * i)) 0 (4, 17 + 2 * i), [], ccp (cup (cup (cup (cup (cup (cup g ((17 + 2 * i).toNat) 0 (g ((141 + 2 * i).toNat) 0)) ((17 + 2 * i).toNat) 1 (g ((141 + 2 * i).toNat) 1)) ((17 + 2 * i).toNat) 2 (g ((141 + 2 * i).toNat) 2)) ((17 + 2 * i).toNat) 3 (g ((141 + 2 * i).toNat) 3)) ((17 + 2 * i).toNat) 4 (g ((141 + 2 * i).toNat) 4)) ((17 + 2 * i).toNat) 5 (g ((141 + 2 * i).toNat) 5)) ((142 + 2 * i).toNat) ((18 + 2 * i).toNat) 0 0 8)) rfl
  dsimp only at h
  exact zret zy_61 h rfl rfl
theorem c_oath_3_127 {sv : Nat → Int32} {L n : Nat} {lf : dlf} {g : cg} {o : cg × Option cv} {i : Int} (hi0 : 0 ≤ i) (hi16 : i < 16) (h : zr sv L n 62 0 lf [] g o) (h0 : lf 0 = (4, 29 + i)) (h1 : lf 1 = (4, 153 + i)) : o = (cup (cup (cup (cup (cup (cup (cup (cup g ((29 + i).toNat) 0 (g ((153 + i).toNat) 0)) ((29 + i).toNat) 1 (g ((153 + i).toNat) 1)) ((29 + i).toNat) 2 (g ((153 + i).toNat) 2)) ((29 + i).toNat) 3 (g ((153 + i).toNat) 3)) ((29 + i).toNat) 4 (g ((153 + i).toNat) 4)) ((29 + i).toNat) 5 (g ((153 + i).toNat) 5)) ((29 + i).toNat) 6 (g ((153 + i).toNat) 6)) ((29 + i).toNat) 7 (g ((153 + i).toNat) 7), none) := by
  rw [zov h0, zov h1] at h
  have h := zm zy_62 h 2 (q := (2, dset (dset lf 1 (4, 153 + i)) 0 (4, 29 + i), [(4, 153 + i), (4, 29 + i)], g)) rfl
  dsimp only at h
  have h := zgf zy_62 h rfl rfl (dvf_153_0 hi0 hi16)
  have h : zr sv L n 62 5 (dset (dset lf 1 (4, 153 + i)) 0 (4, 29 + i)) [(0, g ((153 + i).toNat) 0), (4, 29 + i)] (g) o := by first | exact h | (rw [cup_at] at h; exact h) | ((repeat rw [cup_ne (by omega)] at h); exact h)
  have h := zm zy_62 h 3 (q := (10, dset (dset lf 1 (4, 153 + i)) 0 (4, 29 + i), [(4, 153 + i), (4, 29 + i)], cup g ((29 + i).toNat) 0 (g ((153 + i).toNat) 0))) rfl
  dsimp only at h
  have h := zgf zy_62 h rfl rfl (dvf_153_1 hi0 hi16)
  have h : zr sv L n 62 13 (dset (dset lf 1 (4, 153 + i)) 0 (4, 29 + i)) [(0, g ((153 + i).toNat) 1), (4, 29 + i)] (cup g ((29 + i).toNat) 0 (g ((153 + i).toNat) 0)) o := by first | exact h | (rw [cup_at] at h; exact h) | ((repeat rw [cup_ne (by omega)] at h); exact h)
  have h := zm zy_62 h 3 (q := (18, dset (dset lf 1 (4, 153 + i)) 0 (4, 29 + i), [(4, 153 + i), (4, 29 + i)], cup (cup g ((29 + i).toNat) 0 (g ((153 + i).toNat) 0)) ((29 + i).toNat) 1 (g ((153 + i).toNat) 1))) rfl
  dsimp only at h
  have h := zgf zy_62 h rfl rfl (dvf_153_2 hi0 hi16)
  have h : zr sv L n 62 21 (dset (dset lf 1 (4, 153 + i)) 0 (4, 29 + i)) [(0, g ((153 + i).toNat) 2), (4, 29 + i)] (cup (cup g ((29 + i).toNat) 0 (g ((153 + i).toNat) 0)) ((29 + i).toNat) 1 (g ((153 + i).toNat) 1)) o := by first | exact h | (rw [cup_at] at h; exact h) | ((repeat rw [cup_ne (by omega)] at h); exact h)
  have h := zm zy_62 h 3 (q := (26, dset (dset lf 1 (4, 153 + i)) 0 (4, 29 + i), [(4, 153 + i), (4, 29 + i)], cup (cup (cup g ((29 + i).toNat) 0 (g ((153 + i).toNat) 0)) ((29 + i).toNat) 1 (g ((153 + i).toNat) 1)) ((29 + i).toNat) 2 (g ((153 + i).toNat) 2))) rfl
  dsimp only at h
  have h := zgf zy_62 h rfl rfl (dvf_153_3 hi0 hi16)
  have h : zr sv L n 62 29 (dset (dset lf 1 (4, 153 + i)) 0 (4, 29 + i)) [(0, g ((153 + i).toNat) 3), (4, 29 + i)] (cup (cup (cup g ((29 + i).toNat) 0 (g ((153 + i).toNat) 0)) ((29 + i).toNat) 1 (g ((153 + i).toNat) 1)) ((29 + i).toNat) 2 (g ((153 + i).toNat) 2)) o := by first | exact h | (rw [cup_at] at h; exact h) | ((repeat rw [cup_ne (by omega)] at h); exact h)
  have h := zm zy_62 h 3 (q := (34, dset (dset lf 1 (4, 153 + i)) 0 (4, 29 + i), [(4, 153 + i), (4, 29 + i)], cup (cup (cup (cup g ((29 + i).toNat) 0 (g ((153 + i).toNat) 0)) ((29 + i).toNat) 1 (g ((153 + i).toNat) 1)) ((29 + i).toNat) 2 (g ((153 + i).toNat) 2)) ((29 + i).toNat) 3 (g ((153 + i).toNat) 3))) rfl
  dsimp only at h
  have h := zgf zy_62 h rfl rfl (dvf_153_4 hi0 hi16)
  have h : zr sv L n 62 37 (dset (dset lf 1 (4, 153 + i)) 0 (4, 29 + i)) [(0, g ((153 + i).toNat) 4), (4, 29 + i)] (cup (cup (cup (cup g ((29 + i).toNat) 0 (g ((153 + i).toNat) 0)) ((29 + i).toNat) 1 (g ((153 + i).toNat) 1)) ((29 + i).toNat) 2 (g ((153 + i).toNat) 2)) ((29 + i).toNat) 3 (g ((153 + i).toNat) 3)) o := by first | exact h | (rw [cup_at] at h; exact h) | ((repeat rw [cup_ne (by omega)] at h); exact h)
  have h := zm zy_62 h 3 (q := (42, dset (dset lf 1 (4, 153 + i)) 0 (4, 29 + i), [(4, 153 + i), (4, 29 + i)], cup (cup (cup (cup (cup g ((29 + i).toNat) 0 (g ((153 + i).toNat) 0)) ((29 + i).toNat) 1 (g ((153 + i).toNat) 1)) ((29 + i).toNat) 2 (g ((153 + i).toNat) 2)) ((29 + i).toNat) 3 (g ((153 + i).toNat) 3)) ((29 + i).toNat) 4 (g ((153 + i).toNat) 4))) rfl
  dsimp only at h
  have h := zgf zy_62 h rfl rfl (dvf_153_5 hi0 hi16)
  have h : zr sv L n 62 45 (dset (dset lf 1 (4, 153 + i)) 0 (4, 29 + i)) [(0, g ((153 + i).toNat) 5), (4, 29 + i)] (cup (cup (cup (cup (cup g ((29 + i).toNat) 0 (g ((153 + i).toNat) 0)) ((29 + i).toNat) 1 (g ((153 + i).toNat) 1)) ((29 + i).toNat) 2 (g ((153 + i).toNat) 2)) ((29 + i).toNat) 3 (g ((153 + i).toNat) 3)) ((29 + i).toNat) 4 (g ((153 + i).toNat) 4)) o := by first | exact h | (rw [cup_at] at h; exact h) | ((repeat rw [cup_ne (by omega)] at h); exact h)
  have h := zm zy_62 h 3 (q := (50, dset (dset lf 1 (4, 153 + i)) 0 (4, 29 + i), [(4, 153 + i), (4, 29 + i)], cup (cup (cup (cup (cup (cup g ((29 + i).toNat) 0 (g ((153 + i).toNat) 0)) ((29 + i).toNat) 1 (g ((153 + i).toNat) 1)) ((29 + i).toNat) 2 (g ((153 + i).toNat) 2)) ((29 + i).toNat) 3 (g ((153 + i).toNat) 3)) ((29 + i).toNat) 4 (g ((153 + i).toNat) 4)) ((29 + i).toNat) 5 (g ((153 + i).toNat) 5))) rfl
  dsimp only at h
  have h := zgf zy_62 h rfl rfl (dvf_153_6 hi0 hi16)
  have h : zr sv L n 62 53 (dset (dset lf 1 (4, 153 + i)) 0 (4, 29 + i)) [(0, g ((153 + i).toNat) 6), (4, 29 + i)] (cup (cup (cup (cup (cup (cup g ((29 + i).toNat) 0 (g ((153 + i).toNat) 0)) ((29 + i).toNat) 1 (g ((153 + i).toNat) 1)) ((29 + i).toNat) 2 (g ((153 + i).toNat) 2)) ((29 + i).toNat) 3 (g ((153 + i).toNat) 3)) ((29 + i).toNat) 4 (g ((153 + i).toNat) 4)) ((29 + i).toNat) 5 (g ((153 + i).toNat) 5)) o := by first | exact h | (rw [cup_at] at h; exact h) | ((repeat rw [cup_ne (by omega)] at h); exact h)
  have h := zm zy_62 h 3 (q := (58, dset (dset lf 1 (4, 153 + i)) 0 (4, 29 + i), [(4, 153 + i), (4, 29 + i)], cup (cup (cup (cup (cup (cup (cup g ((29 + i).toNat) 0 (g ((153 + i).toNat) 0)) ((29 + i).toNat) 1 (g ((153 + i).toNat) 1)) ((29 + i).toNat) 2 (g ((153 + i).toNat) 2)) ((29 + i).toNat) 3 (g ((153 + i).toNat) 3)) ((29 + i).toNat) 4 (g ((153 + i).toNat) 4)) ((29 + i).toNat) 5 (g ((153 + i).toNat) 5)) ((29 + i).toNat) 6 (g ((153 + i).toNat) 6))) rfl
  dsimp only at h
  have h := zgf zy_62 h rfl rfl (dvf_153_7 hi0 hi16)
  have h : zr sv L n 62 61 (dset (dset lf 1 (4, 153 + i)) 0 (4, 29 + i)) [(0, g ((153 + i).toNat) 7), (4, 29 + i)] (cup (cup (cup (cup (cup (cup (cup g ((29 + i).toNat) 0 (g ((153 + i).toNat) 0)) ((29 + i).toNat) 1 (g ((153 + i).toNat) 1)) ((29 + i).toNat) 2 (g ((153 + i).toNat) 2)) ((29 + i).toNat) 3 (g ((153 + i).toNat) 3)) ((29 + i).toNat) 4 (g ((153 + i).toNat) 4)) ((29 + i).toNat) 5 (g ((153 + i).toNat) 5)) ((29 + i).toNat) 6 (g ((153 + i).toNat) 6)) o := by first | exact h | (rw [cup_at] at h; exact h) | ((repeat rw [cup_ne (by omega)] at h); exact h)
  have h := zm zy_62 h 1 (q := (64, dset (dset lf 1 (4, 153 + i)) 0 (4, 29 + i), [], cup (cup (cup (cup (cup (cup (cup (cup g ((29 + i).toNat) 0 (g ((153 + i).toNat) 0)) ((29 + i).toNat) 1 (g ((153 + i).toNat) 1)) ((29 + i).toNat) 2 (g ((153 + i).toNat) 2)) ((29 + i).toNat) 3 (g ((153 + i).toNat) 3)) ((29 + i).toNat) 4 (g ((153 + i).toNat) 4)) ((29 + i).toNat) 5 (g ((153 + i).toNat) 5)) ((29 + i).toNat) 6 (g ((153 + i).toNat) 6)) ((29 + i).toNat) 7 (g ((153 + i).toNat) 7))) rfl
  dsimp only at h
  exact zret zy_62 h rfl rfl
theorem c_tri_3_127 {sv : Nat → Int32} {L n : Nat} {lf : dlf} {g : cg} {o : cg × Option cv} (h : zr sv L n 63 0 lf [] g o) (h0 : lf 0 = (4, 8)) (h1 : lf 1 = (4, 132)) : o = (ccp (ccp (ccp (ccp (ccp (ccp (ccp (ccp (cup (cup (cup g 8 0 (g 132 0)) 8 1 (g 132 1)) 8 2 (g 132 2)) 133 9 0 0 ((g 132 2).toNat)) 134 10 0 0 ((g 132 2).toNat)) 135 11 0 0 ((g 132 2).toNat)) 136 12 0 0 ((g 132 2).toNat)) 137 13 0 0 ((g 132 2).toNat)) 138 14 0 0 ((g 132 2).toNat)) 139 15 0 0 ((g 132 2).toNat)) 140 16 0 0 ((g 132 2).toNat), none) := by
  rw [zov h0, zov h1] at h
  have h := zm zy_63 h 84 (q := (160, dset (dset lf 1 (4, 132)) 0 (4, 8), [], ccp (ccp (ccp (ccp (ccp (ccp (ccp (ccp (cup (cup (cup g 8 0 (g 132 0)) 8 1 (g 132 1)) 8 2 (g 132 2)) 133 9 0 0 ((g 132 2).toNat)) 134 10 0 0 ((g 132 2).toNat)) 135 11 0 0 ((g 132 2).toNat)) 136 12 0 0 ((g 132 2).toNat)) 137 13 0 0 ((g 132 2).toNat)) 138 14 0 0 ((g 132 2).toNat)) 139 15 0 0 ((g 132 2).toNat)) 140 16 0 0 ((g 132 2).toNat))) rfl
  dsimp only at h
  exact zret zy_63 h rfl rfl
theorem c_all_3_169 {sv : Nat → Int32} {L n : Nat} {lf : dlf} {g : cg} {o : cg × Option cv} (h : zr sv L n 59 0 lf [] g o) (h0 : lf 0 = (4, 3)) (h1 : lf 1 = (4, 169)) : ∃ g1, zr sv L n 60 0 (darg 0 [(4, 3), (4, 169)]) [] g (g1, none) ∧ (∃ g2, zr sv L n 63 0 (darg 0 [(4, 8), (4, 174)]) [] g1 (g2, none) ∧ (o = (g2, none))) := by
  rw [zov h0, zov h1] at h
  have h := zm zy_59 h 2 (q := (2, dset (dset lf 1 (4, 169)) 0 (4, 3), [(4, 169), (4, 3)], g)) rfl
  dsimp only at h
  obtain ⟨g1, hk, h⟩ := zcallV zy_59 h rfl rfl zy_60 zk_60
  dsimp only at hk h
  refine ⟨g1, hk, ?_⟩
  have h := zm zy_59 h 4 (q := (13, dset (dset lf 1 (4, 169)) 0 (4, 3), [(4, 174), (4, 8)], g1)) rfl
  dsimp only at h
  obtain ⟨g2, hk, h⟩ := zcallV zy_59 h rfl rfl zy_63 zk_63
  dsimp only at hk h
  refine ⟨g2, hk, ?_⟩
  exact zret zy_59 h rfl rfl
theorem c_case0_3_169 {sv : Nat → Int32} {L n : Nat} {lf : dlf} {g : cg} {o : cg × Option cv} (h : zr sv L n 60 0 lf [] g o) (h0 : lf 0 = (4, 3)) (h1 : lf 1 = (4, 169)) : ∃ lf'1, lf'1 0 = (4, 3) ∧ lf'1 1 = (4, 169) ∧ lf'1 2 = (0, 0) ∧ zr sv L n 60 86 lf'1 [] (ccp (ccp (cup (cup (cup (cup (cup (cup (cup g 3 0 (g 169 0)) 3 3 (g 169 3)) 3 5 (g 169 5)) 3 6 (g 169 6)) 3 7 (g 169 7)) 3 8 (g 169 8)) 3 9 (g 169 9)) 170 4 0 0 5) 171 5 0 0 5) o := by
  rw [zov h0, zov h1] at h
  have h := zm zy_60 h 46 (q := (86, dset (dset (dset lf 1 (4, 169)) 0 (4, 3)) 2 (0, 0), [], ccp (ccp (cup (cup (cup (cup (cup (cup (cup g 3 0 (g 169 0)) 3 3 (g 169 3)) 3 5 (g 169 5)) 3 6 (g 169 6)) 3 7 (g 169 7)) 3 8 (g 169 8)) 3 9 (g 169 9)) 170 4 0 0 5) 171 5 0 0 5)) rfl
  dsimp only at h
  exact ⟨_, rfl, rfl, rfl, h⟩
theorem c_case86_3_169 {sv : Nat → Int32} {L n : Nat} {lf : dlf} {g : cg} {o : cg × Option cv} {b : Int} (h : zr sv L (n + 1) 60 86 lf [] g o) (h0 : lf 0 = (4, 3)) (h1 : lf 1 = (4, 169)) (h2 : lf 2 = (0, b)) : (g 3 3 ≤ b ∧ (∃ lf'2, lf'2 0 = (4, 3) ∧ lf'2 1 = (4, 169) ∧ lf'2 2 = (0, 0) ∧ zr sv L n 60 123 lf'2 [] g o)) ∨ (b < g 3 3 ∧ ((6 ≤ b ∧ (∃ lf'4, lf'4 0 = (4, 3) ∧ lf'4 1 = (4, 169) ∧ lf'4 2 = (0, 0) ∧ zr sv L n 60 123 lf'4 [] g o)) ∨ (b < 6 ∧ (0 ≤ b → b < 6 → (∃ g7, zr sv L n 61 0 (darg 0 [(4, 17 + 2 * b), (4, 183 + 2 * b)]) [] g (g7, none) ∧ (∃ lf'8, lf'8 0 = (4, 3) ∧ lf'8 1 = (4, 169) ∧ lf'8 2 = (0, w32 (b + 1)) ∧ zr sv L n 60 86 lf'8 [] g7 o)))))) := by
  rw [zov h0, zov h1, zov h2] at h
  have h := zm1 zy_60 h 3 (q := (cond (crel .ge b (g 3 3)) 121 94, dset (dset (dset lf 2 (0, b)) 1 (4, 169)) 0 (4, 3), [], g)) rfl
  dsimp only at h
  rcases zif_ge h with ⟨hc1, h⟩ | ⟨hc1, h⟩
  · refine Or.inl ⟨hc1, ?_⟩
    have h := zm zy_60 h 2 (q := (123, dset (dset (dset (dset lf 2 (0, b)) 1 (4, 169)) 0 (4, 3)) 2 (0, 0), [], g)) rfl
    dsimp only at h
    exact ⟨_, rfl, rfl, rfl, h⟩
  · refine Or.inr ⟨hc1, ?_⟩
    have h := zm zy_60 h 3 (q := (cond (crel .ge b 6) 121 100, dset (dset (dset lf 2 (0, b)) 1 (4, 169)) 0 (4, 3), [], g)) rfl
    dsimp only at h
    rcases zif_ge h with ⟨hc3, h⟩ | ⟨hc3, h⟩
    · refine Or.inl ⟨hc3, ?_⟩
      have h := zm zy_60 h 2 (q := (123, dset (dset (dset (dset lf 2 (0, b)) 1 (4, 169)) 0 (4, 3)) 2 (0, 0), [], g)) rfl
      dsimp only at h
      exact ⟨_, rfl, rfl, rfl, h⟩
    · refine Or.inr ⟨hc3, ?_⟩
      intro ha5 hb6
      have h := zm zy_60 h 3 (q := (105, dset (dset (dset lf 2 (0, b)) 1 (4, 169)) 0 (4, 3), [(0, b), (4, 6)], g)) rfl
      dsimp only at h
      have h := zald zy_60 h rfl rfl (dvp_6 ha5 hb6)
      have h := zm zy_60 h 3 (q := (111, dset (dset (dset lf 2 (0, b)) 1 (4, 169)) 0 (4, 3), [(0, b), (4, 172), (4, 17 + 2 * b)], g)) rfl
      dsimp only at h
      have h := zald zy_60 h rfl rfl (dvp_172 ha5 hb6)
      obtain ⟨g7, hk, h⟩ := zcallV zy_60 h rfl rfl zy_61 zk_61
      dsimp only at hk h
      refine ⟨g7, hk, ?_⟩
      have h := zm zy_60 h 2 (q := (86, dset (dset (dset (dset lf 2 (0, b)) 1 (4, 169)) 0 (4, 3)) 2 (0, w32 (b + 1)), [], g7)) rfl
      dsimp only at h
      exact ⟨_, rfl, rfl, rfl, h⟩
theorem c_case123_3_169 {sv : Nat → Int32} {L n : Nat} {lf : dlf} {g : cg} {o : cg × Option cv} {b : Int} (h : zr sv L (n + 1) 60 123 lf [] g o) (h0 : lf 0 = (4, 3)) (h1 : lf 1 = (4, 169)) (h2 : lf 2 = (0, b)) : (g 3 9 ≤ b ∧ (o = (g, none))) ∨ (b < g 3 9 ∧ ((16 ≤ b ∧ (o = (g, none))) ∨ (b < 16 ∧ (0 ≤ b → b < 16 → (∃ g5, zr sv L n 62 0 (darg 0 [(4, 29 + b), (4, 195 + b)]) [] g (g5, none) ∧ (∃ lf'6, lf'6 0 = (4, 3) ∧ lf'6 1 = (4, 169) ∧ lf'6 2 = (0, w32 (b + 1)) ∧ zr sv L n 60 123 lf'6 [] g5 o)))))) := by
  rw [zov h0, zov h1, zov h2] at h
  have h := zm1 zy_60 h 3 (q := (cond (crel .ge b (g 3 9)) 158 131, dset (dset (dset lf 2 (0, b)) 1 (4, 169)) 0 (4, 3), [], g)) rfl
  dsimp only at h
  rcases zif_ge h with ⟨hc1, h⟩ | ⟨hc1, h⟩
  · refine Or.inl ⟨hc1, ?_⟩
    exact zret zy_60 h rfl rfl
  · refine Or.inr ⟨hc1, ?_⟩
    have h := zm zy_60 h 3 (q := (cond (crel .ge b 16) 158 137, dset (dset (dset lf 2 (0, b)) 1 (4, 169)) 0 (4, 3), [], g)) rfl
    dsimp only at h
    rcases zif_ge h with ⟨hc2, h⟩ | ⟨hc2, h⟩
    · refine Or.inl ⟨hc2, ?_⟩
      exact zret zy_60 h rfl rfl
    · refine Or.inr ⟨hc2, ?_⟩
      intro ha3 hb4
      have h := zm zy_60 h 3 (q := (142, dset (dset (dset lf 2 (0, b)) 1 (4, 169)) 0 (4, 3), [(0, b), (4, 7)], g)) rfl
      dsimp only at h
      have h := zald zy_60 h rfl rfl (dvp_7 ha3 hb4)
      have h := zm zy_60 h 3 (q := (148, dset (dset (dset lf 2 (0, b)) 1 (4, 169)) 0 (4, 3), [(0, b), (4, 173), (4, 29 + b)], g)) rfl
      dsimp only at h
      have h := zald zy_60 h rfl rfl (dvp_173 ha3 hb4)
      obtain ⟨g5, hk, h⟩ := zcallV zy_60 h rfl rfl zy_62 zk_62
      dsimp only at hk h
      refine ⟨g5, hk, ?_⟩
      have h := zm zy_60 h 2 (q := (123, dset (dset (dset (dset lf 2 (0, b)) 1 (4, 169)) 0 (4, 3)) 2 (0, w32 (b + 1)), [], g5)) rfl
      dsimp only at h
      exact ⟨_, rfl, rfl, rfl, h⟩
theorem c_per_3_169 {sv : Nat → Int32} {L n : Nat} {lf : dlf} {g : cg} {o : cg × Option cv} {i : Int} (hi0 : 0 ≤ i) (hi6 : i < 6) (h : zr sv L n 61 0 lf [] g o) (h0 : lf 0 = (4, 17 + 2 * i)) (h1 : lf 1 = (4, 183 + 2 * i)) : o = (ccp (cup (cup (cup (cup (cup (cup g ((17 + 2 * i).toNat) 0 (g ((183 + 2 * i).toNat) 0)) ((17 + 2 * i).toNat) 1 (g ((183 + 2 * i).toNat) 1)) ((17 + 2 * i).toNat) 2 (g ((183 + 2 * i).toNat) 2)) ((17 + 2 * i).toNat) 3 (g ((183 + 2 * i).toNat) 3)) ((17 + 2 * i).toNat) 4 (g ((183 + 2 * i).toNat) 4)) ((17 + 2 * i).toNat) 5 (g ((183 + 2 * i).toNat) 5)) ((184 + 2 * i).toNat) ((18 + 2 * i).toNat) 0 0 8, none) := by
  rw [zov h0, zov h1] at h
  have h := zm zy_61 h 2 (q := (2, dset (dset lf 1 (4, 183 + 2 * i)) 0 (4, 17 + 2 * i), [(4, 183 + 2 * i), (4, 17 + 2 * i)], g)) rfl
  dsimp only at h
  have h := zgf zy_61 h rfl rfl (dvf_183_0 hi0 hi6)
  have h : zr sv L n 61 5 (dset (dset lf 1 (4, 183 + 2 * i)) 0 (4, 17 + 2 * i)) [(2, g ((183 + 2 * i).toNat) 0), (4, 17 + 2 * i)] (g) o := by first | exact h | (rw [cup_at] at h; exact h) | ((repeat rw [cup_ne (by omega)] at h); exact h)
  have h := zm zy_61 h 3 (q := (10, dset (dset lf 1 (4, 183 + 2 * i)) 0 (4, 17 + 2 * i), [(4, 183 + 2 * i), (4, 17 + 2 * i)], cup g ((17 + 2 * i).toNat) 0 (g ((183 + 2 * i).toNat) 0))) rfl
  dsimp only at h
  have h := zgf zy_61 h rfl rfl (dvf_183_1 hi0 hi6)
  have h : zr sv L n 61 13 (dset (dset lf 1 (4, 183 + 2 * i)) 0 (4, 17 + 2 * i)) [(0, g ((183 + 2 * i).toNat) 1), (4, 17 + 2 * i)] (cup g ((17 + 2 * i).toNat) 0 (g ((183 + 2 * i).toNat) 0)) o := by first | exact h | (rw [cup_at] at h; exact h) | ((repeat rw [cup_ne (by omega)] at h); exact h)
  have h := zm zy_61 h 3 (q := (18, dset (dset lf 1 (4, 183 + 2 * i)) 0 (4, 17 + 2 * i), [(4, 183 + 2 * i), (4, 17 + 2 * i)], cup (cup g ((17 + 2 * i).toNat) 0 (g ((183 + 2 * i).toNat) 0)) ((17 + 2 * i).toNat) 1 (g ((183 + 2 * i).toNat) 1))) rfl
  dsimp only at h
  have h := zgf zy_61 h rfl rfl (dvf_183_2 hi0 hi6)
  have h : zr sv L n 61 21 (dset (dset lf 1 (4, 183 + 2 * i)) 0 (4, 17 + 2 * i)) [(0, g ((183 + 2 * i).toNat) 2), (4, 17 + 2 * i)] (cup (cup g ((17 + 2 * i).toNat) 0 (g ((183 + 2 * i).toNat) 0)) ((17 + 2 * i).toNat) 1 (g ((183 + 2 * i).toNat) 1)) o := by first | exact h | (rw [cup_at] at h; exact h) | ((repeat rw [cup_ne (by omega)] at h); exact h)
  have h := zm zy_61 h 3 (q := (26, dset (dset lf 1 (4, 183 + 2 * i)) 0 (4, 17 + 2 * i), [(4, 183 + 2 * i), (4, 17 + 2 * i)], cup (cup (cup g ((17 + 2 * i).toNat) 0 (g ((183 + 2 * i).toNat) 0)) ((17 + 2 * i).toNat) 1 (g ((183 + 2 * i).toNat) 1)) ((17 + 2 * i).toNat) 2 (g ((183 + 2 * i).toNat) 2))) rfl
  dsimp only at h
  have h := zgf zy_61 h rfl rfl (dvf_183_3 hi0 hi6)
  have h : zr sv L n 61 29 (dset (dset lf 1 (4, 183 + 2 * i)) 0 (4, 17 + 2 * i)) [(0, g ((183 + 2 * i).toNat) 3), (4, 17 + 2 * i)] (cup (cup (cup g ((17 + 2 * i).toNat) 0 (g ((183 + 2 * i).toNat) 0)) ((17 + 2 * i).toNat) 1 (g ((183 + 2 * i).toNat) 1)) ((17 + 2 * i).toNat) 2 (g ((183 + 2 * i).toNat) 2)) o := by first | exact h | (rw [cup_at] at h; exact h) | ((repeat rw [cup_ne (by omega)] at h); exact h)
  have h := zm zy_61 h 3 (q := (34, dset (dset lf 1 (4, 183 + 2 * i)) 0 (4, 17 + 2 * i), [(4, 183 + 2 * i), (4, 17 + 2 * i)], cup (cup (cup (cup g ((17 + 2 * i).toNat) 0 (g ((183 + 2 * i).toNat) 0)) ((17 + 2 * i).toNat) 1 (g ((183 + 2 * i).toNat) 1)) ((17 + 2 * i).toNat) 2 (g ((183 + 2 * i).toNat) 2)) ((17 + 2 * i).toNat) 3 (g ((183 + 2 * i).toNat) 3))) rfl
  dsimp only at h
  have h := zgf zy_61 h rfl rfl (dvf_183_4 hi0 hi6)
  have h : zr sv L n 61 37 (dset (dset lf 1 (4, 183 + 2 * i)) 0 (4, 17 + 2 * i)) [(0, g ((183 + 2 * i).toNat) 4), (4, 17 + 2 * i)] (cup (cup (cup (cup g ((17 + 2 * i).toNat) 0 (g ((183 + 2 * i).toNat) 0)) ((17 + 2 * i).toNat) 1 (g ((183 + 2 * i).toNat) 1)) ((17 + 2 * i).toNat) 2 (g ((183 + 2 * i).toNat) 2)) ((17 + 2 * i).toNat) 3 (g ((183 + 2 * i).toNat) 3)) o := by first | exact h | (rw [cup_at] at h; exact h) | ((repeat rw [cup_ne (by omega)] at h); exact h)
  have h := zm zy_61 h 3 (q := (42, dset (dset lf 1 (4, 183 + 2 * i)) 0 (4, 17 + 2 * i), [(4, 183 + 2 * i), (4, 17 + 2 * i)], cup (cup (cup (cup (cup g ((17 + 2 * i).toNat) 0 (g ((183 + 2 * i).toNat) 0)) ((17 + 2 * i).toNat) 1 (g ((183 + 2 * i).toNat) 1)) ((17 + 2 * i).toNat) 2 (g ((183 + 2 * i).toNat) 2)) ((17 + 2 * i).toNat) 3 (g ((183 + 2 * i).toNat) 3)) ((17 + 2 * i).toNat) 4 (g ((183 + 2 * i).toNat) 4))) rfl
  dsimp only at h
  have h := zgf zy_61 h rfl rfl (dvf_183_5 hi0 hi6)
  have h : zr sv L n 61 45 (dset (dset lf 1 (4, 183 + 2 * i)) 0 (4, 17 + 2 * i)) [(0, g ((183 + 2 * i).toNat) 5), (4, 17 + 2 * i)] (cup (cup (cup (cup (cup g ((17 + 2 * i).toNat) 0 (g ((183 + 2 * i).toNat) 0)) ((17 + 2 * i).toNat) 1 (g ((183 + 2 * i).toNat) 1)) ((17 + 2 * i).toNat) 2 (g ((183 + 2 * i).toNat) 2)) ((17 + 2 * i).toNat) 3 (g ((183 + 2 * i).toNat) 3)) ((17 + 2 * i).toNat) 4 (g ((183 + 2 * i).toNat) 4)) o := by first | exact h | (rw [cup_at] at h; exact h) | ((repeat rw [cup_ne (by omega)] at h); exact h)
  have h := zm zy_61 h 2 (q := (49, dset (dset lf 1 (4, 183 + 2 * i)) 0 (4, 17 + 2 * i), [(4, 183 + 2 * i)], cup (cup (cup (cup (cup (cup g ((17 + 2 * i).toNat) 0 (g ((183 + 2 * i).toNat) 0)) ((17 + 2 * i).toNat) 1 (g ((183 + 2 * i).toNat) 1)) ((17 + 2 * i).toNat) 2 (g ((183 + 2 * i).toNat) 2)) ((17 + 2 * i).toNat) 3 (g ((183 + 2 * i).toNat) 3)) ((17 + 2 * i).toNat) 4 (g ((183 + 2 * i).toNat) 4)) ((17 + 2 * i).toNat) 5 (g ((183 + 2 * i).toNat) 5))) rfl
  dsimp only at h
  have h := zgf zy_61 h rfl rfl (dvf_183_6 hi0 hi6)
  have h := zm zy_61 h 2 (q := (54, dset (dset lf 1 (4, 183 + 2 * i)) 0 (4, 17 + 2 * i), [(4, 17 + 2 * i), (0, 0), (4, 184 + 2 * i)], cup (cup (cup (cup (cup (cup g ((17 + 2 * i).toNat) 0 (g ((183 + 2 * i).toNat) 0)) ((17 + 2 * i).toNat) 1 (g ((183 + 2 * i).toNat) 1)) ((17 + 2 * i).toNat) 2 (g ((183 + 2 * i).toNat) 2)) ((17 + 2 * i).toNat) 3 (g ((183 + 2 * i).toNat) 3)) ((17 + 2 * i).toNat) 4 (g ((183 + 2 * i).toNat) 4)) ((17 + 2 * i).toNat) 5 (g ((183 + 2 * i).toNat) 5))) rfl
  dsimp only at h
  have h := zgf zy_61 h rfl rfl (dvf_17_6 hi0 hi6)
  have h := zm zy_61 h 3 (q := (63, dset (dset lf 1 (4, 183 + 2 * i)) 0 (4, 17 + 2 * i), [], ccp (cup (cup (cup (cup (cup (cup g ((17 + 2 * i).toNat) 0 (g ((183 + 2 * i).toNat) 0)) ((17 + 2 * i).toNat) 1 (g ((183 + 2 * i).toNat) 1)) ((17 + 2 * i).toNat) 2 (g ((183 + 2 * i).toNat) 2)) ((17 + 2 * i).toNat) 3 (g ((183 + 2 * i).toNat) 3)) ((17 + 2 * i).toNat) 4 (g ((183 + 2 * i).toNat) 4)) ((17 + 2 * i).toNat) 5 (g ((183 + 2 * i).toNat) 5)) ((184 + 2 * i).toNat) ((18 + 2 * i).toNat) 0 0 8)) rfl
  dsimp only at h
  exact zret zy_61 h rfl rfl
theorem c_oath_3_169 {sv : Nat → Int32} {L n : Nat} {lf : dlf} {g : cg} {o : cg × Option cv} {i : Int} (hi0 : 0 ≤ i) (hi16 : i < 16) (h : zr sv L n 62 0 lf [] g o) (h0 : lf 0 = (4, 29 + i)) (h1 : lf 1 = (4, 195 + i)) : o = (cup (cup (cup (cup (cup (cup (cup (cup g ((29 + i).toNat) 0 (g ((195 + i).toNat) 0)) ((29 + i).toNat) 1 (g ((195 + i).toNat) 1)) ((29 + i).toNat) 2 (g ((195 + i).toNat) 2)) ((29 + i).toNat) 3 (g ((195 + i).toNat) 3)) ((29 + i).toNat) 4 (g ((195 + i).toNat) 4)) ((29 + i).toNat) 5 (g ((195 + i).toNat) 5)) ((29 + i).toNat) 6 (g ((195 + i).toNat) 6)) ((29 + i).toNat) 7 (g ((195 + i).toNat) 7), none) := by
  rw [zov h0, zov h1] at h
  have h := zm zy_62 h 2 (q := (2, dset (dset lf 1 (4, 195 + i)) 0 (4, 29 + i), [(4, 195 + i), (4, 29 + i)], g)) rfl
  dsimp only at h
  have h := zgf zy_62 h rfl rfl (dvf_195_0 hi0 hi16)
  have h : zr sv L n 62 5 (dset (dset lf 1 (4, 195 + i)) 0 (4, 29 + i)) [(0, g ((195 + i).toNat) 0), (4, 29 + i)] (g) o := by first | exact h | (rw [cup_at] at h; exact h) | ((repeat rw [cup_ne (by omega)] at h); exact h)
  have h := zm zy_62 h 3 (q := (10, dset (dset lf 1 (4, 195 + i)) 0 (4, 29 + i), [(4, 195 + i), (4, 29 + i)], cup g ((29 + i).toNat) 0 (g ((195 + i).toNat) 0))) rfl
  dsimp only at h
  have h := zgf zy_62 h rfl rfl (dvf_195_1 hi0 hi16)
  have h : zr sv L n 62 13 (dset (dset lf 1 (4, 195 + i)) 0 (4, 29 + i)) [(0, g ((195 + i).toNat) 1), (4, 29 + i)] (cup g ((29 + i).toNat) 0 (g ((195 + i).toNat) 0)) o := by first | exact h | (rw [cup_at] at h; exact h) | ((repeat rw [cup_ne (by omega)] at h); exact h)
  have h := zm zy_62 h 3 (q := (18, dset (dset lf 1 (4, 195 + i)) 0 (4, 29 + i), [(4, 195 + i), (4, 29 + i)], cup (cup g ((29 + i).toNat) 0 (g ((195 + i).toNat) 0)) ((29 + i).toNat) 1 (g ((195 + i).toNat) 1))) rfl
  dsimp only at h
  have h := zgf zy_62 h rfl rfl (dvf_195_2 hi0 hi16)
  have h : zr sv L n 62 21 (dset (dset lf 1 (4, 195 + i)) 0 (4, 29 + i)) [(0, g ((195 + i).toNat) 2), (4, 29 + i)] (cup (cup g ((29 + i).toNat) 0 (g ((195 + i).toNat) 0)) ((29 + i).toNat) 1 (g ((195 + i).toNat) 1)) o := by first | exact h | (rw [cup_at] at h; exact h) | ((repeat rw [cup_ne (by omega)] at h); exact h)
  have h := zm zy_62 h 3 (q := (26, dset (dset lf 1 (4, 195 + i)) 0 (4, 29 + i), [(4, 195 + i), (4, 29 + i)], cup (cup (cup g ((29 + i).toNat) 0 (g ((195 + i).toNat) 0)) ((29 + i).toNat) 1 (g ((195 + i).toNat) 1)) ((29 + i).toNat) 2 (g ((195 + i).toNat) 2))) rfl
  dsimp only at h
  have h := zgf zy_62 h rfl rfl (dvf_195_3 hi0 hi16)
  have h : zr sv L n 62 29 (dset (dset lf 1 (4, 195 + i)) 0 (4, 29 + i)) [(0, g ((195 + i).toNat) 3), (4, 29 + i)] (cup (cup (cup g ((29 + i).toNat) 0 (g ((195 + i).toNat) 0)) ((29 + i).toNat) 1 (g ((195 + i).toNat) 1)) ((29 + i).toNat) 2 (g ((195 + i).toNat) 2)) o := by first | exact h | (rw [cup_at] at h; exact h) | ((repeat rw [cup_ne (by omega)] at h); exact h)
  have h := zm zy_62 h 3 (q := (34, dset (dset lf 1 (4, 195 + i)) 0 (4, 29 + i), [(4, 195 + i), (4, 29 + i)], cup (cup (cup (cup g ((29 + i).toNat) 0 (g ((195 + i).toNat) 0)) ((29 + i).toNat) 1 (g ((195 + i).toNat) 1)) ((29 + i).toNat) 2 (g ((195 + i).toNat) 2)) ((29 + i).toNat) 3 (g ((195 + i).toNat) 3))) rfl
  dsimp only at h
  have h := zgf zy_62 h rfl rfl (dvf_195_4 hi0 hi16)
  have h : zr sv L n 62 37 (dset (dset lf 1 (4, 195 + i)) 0 (4, 29 + i)) [(0, g ((195 + i).toNat) 4), (4, 29 + i)] (cup (cup (cup (cup g ((29 + i).toNat) 0 (g ((195 + i).toNat) 0)) ((29 + i).toNat) 1 (g ((195 + i).toNat) 1)) ((29 + i).toNat) 2 (g ((195 + i).toNat) 2)) ((29 + i).toNat) 3 (g ((195 + i).toNat) 3)) o := by first | exact h | (rw [cup_at] at h; exact h) | ((repeat rw [cup_ne (by omega)] at h); exact h)
  have h := zm zy_62 h 3 (q := (42, dset (dset lf 1 (4, 195 + i)) 0 (4, 29 + i), [(4, 195 + i), (4, 29 + i)], cup (cup (cup (cup (cup g ((29 + i).toNat) 0 (g ((195 + i).toNat) 0)) ((29 + i).toNat) 1 (g ((195 + i).toNat) 1)) ((29 + i).toNat) 2 (g ((195 + i).toNat) 2)) ((29 + i).toNat) 3 (g ((195 + i).toNat) 3)) ((29 + i).toNat) 4 (g ((195 + i).toNat) 4))) rfl
  dsimp only at h
  have h := zgf zy_62 h rfl rfl (dvf_195_5 hi0 hi16)
  have h : zr sv L n 62 45 (dset (dset lf 1 (4, 195 + i)) 0 (4, 29 + i)) [(0, g ((195 + i).toNat) 5), (4, 29 + i)] (cup (cup (cup (cup (cup g ((29 + i).toNat) 0 (g ((195 + i).toNat) 0)) ((29 + i).toNat) 1 (g ((195 + i).toNat) 1)) ((29 + i).toNat) 2 (g ((195 + i).toNat) 2)) ((29 + i).toNat) 3 (g ((195 + i).toNat) 3)) ((29 + i).toNat) 4 (g ((195 + i).toNat) 4)) o := by first | exact h | (rw [cup_at] at h; exact h) | ((repeat rw [cup_ne (by omega)] at h); exact h)
  have h := zm zy_62 h 3 (q := (50, dset (dset lf 1 (4, 195 + i)) 0 (4, 29 + i), [(4, 195 + i), (4, 29 + i)], cup (cup (cup (cup (cup (cup g ((29 + i).toNat) 0 (g ((195 + i).toNat) 0)) ((29 + i).toNat) 1 (g ((195 + i).toNat) 1)) ((29 + i).toNat) 2 (g ((195 + i).toNat) 2)) ((29 + i).toNat) 3 (g ((195 + i).toNat) 3)) ((29 + i).toNat) 4 (g ((195 + i).toNat) 4)) ((29 + i).toNat) 5 (g ((195 + i).toNat) 5))) rfl
  dsimp only at h
  have h := zgf zy_62 h rfl rfl (dvf_195_6 hi0 hi16)
  have h : zr sv L n 62 53 (dset (dset lf 1 (4, 195 + i)) 0 (4, 29 + i)) [(0, g ((195 + i).toNat) 6), (4, 29 + i)] (cup (cup (cup (cup (cup (cup g ((29 + i).toNat) 0 (g ((195 + i).toNat) 0)) ((29 + i).toNat) 1 (g ((195 + i).toNat) 1)) ((29 + i).toNat) 2 (g ((195 + i).toNat) 2)) ((29 + i).toNat) 3 (g ((195 + i).toNat) 3)) ((29 + i).toNat) 4 (g ((195 + i).toNat) 4)) ((29 + i).toNat) 5 (g ((195 + i).toNat) 5)) o := by first | exact h | (rw [cup_at] at h; exact h) | ((repeat rw [cup_ne (by omega)] at h); exact h)
  have h := zm zy_62 h 3 (q := (58, dset (dset lf 1 (4, 195 + i)) 0 (4, 29 + i), [(4, 195 + i), (4, 29 + i)], cup (cup (cup (cup (cup (cup (cup g ((29 + i).toNat) 0 (g ((195 + i).toNat) 0)) ((29 + i).toNat) 1 (g ((195 + i).toNat) 1)) ((29 + i).toNat) 2 (g ((195 + i).toNat) 2)) ((29 + i).toNat) 3 (g ((195 + i).toNat) 3)) ((29 + i).toNat) 4 (g ((195 + i).toNat) 4)) ((29 + i).toNat) 5 (g ((195 + i).toNat) 5)) ((29 + i).toNat) 6 (g ((195 + i).toNat) 6))) rfl
  dsimp only at h
  have h := zgf zy_62 h rfl rfl (dvf_195_7 hi0 hi16)
  have h : zr sv L n 62 61 (dset (dset lf 1 (4, 195 + i)) 0 (4, 29 + i)) [(0, g ((195 + i).toNat) 7), (4, 29 + i)] (cup (cup (cup (cup (cup (cup (cup g ((29 + i).toNat) 0 (g ((195 + i).toNat) 0)) ((29 + i).toNat) 1 (g ((195 + i).toNat) 1)) ((29 + i).toNat) 2 (g ((195 + i).toNat) 2)) ((29 + i).toNat) 3 (g ((195 + i).toNat) 3)) ((29 + i).toNat) 4 (g ((195 + i).toNat) 4)) ((29 + i).toNat) 5 (g ((195 + i).toNat) 5)) ((29 + i).toNat) 6 (g ((195 + i).toNat) 6)) o := by first | exact h | (rw [cup_at] at h; exact h) | ((repeat rw [cup_ne (by omega)] at h); exact h)
  have h := zm zy_62 h 1 (q := (64, dset (dset lf 1 (4, 195 + i)) 0 (4, 29 + i), [], cup (cup (cup (cup (cup (cup (cup (cup g ((29 + i).toNat) 0 (g ((195 + i).toNat) 0)) ((29 + i).toNat) 1 (g ((195 + i).toNat) 1)) ((29 + i).toNat) 2 (g ((195 + i).toNat) 2)) ((29 + i).toNat) 3 (g ((195 + i).toNat) 3)) ((29 + i).toNat) 4 (g ((195 + i).toNat) 4)) ((29 + i).toNat) 5 (g ((195 + i).toNat) 5)) ((29 + i).toNat) 6 (g ((195 + i).toNat) 6)) ((29 + i).toNat) 7 (g ((195 + i).toNat) 7))) rfl
  dsimp only at h
  exact zret zy_62 h rfl rfl
theorem c_tri_3_169 {sv : Nat → Int32} {L n : Nat} {lf : dlf} {g : cg} {o : cg × Option cv} (h : zr sv L n 63 0 lf [] g o) (h0 : lf 0 = (4, 8)) (h1 : lf 1 = (4, 174)) : o = (ccp (ccp (ccp (ccp (ccp (ccp (ccp (ccp (cup (cup (cup g 8 0 (g 174 0)) 8 1 (g 174 1)) 8 2 (g 174 2)) 175 9 0 0 ((g 174 2).toNat)) 176 10 0 0 ((g 174 2).toNat)) 177 11 0 0 ((g 174 2).toNat)) 178 12 0 0 ((g 174 2).toNat)) 179 13 0 0 ((g 174 2).toNat)) 180 14 0 0 ((g 174 2).toNat)) 181 15 0 0 ((g 174 2).toNat)) 182 16 0 0 ((g 174 2).toNat), none) := by
  rw [zov h0, zov h1] at h
  have h := zm zy_63 h 84 (q := (160, dset (dset lf 1 (4, 174)) 0 (4, 8), [], ccp (ccp (ccp (ccp (ccp (ccp (ccp (ccp (cup (cup (cup g 8 0 (g 174 0)) 8 1 (g 174 1)) 8 2 (g 174 2)) 175 9 0 0 ((g 174 2).toNat)) 176 10 0 0 ((g 174 2).toNat)) 177 11 0 0 ((g 174 2).toNat)) 178 12 0 0 ((g 174 2).toNat)) 179 13 0 0 ((g 174 2).toNat)) 180 14 0 0 ((g 174 2).toNat)) 181 15 0 0 ((g 174 2).toNat)) 182 16 0 0 ((g 174 2).toNat))) rfl
  dsimp only at h
  exact zret zy_63 h rfl rfl
theorem c_all_3_211 {sv : Nat → Int32} {L n : Nat} {lf : dlf} {g : cg} {o : cg × Option cv} (h : zr sv L n 59 0 lf [] g o) (h0 : lf 0 = (4, 3)) (h1 : lf 1 = (4, 211)) : ∃ g1, zr sv L n 60 0 (darg 0 [(4, 3), (4, 211)]) [] g (g1, none) ∧ (∃ g2, zr sv L n 63 0 (darg 0 [(4, 8), (4, 216)]) [] g1 (g2, none) ∧ (o = (g2, none))) := by
  rw [zov h0, zov h1] at h
  have h := zm zy_59 h 2 (q := (2, dset (dset lf 1 (4, 211)) 0 (4, 3), [(4, 211), (4, 3)], g)) rfl
  dsimp only at h
  obtain ⟨g1, hk, h⟩ := zcallV zy_59 h rfl rfl zy_60 zk_60
  dsimp only at hk h
  refine ⟨g1, hk, ?_⟩
  have h := zm zy_59 h 4 (q := (13, dset (dset lf 1 (4, 211)) 0 (4, 3), [(4, 216), (4, 8)], g1)) rfl
  dsimp only at h
  obtain ⟨g2, hk, h⟩ := zcallV zy_59 h rfl rfl zy_63 zk_63
  dsimp only at hk h
  refine ⟨g2, hk, ?_⟩
  exact zret zy_59 h rfl rfl
theorem c_case0_3_211 {sv : Nat → Int32} {L n : Nat} {lf : dlf} {g : cg} {o : cg × Option cv} (h : zr sv L n 60 0 lf [] g o) (h0 : lf 0 = (4, 3)) (h1 : lf 1 = (4, 211)) : ∃ lf'1, lf'1 0 = (4, 3) ∧ lf'1 1 = (4, 211) ∧ lf'1 2 = (0, 0) ∧ zr sv L n 60 86 lf'1 [] (ccp (ccp (cup (cup (cup (cup (cup (cup (cup g 3 0 (g 211 0)) 3 3 (g 211 3)) 3 5 (g 211 5)) 3 6 (g 211 6)) 3 7 (g 211 7)) 3 8 (g 211 8)) 3 9 (g 211 9)) 212 4 0 0 5) 213 5 0 0 5) o := by
  rw [zov h0, zov h1] at h
  have h := zm zy_60 h 46 (q := (86, dset (dset (dset lf 1 (4, 211)) 0 (4, 3)) 2 (0, 0), [], ccp (ccp (cup (cup (cup (cup (cup (cup (cup g 3 0 (g 211 0)) 3 3 (g 211 3)) 3 5 (g 211 5)) 3 6 (g 211 6)) 3 7 (g 211 7)) 3 8 (g 211 8)) 3 9 (g 211 9)) 212 4 0 0 5) 213 5 0 0 5)) rfl
  dsimp only at h
  exact ⟨_, rfl, rfl, rfl, h⟩
theorem c_case86_3_211 {sv : Nat → Int32} {L n : Nat} {lf : dlf} {g : cg} {o : cg × Option cv} {b : Int} (h : zr sv L (n + 1) 60 86 lf [] g o) (h0 : lf 0 = (4, 3)) (h1 : lf 1 = (4, 211)) (h2 : lf 2 = (0, b)) : (g 3 3 ≤ b ∧ (∃ lf'2, lf'2 0 = (4, 3) ∧ lf'2 1 = (4, 211) ∧ lf'2 2 = (0, 0) ∧ zr sv L n 60 123 lf'2 [] g o)) ∨ (b < g 3 3 ∧ ((6 ≤ b ∧ (∃ lf'4, lf'4 0 = (4, 3) ∧ lf'4 1 = (4, 211) ∧ lf'4 2 = (0, 0) ∧ zr sv L n 60 123 lf'4 [] g o)) ∨ (b < 6 ∧ (0 ≤ b → b < 6 → (∃ g7, zr sv L n 61 0 (darg 0 [(4, 17 + 2 * b), (4, 225 + 2 * b)]) [] g (g7, none) ∧ (∃ lf'8, lf'8 0 = (4, 3) ∧ lf'8 1 = (4, 211) ∧ lf'8 2 = (0, w32 (b + 1)) ∧ zr sv L n 60 86 lf'8 [] g7 o)))))) := by
  rw [zov h0, zov h1, zov h2] at h
  have h := zm1 zy_60 h 3 (q := (cond (crel .ge b (g 3 3)) 121 94, dset (dset (dset lf 2 (0, b)) 1 (4, 211)) 0 (4, 3), [], g)) rfl
  dsimp only at h
  rcases zif_ge h with ⟨hc1, h⟩ | ⟨hc1, h⟩
  · refine Or.inl ⟨hc1, ?_⟩
    have h := zm zy_60 h 2 (q := (123, dset (dset (dset (dset lf 2 (0, b)) 1 (4, 211)) 0 (4, 3)) 2 (0, 0), [], g)) rfl
    dsimp only at h
    exact ⟨_, rfl, rfl, rfl, h⟩
  · refine Or.inr ⟨hc1, ?_⟩
    have h := zm zy_60 h 3 (q := (cond (crel .ge b 6) 121 100, dset (dset (dset lf 2 (0, b)) 1 (4, 211)) 0 (4, 3), [], g)) rfl
    dsimp only at h
    rcases zif_ge h with ⟨hc3, h⟩ | ⟨hc3, h⟩
    · refine Or.inl ⟨hc3, ?_⟩
      have h := zm zy_60 h 2 (q := (123, dset (dset (dset (dset lf 2 (0, b)) 1 (4, 211)) 0 (4, 3)) 2 (0, 0), [], g)) rfl
      dsimp only at h
      exact ⟨_, rfl, rfl, rfl, h⟩
    · refine Or.inr ⟨hc3, ?_⟩
      intro ha5 hb6
      have h := zm zy_60 h 3 (q := (105, dset (dset (dset lf 2 (0, b)) 1 (4, 211)) 0 (4, 3), [(0, b), (4, 6)], g)) rfl
      dsimp only at h
      have h := zald zy_60 h rfl rfl (dvp_6 ha5 hb6)
      have h := zm zy_60 h 3 (q := (111, dset (dset (dset lf 2 (0, b)) 1 (4, 211)) 0 (4, 3), [(0, b), (4, 214), (4, 17 + 2 * b)], g)) rfl
      dsimp only at h
      have h := zald zy_60 h rfl rfl (dvp_214 ha5 hb6)
      obtain ⟨g7, hk, h⟩ := zcallV zy_60 h rfl rfl zy_61 zk_61
      dsimp only at hk h
      refine ⟨g7, hk, ?_⟩
      have h := zm zy_60 h 2 (q := (86, dset (dset (dset (dset lf 2 (0, b)) 1 (4, 211)) 0 (4, 3)) 2 (0, w32 (b + 1)), [], g7)) rfl
      dsimp only at h
      exact ⟨_, rfl, rfl, rfl, h⟩
theorem c_case123_3_211 {sv : Nat → Int32} {L n : Nat} {lf : dlf} {g : cg} {o : cg × Option cv} {b : Int} (h : zr sv L (n + 1) 60 123 lf [] g o) (h0 : lf 0 = (4, 3)) (h1 : lf 1 = (4, 211)) (h2 : lf 2 = (0, b)) : (g 3 9 ≤ b ∧ (o = (g, none))) ∨ (b < g 3 9 ∧ ((16 ≤ b ∧ (o = (g, none))) ∨ (b < 16 ∧ (0 ≤ b → b < 16 → (∃ g5, zr sv L n 62 0 (darg 0 [(4, 29 + b), (4, 237 + b)]) [] g (g5, none) ∧ (∃ lf'6, lf'6 0 = (4, 3) ∧ lf'6 1 = (4, 211) ∧ lf'6 2 = (0, w32 (b + 1)) ∧ zr sv L n 60 123 lf'6 [] g5 o)))))) := by
  rw [zov h0, zov h1, zov h2] at h
  have h := zm1 zy_60 h 3 (q := (cond (crel .ge b (g 3 9)) 158 131, dset (dset (dset lf 2 (0, b)) 1 (4, 211)) 0 (4, 3), [], g)) rfl
  dsimp only at h
  rcases zif_ge h with ⟨hc1, h⟩ | ⟨hc1, h⟩
  · refine Or.inl ⟨hc1, ?_⟩
    exact zret zy_60 h rfl rfl
  · refine Or.inr ⟨hc1, ?_⟩
    have h := zm zy_60 h 3 (q := (cond (crel .ge b 16) 158 137, dset (dset (dset lf 2 (0, b)) 1 (4, 211)) 0 (4, 3), [], g)) rfl
    dsimp only at h
    rcases zif_ge h with ⟨hc2, h⟩ | ⟨hc2, h⟩
    · refine Or.inl ⟨hc2, ?_⟩
      exact zret zy_60 h rfl rfl
    · refine Or.inr ⟨hc2, ?_⟩
      intro ha3 hb4
      have h := zm zy_60 h 3 (q := (142, dset (dset (dset lf 2 (0, b)) 1 (4, 211)) 0 (4, 3), [(0, b), (4, 7)], g)) rfl
      dsimp only at h
      have h := zald zy_60 h rfl rfl (dvp_7 ha3 hb4)
      have h := zm zy_60 h 3 (q := (148, dset (dset (dset lf 2 (0, b)) 1 (4, 211)) 0 (4, 3), [(0, b), (4, 215), (4, 29 + b)], g)) rfl
      dsimp only at h
      have h := zald zy_60 h rfl rfl (dvp_215 ha3 hb4)
      obtain ⟨g5, hk, h⟩ := zcallV zy_60 h rfl rfl zy_62 zk_62
      dsimp only at hk h
      refine ⟨g5, hk, ?_⟩
      have h := zm zy_60 h 2 (q := (123, dset (dset (dset (dset lf 2 (0, b)) 1 (4, 211)) 0 (4, 3)) 2 (0, w32 (b + 1)), [], g5)) rfl
      dsimp only at h
      exact ⟨_, rfl, rfl, rfl, h⟩
theorem c_per_3_211 {sv : Nat → Int32} {L n : Nat} {lf : dlf} {g : cg} {o : cg × Option cv} {i : Int} (hi0 : 0 ≤ i) (hi6 : i < 6) (h : zr sv L n 61 0 lf [] g o) (h0 : lf 0 = (4, 17 + 2 * i)) (h1 : lf 1 = (4, 225 + 2 * i)) : o = (ccp (cup (cup (cup (cup (cup (cup g ((17 + 2 * i).toNat) 0 (g ((225 + 2 * i).toNat) 0)) ((17 + 2 * i).toNat) 1 (g ((225 + 2 * i).toNat) 1)) ((17 + 2 * i).toNat) 2 (g ((225 + 2 * i).toNat) 2)) ((17 + 2 * i).toNat) 3 (g ((225 + 2 * i).toNat) 3)) ((17 + 2 * i).toNat) 4 (g ((225 + 2 * i).toNat) 4)) ((17 + 2 * i).toNat) 5 (g ((225 + 2 * i).toNat) 5)) ((226 + 2 * i).toNat) ((18 + 2 * i).toNat) 0 0 8, none) := by
  rw [zov h0, zov h1] at h
  have h := zm zy_61 h 2 (q := (2, dset (dset lf 1 (4, 225 + 2 * i)) 0 (4, 17 + 2 * i), [(4, 225 + 2 * i), (4, 17 + 2 * i)], g)) rfl
  dsimp only at h
  have h := zgf zy_61 h rfl rfl (dvf_225_0 hi0 hi6)
  have h : zr sv L n 61 5 (dset (dset lf 1 (4, 225 + 2 * i)) 0 (4, 17 + 2 * i)) [(2, g ((225 + 2 * i).toNat) 0), (4, 17 + 2 * i)] (g) o := by first | exact h | (rw [cup_at] at h; exact h) | ((repeat rw [cup_ne (by omega)] at h); exact h)
  have h := zm zy_61 h 3 (q := (10, dset (dset lf 1 (4, 225 + 2 * i)) 0 (4, 17 + 2 * i), [(4, 225 + 2 * i), (4, 17 + 2 * i)], cup g ((17 + 2 * i).toNat) 0 (g ((225 + 2 * i).toNat) 0))) rfl
  dsimp only at h
  have h := zgf zy_61 h rfl rfl (dvf_225_1 hi0 hi6)
  have h : zr sv L n 61 13 (dset (dset lf 1 (4, 225 + 2 * i)) 0 (4, 17 + 2 * i)) [(0, g ((225 + 2 * i).toNat) 1), (4, 17 + 2 * i)] (cup g ((17 + 2 * i).toNat) 0 (g ((225 + 2 * i).toNat) 0)) o := by first | exact h | (rw [cup_at] at h; exact h) | ((repeat rw [cup_ne (by omega)] at h); exact h)
  have h := zm zy_61 h 3 (q := (18, dset (dset lf 1 (4, 225 + 2 * i)) 0 (4, 17 + 2 * i), [(4, 225 + 2 * i), (4, 17 + 2 * i)], cup (cup g ((17 + 2 * i).toNat) 0 (g ((225 + 2 * i).toNat) 0)) ((17 + 2 * i).toNat) 1 (g ((225 + 2 * i).toNat) 1))) rfl
  dsimp only at h
  have h := zgf zy_61 h rfl rfl (dvf_225_2 hi0 hi6)
  have h : zr sv L n 61 21 (dset (dset lf 1 (4, 225 + 2 * i)) 0 (4, 17 + 2 * i)) [(0, g ((225 + 2 * i).toNat) 2), (4, 17 + 2 * i)] (cup (cup g ((17 + 2 * i).toNat) 0 (g ((225 + 2 * i).toNat) 0)) ((17 + 2 * i).toNat) 1 (g ((225 + 2 * i).toNat) 1)) o := by first | exact h | (rw [cup_at] at h; exact h) | ((repeat rw [cup_ne (by omega)] at h); exact h)
  have h := zm zy_61 h 3 (q := (26, dset (dset lf 1 (4, 225 + 2 * i)) 0 (4, 17 + 2 * i), [(4, 225 + 2 * i), (4, 17 + 2 * i)], cup (cup (cup g ((17 + 2 * i).toNat) 0 (g ((225 + 2 * i).toNat) 0)) ((17 + 2 * i).toNat) 1 (g ((225 + 2 * i).toNat) 1)) ((17 + 2 * i).toNat) 2 (g ((225 + 2 * i).toNat) 2))) rfl
  dsimp only at h
  have h := zgf zy_61 h rfl rfl (dvf_225_3 hi0 hi6)
  have h : zr sv L n 61 29 (dset (dset lf 1 (4, 225 + 2 * i)) 0 (4, 17 + 2 * i)) [(0, g ((225 + 2 * i).toNat) 3), (4, 17 + 2 * i)] (cup (cup (cup g ((17 + 2 * i).toNat) 0 (g ((225 + 2 * i).toNat) 0)) ((17 + 2 * i).toNat) 1 (g ((225 + 2 * i).toNat) 1)) ((17 + 2 * i).toNat) 2 (g ((225 + 2 * i).toNat) 2)) o := by first | exact h | (rw [cup_at] at h; exact h) | ((repeat rw [cup_ne (by omega)] at h); exact h)
  have h := zm zy_61 h 3 (q := (34, dset (dset lf 1 (4, 225 + 2 * i)) 0 (4, 17 + 2 * i), [(4, 225 + 2 * i), (4, 17 + 2 * i)], cup (cup (cup (cup g ((17 + 2 * i).toNat) 0 (g ((225 + 2 * i).toNat) 0)) ((17 + 2 * i).toNat) 1 (g ((225 + 2 * i).toNat) 1)) ((17 + 2 * i).toNat) 2 (g ((225 + 2 * i).toNat) 2)) ((17 + 2 * i).toNat) 3 (g ((225 + 2 * i).toNat) 3))) rfl
  dsimp only at h
  have h := zgf zy_61 h rfl rfl (dvf_225_4 hi0 hi6)
  have h : zr sv L n 61 37 (dset (dset lf 1 (4, 225 + 2 * i)) 0 (4, 17 + 2 * i)) [(0, g ((225 + 2 * i).toNat) 4), (4, 17 + 2 * i)] (cup (cup (cup (cup g ((17 + 2 * i).toNat) 0 (g ((225 + 2 * i).toNat) 0)) ((17 + 2 * i).toNat) 1 (g ((225 + 2 * i).toNat) 1)) ((17 + 2 * i).toNat) 2 (g ((225 + 2 * i).toNat) 2)) ((17 + 2 * i).toNat) 3 (g ((225 + 2 * i).toNat) 3)) o := by first | exact h | (rw [cup_at] at h; exact h) | ((repeat rw [cup_ne (by omega)] at h); exact h)
  have h := zm zy_61 h 3 (q := (42, dset (dset lf 1 (4, 225 + 2 * i)) 0 (4, 17 + 2 * i), [(4, 225 + 2 * i), (4, 17 + 2 * i)], cup (cup (cup (cup (cup g ((17 + 2 * i).toNat) 0 (g ((225 + 2 * i).toNat) 0)) ((17 + 2 * i).toNat) 1 (g ((225 + 2 * i).toNat) 1)) ((17 + 2 * i).toNat) 2 (g ((225 + 2 * i).toNat) 2)) ((17 + 2 * i).toNat) 3 (g ((225 + 2 * i).toNat) 3)) ((17 + 2 * i).toNat) 4 (g ((225 + 2 * i).toNat) 4))) rfl
  dsimp only at h
  have h := zgf zy_61 h rfl rfl (dvf_225_5 hi0 hi6)
  have h : zr sv L n 61 45 (dset (dset lf 1 (4, 225 + 2 * i)) 0 (4, 17 + 2 * i)) [(0, g ((225 + 2 * i).toNat) 5), (4, 17 + 2 * i)] (cup (cup (cup (cup (cup g ((17 + 2 * i).toNat) 0 (g ((225 + 2 * i).toNat) 0)) ((17 + 2 * i).toNat) 1 (g ((225 + 2 * i).toNat) 1)) ((17 + 2 * i).toNat) 2 (g ((225 + 2 * i).toNat) 2)) ((17 + 2 * i).toNat) 3 (g ((225 + 2 * i).toNat) 3)) ((17 + 2 * i).toNat) 4 (g ((225 + 2 * i).toNat) 4)) o := by first | exact h | (rw [cup_at] at h; exact h) | ((repeat rw [cup_ne (by omega)] at h); exact h)
  have h := zm zy_61 h 2 (q := (49, dset (dset lf 1 (4, 225 + 2 * i)) 0 (4, 17 + 2 * i), [(4, 225 + 2 * i)], cup (cup (cup (cup (cup (cup g ((17 + 2 * i).toNat) 0 (g ((225 + 2 * i).toNat) 0)) ((17 + 2 * i).toNat) 1 (g ((225 + 2 * i).toNat) 1)) ((17 + 2 * i).toNat) 2 (g ((225 + 2 * i).toNat) 2)) ((17 + 2 * i).toNat) 3 (g ((225 + 2 * i).toNat) 3)) ((17 + 2 * i).toNat) 4 (g ((225 + 2 * i).toNat) 4)) ((17 + 2 * i).toNat) 5 (g ((225 + 2 * i).toNat) 5))) rfl
  dsimp only at h
  have h := zgf zy_61 h rfl rfl (dvf_225_6 hi0 hi6)
  have h := zm zy_61 h 2 (q := (54, dset (dset lf 1 (4, 225 + 2 * i)) 0 (4, 17 + 2 * i), [(4, 17 + 2 * i), (0, 0), (4, 226 + 2 * i)], cup (cup (cup (cup (cup (cup g ((17 + 2 * i).toNat) 0 (g ((225 + 2 * i).toNat) 0)) ((17 + 2 * i).toNat) 1 (g ((225 + 2 * i).toNat) 1)) ((17 + 2 * i).toNat) 2 (g ((225 + 2 * i).toNat) 2)) ((17 + 2 * i).toNat) 3 (g ((225 + 2 * i).toNat) 3)) ((17 + 2 * i).toNat) 4 (g ((225 + 2 * i).toNat) 4)) ((17 + 2 * i).toNat) 5 (g ((225 + 2 * i).toNat) 5))) rfl
  dsimp only at h
  have h := zgf zy_61 h rfl rfl (dvf_17_6 hi0 hi6)
  have h := zm zy_61 h 3 (q := (63, dset (dset lf 1 (4, 225 + 2 * i)) 0 (4, 17 + 2 * i), [], ccp (cup (cup (cup (cup (cup (cup g ((17 + 2 * i).toNat) 0 (g ((225 + 2 * i).toNat) 0)) ((17 + 2 * i).toNat) 1 (g ((225 + 2 * i).toNat) 1)) ((17 + 2 * i).toNat) 2 (g ((225 + 2 * i).toNat) 2)) ((17 + 2 * i).toNat) 3 (g ((225 + 2 * i).toNat) 3)) ((17 + 2 * i).toNat) 4 (g ((225 + 2 * i).toNat) 4)) ((17 + 2 * i).toNat) 5 (g ((225 + 2 * i).toNat) 5)) ((226 + 2 * i).toNat) ((18 + 2 * i).toNat) 0 0 8)) rfl
  dsimp only at h
  exact zret zy_61 h rfl rfl
theorem c_oath_3_211 {sv : Nat → Int32} {L n : Nat} {lf : dlf} {g : cg} {o : cg × Option cv} {i : Int} (hi0 : 0 ≤ i) (hi16 : i < 16) (h : zr sv L n 62 0 lf [] g o) (h0 : lf 0 = (4, 29 + i)) (h1 : lf 1 = (4, 237 + i)) : o = (cup (cup (cup (cup (cup (cup (cup (cup g ((29 + i).toNat) 0 (g ((237 + i).toNat) 0)) ((29 + i).toNat) 1 (g ((237 + i).toNat) 1)) ((29 + i).toNat) 2 (g ((237 + i).toNat) 2)) ((29 + i).toNat) 3 (g ((237 + i).toNat) 3)) ((29 + i).toNat) 4 (g ((237 + i).toNat) 4)) ((29 + i).toNat) 5 (g ((237 + i).toNat) 5)) ((29 + i).toNat) 6 (g ((237 + i).toNat) 6)) ((29 + i).toNat) 7 (g ((237 + i).toNat) 7), none) := by
  rw [zov h0, zov h1] at h
  have h := zm zy_62 h 2 (q := (2, dset (dset lf 1 (4, 237 + i)) 0 (4, 29 + i), [(4, 237 + i), (4, 29 + i)], g)) rfl
  dsimp only at h
  have h := zgf zy_62 h rfl rfl (dvf_237_0 hi0 hi16)
  have h : zr sv L n 62 5 (dset (dset lf 1 (4, 237 + i)) 0 (4, 29 + i)) [(0, g ((237 + i).toNat) 0), (4, 29 + i)] (g) o := by first | exact h | (rw [cup_at] at h; exact h) | ((repeat rw [cup_ne (by omega)] at h); exact h)
  have h := zm zy_62 h 3 (q := (10, dset (dset lf 1 (4, 237 + i)) 0 (4, 29 + i), [(4, 237 + i), (4, 29 + i)], cup g ((29 + i).toNat) 0 (g ((237 + i).toNat) 0))) rfl
  dsimp only at h
  have h := zgf zy_62 h rfl rfl (dvf_237_1 hi0 hi16)
  have h : zr sv L n 62 13 (dset (dset lf 1 (4, 237 + i)) 0 (4, 29 + i)) [(0, g ((237 + i).toNat) 1), (4, 29 + i)] (cup g ((29 + i).toNat) 0 (g ((237 + i).toNat) 0)) o := by first | exact h | (rw [cup_at] at h; exact h) | ((repeat rw [cup_ne (by omega)] at h); exact h)
  have h := zm zy_62 h 3 (q := (18, dset (dset lf 1 (4, 237 + i)) 0 (4, 29 + i), [(4, 237 + i), (4, 29 + i)], cup (cup g ((29 + i).toNat) 0 (g ((237 + i).toNat) 0)) ((29 + i).toNat) 1 (g ((237 + i).toNat) 1))) rfl
  dsimp only at h
  have h := zgf zy_62 h rfl rfl (dvf_237_2 hi0 hi16)
  have h : zr sv L n 62 21 (dset (dset lf 1 (4, 237 + i)) 0 (4, 29 + i)) [(0, g ((237 + i).toNat) 2), (4, 29 + i)] (cup (cup g ((29 + i).toNat) 0 (g ((237 + i).toNat) 0)) ((29 + i).toNat) 1 (g ((237 + i).toNat) 1)) o := by first | exact h | (rw [cup_at] at h; exact h) | ((repeat rw [cup_ne (by omega)] at h); exact h)
  have h := zm zy_62 h 3 (q := (26, dset (dset lf 1 (4, 237 + i)) 0 (4, 29 + i), [(4, 237 + i), (4, 29 + i)], cup (cup (cup g ((29 + i).toNat) 0 (g ((237 + i).toNat) 0)) ((29 + i).toNat) 1 (g ((237 + i).toNat) 1)) ((29 + i).toNat) 2 (g ((237 + i).toNat) 2))) rfl
  dsimp only at h
  have h := zgf zy_62 h rfl rfl (dvf_237_3 hi0 hi16)
  have h : zr sv L n 62 29 (dset (dset lf 1 (4, 237 + i)) 0 (4, 29 + i)) [(0, g ((237 + i).toNat) 3), (4, 29 + i)] (cup (cup (cup g ((29 + i).toNat) 0 (g ((237 + i).toNat) 0)) ((29 + i).toNat) 1 (g ((237 + i).toNat) 1)) ((29 + i).toNat) 2 (g ((237 + i).toNat) 2)) o := by first | exact h | (rw [cup_at] at h; exact h) | ((repeat rw [cup_ne (by omega)] at h); exact h)
  have h := zm zy_62 h 3 (q := (34, dset (dset lf 1 (4, 237 + i)) 0 (4, 29 + i), [(4, 237 + i), (4, 29 + i)], cup (cup (cup (cup g ((29 + i).toNat) 0 (g ((237 + i).toNat) 0)) ((29 + i).toNat) 1 (g ((237 + i).toNat) 1)) ((29 + i).toNat) 2 (g ((237 + i).toNat) 2)) ((29 + i).toNat) 3 (g ((237 + i).toNat) 3))) rfl
  dsimp only at h
  have h := zgf zy_62 h rfl rfl (dvf_237_4 hi0 hi16)
  have h : zr sv L n 62 37 (dset (dset lf 1 (4, 237 + i)) 0 (4, 29 + i)) [(0, g ((237 + i).toNat) 4), (4, 29 + i)] (cup (cup (cup (cup g ((29 + i).toNat) 0 (g ((237 + i).toNat) 0)) ((29 + i).toNat) 1 (g ((237 + i).toNat) 1)) ((29 + i).toNat) 2 (g ((237 + i).toNat) 2)) ((29 + i).toNat) 3 (g ((237 + i).toNat) 3)) o := by first | exact h | (rw [cup_at] at h; exact h) | ((repeat rw [cup_ne (by omega)] at h); exact h)
  have h := zm zy_62 h 3 (q := (42, dset (dset lf 1 (4, 237 + i)) 0 (4, 29 + i), [(4, 237 + i), (4, 29 + i)], cup (cup (cup (cup (cup g ((29 + i).toNat) 0 (g ((237 + i).toNat) 0)) ((29 + i).toNat) 1 (g ((237 + i).toNat) 1)) ((29 + i).toNat) 2 (g ((237 + i).toNat) 2)) ((29 + i).toNat) 3 (g ((237 + i).toNat) 3)) ((29 + i).toNat) 4 (g ((237 + i).toNat) 4))) rfl
  dsimp only at h
  have h := zgf zy_62 h rfl rfl (dvf_237_5 hi0 hi16)
  have h : zr sv L n 62 45 (dset (dset lf 1 (4, 237 + i)) 0 (4, 29 + i)) [(0, g ((237 + i).toNat) 5), (4, 29 + i)] (cup (cup (cup (cup (cup g ((29 + i).toNat) 0 (g ((237 + i).toNat) 0)) ((29 + i).toNat) 1 (g ((237 + i).toNat) 1)) ((29 + i).toNat) 2 (g ((237 + i).toNat) 2)) ((29 + i).toNat) 3 (g ((237 + i).toNat) 3)) ((29 + i).toNat) 4 (g ((237 + i).toNat) 4)) o := by first | exact h | (rw [cup_at] at h; exact h) | ((repeat rw [cup_ne (by omega)] at h); exact h)
  have h := zm zy_62 h 3 (q := (50, dset (dset lf 1 (4, 237 + i)) 0 (4, 29 + i), [(4, 237 + i), (4, 29 + i)], cup (cup (cup (cup (cup (cup g ((29 + i).toNat) 0 (g ((237 + i).toNat) 0)) ((29 + i).toNat) 1 (g ((237 + i).toNat) 1)) ((29 + i).toNat) 2 (g ((237 + i).toNat) 2)) ((29 + i).toNat) 3 (g ((237 + i).toNat) 3)) ((29 + i).toNat) 4 (g ((237 + i).toNat) 4)) ((29 + i).toNat) 5 (g ((237 + i).toNat) 5))) rfl
  dsimp only at h
  have h := zgf zy_62 h rfl rfl (dvf_237_6 hi0 hi16)
  have h : zr sv L n 62 53 (dset (dset lf 1 (4, 237 + i)) 0 (4, 29 + i)) [(0, g ((237 + i).toNat) 6), (4, 29 + i)] (cup (cup (cup (cup (cup (cup g ((29 + i).toNat) 0 (g ((237 + i).toNat) 0)) ((29 + i).toNat) 1 (g ((237 + i).toNat) 1)) ((29 + i).toNat) 2 (g ((237 + i).toNat) 2)) ((29 + i).toNat) 3 (g ((237 + i).toNat) 3)) ((29 + i).toNat) 4 (g ((237 + i).toNat) 4)) ((29 + i).toNat) 5 (g ((237 + i).toNat) 5)) o := by first | exact h | (rw [cup_at] at h; exact h) | ((repeat rw [cup_ne (by omega)] at h); exact h)
  have h := zm zy_62 h 3 (q := (58, dset (dset lf 1 (4, 237 + i)) 0 (4, 29 + i), [(4, 237 + i), (4, 29 + i)], cup (cup (cup (cup (cup (cup (cup g ((29 + i).toNat) 0 (g ((237 + i).toNat) 0)) ((29 + i).toNat) 1 (g ((237 + i).toNat) 1)) ((29 + i).toNat) 2 (g ((237 + i).toNat) 2)) ((29 + i).toNat) 3 (g ((237 + i).toNat) 3)) ((29 + i).toNat) 4 (g ((237 + i).toNat) 4)) ((29 + i).toNat) 5 (g ((237 + i).toNat) 5)) ((29 + i).toNat) 6 (g ((237 + i).toNat) 6))) rfl
  dsimp only at h
  have h := zgf zy_62 h rfl rfl (dvf_237_7 hi0 hi16)
  have h : zr sv L n 62 61 (dset (dset lf 1 (4, 237 + i)) 0 (4, 29 + i)) [(0, g ((237 + i).toNat) 7), (4, 29 + i)] (cup (cup (cup (cup (cup (cup (cup g ((29 + i).toNat) 0 (g ((237 + i).toNat) 0)) ((29 + i).toNat) 1 (g ((237 + i).toNat) 1)) ((29 + i).toNat) 2 (g ((237 + i).toNat) 2)) ((29 + i).toNat) 3 (g ((237 + i).toNat) 3)) ((29 + i).toNat) 4 (g ((237 + i).toNat) 4)) ((29 + i).toNat) 5 (g ((237 + i).toNat) 5)) ((29 + i).toNat) 6 (g ((237 + i).toNat) 6)) o := by first | exact h | (rw [cup_at] at h; exact h) | ((repeat rw [cup_ne (by omega)] at h); exact h)
  have h := zm zy_62 h 1 (q := (64, dset (dset lf 1 (4, 237 + i)) 0 (4, 29 + i), [], cup (cup (cup (cup (cup (cup (cup (cup g ((29 + i).toNat) 0 (g ((237 + i).toNat) 0)) ((29 + i).toNat) 1 (g ((237 + i).toNat) 1)) ((29 + i).toNat) 2 (g ((237 + i).toNat) 2)) ((29 + i).toNat) 3 (g ((237 + i).toNat) 3)) ((29 + i).toNat) 4 (g ((237 + i).toNat) 4)) ((29 + i).toNat) 5 (g ((237 + i).toNat) 5)) ((29 + i).toNat) 6 (g ((237 + i).toNat) 6)) ((29 + i).toNat) 7 (g ((237 + i).toNat) 7))) rfl
  dsimp only at h
  exact zret zy_62 h rfl rfl
theorem c_tri_3_211 {sv : Nat → Int32} {L n : Nat} {lf : dlf} {g : cg} {o : cg × Option cv} (h : zr sv L n 63 0 lf [] g o) (h0 : lf 0 = (4, 8)) (h1 : lf 1 = (4, 216)) : o = (ccp (ccp (ccp (ccp (ccp (ccp (ccp (ccp (cup (cup (cup g 8 0 (g 216 0)) 8 1 (g 216 1)) 8 2 (g 216 2)) 217 9 0 0 ((g 216 2).toNat)) 218 10 0 0 ((g 216 2).toNat)) 219 11 0 0 ((g 216 2).toNat)) 220 12 0 0 ((g 216 2).toNat)) 221 13 0 0 ((g 216 2).toNat)) 222 14 0 0 ((g 216 2).toNat)) 223 15 0 0 ((g 216 2).toNat)) 224 16 0 0 ((g 216 2).toNat), none) := by
  rw [zov h0, zov h1] at h
  have h := zm zy_63 h 84 (q := (160, dset (dset lf 1 (4, 216)) 0 (4, 8), [], ccp (ccp (ccp (ccp (ccp (ccp (ccp (ccp (cup (cup (cup g 8 0 (g 216 0)) 8 1 (g 216 1)) 8 2 (g 216 2)) 217 9 0 0 ((g 216 2).toNat)) 218 10 0 0 ((g 216 2).toNat)) 219 11 0 0 ((g 216 2).toNat)) 220 12 0 0 ((g 216 2).toNat)) 221 13 0 0 ((g 216 2).toNat)) 222 14 0 0 ((g 216 2).toNat)) 223 15 0 0 ((g 216 2).toNat)) 224 16 0 0 ((g 216 2).toNat))) rfl
  dsimp only at h
  exact zret zy_63 h rfl rfl
end
