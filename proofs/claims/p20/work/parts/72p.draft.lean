/-! the drafts of both programs -/
def O8 (c' c : cg) : Prop := ∀ k : Nat, k ≠ 88 → c' k = c k
def OM (d' d : cg) : Prop := (∀ k : Nat, k ≠ 253 → d' k = d k) ∧ d' 253 20 = d 253 20 ∧ d' 253 18 = d 253 18
theorem FT.o8 {c' c : cg} (h : FT c' c) : O8 c' c := fun _ hk => h.row hk
theorem FTM.o8 {c' c : cg} (h : FTM c' c) : O8 c' c := h.1.o8
theorem FM.om {d' d : cg} (h : FM d' d) : OM d' d := ⟨fun _ hk => h.row hk, h 253 20 (by omega), h 253 18 (by omega)⟩
theorem O8.rf (c : cg) : O8 c c := fun _ _ => rfl
theorem O8.tr {a b e : cg} (h : O8 a b) (h' : O8 b e) : O8 a e := fun k hk => (h k hk).trans (h' k hk)
theorem OM.tr {a b e : cg} (h : OM a b) (h' : OM b e) : OM a e := ⟨fun k hk => (h.1 k hk).trans (h'.1 k hk), h.2.1.trans h'.2.1, h.2.2.trans h'.2.2⟩
theorem O8.cup {a b : cg} (h : O8 a b) (k j : Nat) (z : Int) : O8 (cup a k j z) (cup b k j z) := by
  intro k' hk
  funext j'
  show (if k' = k ∧ j' = j then z else a k' j') = (if k' = k ∧ j' = j then z else b k' j')
  rw [h k' hk]
theorem OM.cup {a b : cg} (h : OM a b) {k : Nat} (hk : k ≠ 253) (j : Nat) (z : Int) : OM (cup a k j z) (cup b k j z) := by
  refine ⟨fun k' hk' => ?_, ?_, ?_⟩
  · funext j'
    show (if k' = k ∧ j' = j then z else a k' j') = (if k' = k ∧ j' = j then z else b k' j')
    rw [h.1 k' hk']
  · rw [cup_ne (fun e => hk e.1.symm), cup_ne (fun e => hk e.1.symm)]
    exact h.2.1
  · rw [cup_ne (fun e => hk e.1.symm), cup_ne (fun e => hk e.1.symm)]
    exact h.2.2
def PRr (c d : cg) (i : Nat) : Prop := c (59 + 2 * i) 1 = d 254 (2991 + 6 * i) ∧ c (59 + 2 * i) 2 = d 254 (2991 + 6 * i + 1) ∧ c (59 + 2 * i) 3 = d 254 (2991 + 6 * i + 2) ∧ c (59 + 2 * i) 4 = d 254 (2991 + 6 * i + 3) ∧ c (59 + 2 * i) 5 = d 254 (2991 + 6 * i + 4) ∧ ∀ h : Nat, h < 8 → c (60 + 2 * i) h = d 254 (3027 + 8 * i + h)
/-- which rates have been told -/
def TR (t t' : Int) : Prop := ∃ x y z : Nat, x < 2 ∧ y < 2 ∧ z < 2 ∧ t = ((2048 * x + 4096 * y + 8192 * z : Nat) : Int) ∧ t' = ((32 * x + 64 * y + 128 * z : Nat) : Int)
/-- a person's numbers are as they can be -/
def GPd (c : cg) (np i : Nat) : Prop := (0 ≤ c (59 + 2 * i) 1 ∧ c (59 + 2 * i) 1 ≤ 999) ∧ c (59 + 2 * i) 4 ≠ (i : Int) ∧ ∀ h : Nat, h < 8 → c (60 + 2 * i) h < (np : Int)
theorem GPd.fr {c c' : cg} {np np' i : Nat} (h : GPd c np i) (e1 : c' (59 + 2 * i) 1 = c (59 + 2 * i) 1) (e4 : c' (59 + 2 * i) 4 = c (59 + 2 * i) 4) (eh : ∀ h : Nat, h < 8 → c' (60 + 2 * i) h = c (60 + 2 * i) h) (hn : np ≤ np') : GPd c' np' i := by
  obtain ⟨h1, h2, h3⟩ := h
  refine ⟨by rw [e1]; exact h1, by rw [e4]; exact h2, fun j hj => ?_⟩
  have := h3 j hj
  rw [eh j hj]
  omega
def DR (c d : cg) (np nq : Nat) : Prop := (np ≤ 5 ∧ nq ≤ 6) ∧ (c 45 0 = (np : Int) ∧ d 254 2976 = (np : Int) ∧ c 45 3 = (nq : Int) ∧ d 254 2977 = (nq : Int)) ∧ NP c d np ∧ NQ c d nq ∧ (∀ i : Nat, i < np → c 46 i = d 254 (2986 + i)) ∧ (∀ i : Nat, i < nq → PRr c d i) ∧ (∀ i : Nat, nq ≤ i → i < 6 → d 254 (2991 + 6 * i + 4) = 0 ∧ ∀ h : Nat, h < 8 → d 254 (3027 + 8 * i + h) = -1) ∧ (c 45 5 = d 254 2979 ∧ c 45 6 = d 254 2980 ∧ c 45 7 = d 254 2981 ∧ c 45 8 = 0 ∧ d 254 2982 = 0 ∧ c 45 9 = 0 ∧ d 254 2978 = 0) ∧ TR (c 90 4) (d 253 20) ∧ (∀ i : Nat, i < nq → GPd c np i) ∧ c 50 0 = 0 ∧ d 254 2983 = -1
theorem DR.fr {c d c' d' : cg} {np nq : Nat} (h : DR c d np nq) (hc : O8 c' c) (hd : OM d' d) : DR c' d' np nq := by
  obtain ⟨⟨a1, a2⟩, a3, a4, a5, a6, a7, a8, a9, a10⟩ := h
  have d4 : d' 254 = d 254 := hd.1 254 (by decide)
  have d5 : d' 255 = d 255 := hd.1 255 (by decide)
  refine ⟨⟨a1, a2⟩, ?_, ?_, ?_, ?_, ?_, ?_, ?_, ?_⟩
  · rw [hc 45 (by decide), d4]; exact a3
  · intro i hi
    rw [hc 47 (by decide), d5]; exact a4 i hi
  · intro i hi
    rw [hc (59 + 2 * i) (by omega), d5]; exact a5 i hi
  · rw [hc 46 (by decide), d4]; exact a6
  · intro i hi
    unfold PRr
    rw [hc (59 + 2 * i) (by omega), hc (60 + 2 * i) (by omega), d4]; exact a7 i hi
  · rw [d4]; exact a8
  · rw [hc 45 (by decide), d4]; exact a9
  · exact ⟨by rw [hc 90 (by decide), hd.2.1]; exact a10.1, fun i hi => (a10.2.1 i hi).fr (by rw [hc _ (by omega)]) (by rw [hc _ (by omega)]) (fun h _ => by rw [hc _ (by omega)]) (Nat.le_refl np), by rw [hc 50 (by decide)]; exact a10.2.2.1, by rw [d4]; exact a10.2.2.2⟩
theorem DR.place {c d : cg} {np nq : Nat} {w V r : Int} (h : DR c d np nq) (hn : np < 5) (hw : NR w V) : DR (cup (cup (cup c 47 np w) 46 np r) 45 0 ((np + 1 : Nat) : Int)) (cup (cup (cup d 255 (48 + np) V) 254 (2986 + np) r) 254 2976 ((np + 1 : Nat) : Int)) (np + 1) nq := by
  obtain ⟨⟨a1, a2⟩, ⟨b1, b2, b3, b4⟩, a4, a5, a6, a7, a8, ⟨e1, e2, e3, e4, e5, e6, e7⟩, a10⟩ := h
  have C : ∀ k j : Nat, ¬ (k = 45 ∧ j = 0) → ¬ (k = 46 ∧ j = np) → ¬ (k = 47 ∧ j = np) → cup (cup (cup c 47 np w) 46 np r) 45 0 ((np + 1 : Nat) : Int) k j = c k j := fun k j x y z => by rw [cup_ne x, cup_ne y, cup_ne z]
  have D : ∀ k j : Nat, ¬ (k = 254 ∧ j = 2976) → ¬ (k = 254 ∧ j = 2986 + np) → ¬ (k = 255 ∧ j = 48 + np) → cup (cup (cup d 255 (48 + np) V) 254 (2986 + np) r) 254 2976 ((np + 1 : Nat) : Int) k j = d k j := fun k j x y z => by rw [cup_ne x, cup_ne y, cup_ne z]
  refine ⟨⟨by omega, a2⟩, ⟨?_, ?_, ?_, ?_⟩, ?_, ?_, ?_, ?_, ?_, ⟨?_, ?_, ?_, ?_, ?_, ?_, ?_⟩, ?_⟩
  · rw [cup_at]
  · rw [cup_at]
  · rw [C _ _ (by omega) (by omega) (by omega)]; exact b3
  · rw [D _ _ (by omega) (by omega) (by omega)]; exact b4
  · intro i hi
    by_cases e : i = np
    · rw [e, cup_ne (by omega), cup_ne (by omega), cup_at, cup_ne (by omega), cup_ne (by omega), cup_at]
      exact hw
    · rw [C _ _ (by omega) (by omega) (by omega), D _ _ (by omega) (by omega) (by omega)]
      exact a4 i (by omega)
  · intro i hi
    rw [C _ _ (by omega) (by omega) (by omega), D _ _ (by omega) (by omega) (by omega)]
    exact a5 i hi
  · intro i hi
    by_cases e : i = np
    · rw [e, cup_ne (by omega), cup_at, cup_ne (by omega), cup_at]
    · rw [C _ _ (by omega) (by omega) (by omega), D _ _ (by omega) (by omega) (by omega)]
      exact a6 i (by omega)
  · intro i hi
    obtain ⟨p1, p2, p3, p4, p5, p6⟩ := a7 i hi
    refine ⟨?_, ?_, ?_, ?_, ?_, fun h hh => ?_⟩
    all_goals rw [C _ _ (by omega) (by omega) (by omega), D _ _ (by omega) (by omega) (by omega)]
    · exact p1
    · exact p2
    · exact p3
    · exact p4
    · exact p5
    · exact p6 h hh
  · intro i hi hi6
    refine ⟨?_, fun h hh => ?_⟩
    · rw [D _ _ (by omega) (by omega) (by omega)]; exact (a8 i hi hi6).1
    · rw [D _ _ (by omega) (by omega) (by omega)]; exact (a8 i hi hi6).2 h hh
  · rw [C _ _ (by omega) (by omega) (by omega), D _ _ (by omega) (by omega) (by omega)]; exact e1
  · rw [C _ _ (by omega) (by omega) (by omega), D _ _ (by omega) (by omega) (by omega)]; exact e2
  · rw [C _ _ (by omega) (by omega) (by omega), D _ _ (by omega) (by omega) (by omega)]; exact e3
  · rw [C _ _ (by omega) (by omega) (by omega)]; exact e4
  · rw [D _ _ (by omega) (by omega) (by omega)]; exact e5
  · rw [C _ _ (by omega) (by omega) (by omega)]; exact e6
  · rw [D _ _ (by omega) (by omega) (by omega)]; exact e7
  · exact ⟨by rw [C _ _ (by omega) (by omega) (by omega), D _ _ (by omega) (by omega) (by omega)]; exact a10.1, fun i hi => (a10.2.1 i hi).fr (C _ _ (by omega) (by omega) (by omega)) (C _ _ (by omega) (by omega) (by omega)) (fun h _ => C _ _ (by omega) (by omega) (by omega)) (Nat.le_succ np), by rw [C _ _ (by omega) (by omega) (by omega)]; exact a10.2.2.1, by rw [D _ _ (by omega) (by omega) (by omega)]; exact a10.2.2.2⟩
/-- all that both sides have in common between two statements -/
def SY (c d : cg) (m np nq : Nat) : Prop := TE c d m ∧ TQ c d m ∧ DR c d np nq ∧ d 253 18 = 0
def ST (c0 c d : cg) (r r' : Int) (m : Nat) : Prop := (r = 1 ∧ r' = 1 ∧ (∃ np nq, SY c d m np nq) ∧ c0 88 5 < c 88 5) ∨ (r = 0 ∧ r' = 0 ∧ FLT c d)
section Stm
variable {sv : Nat → Int32} {L : Nat} {n n' : Nat} {lf lf' : dlf} {c d c' d' : cg} {m : Nat} {r r' : Int}
/-- a new name: what isNewName() says, and the reference's newOne() at that place -/
theorem new_pr {np nq : Nat} {x : cg × Option cv} {K : cg → Prop} (hE : TE c d m) (hT : TQ c d m) (hD : DR c d np nq) (hf : d 253 18 = 0) (h : zr sv L n 55 0 lf [] c (c', some (0, r))) (h0 : lf 0 = (4, 90))
    (h' : ∃ g3 r4, zr sv L n' 181 0 (darg 0 [(4, 253), (6, 3)]) [] d (g3, some (0, r4)) ∧ ((r4 ≠ 0 ∧ (∃ g6 r7, zr sv L n' 182 0 (darg 0 [(4, 253), (0, 48), (0, g3 254 2976)]) [] g3 (g6, some (0, r7)) ∧ ((r7 ≠ (-1) ∧ (∃ g9 r10, zr sv L n' 173 0 (darg 0 [(4, 253), (0, 3)]) [] g6 (g9, some (0, r10)) ∧ (x = (g9, some (0, r10))))) ∨ (r7 = (-1) ∧ (∃ g11 r12, zr sv L n' 182 0 (darg 0 [(4, 253), (0, 53), (0, g6 254 2977)]) [] g6 (g11, some (0, r12)) ∧ ((r12 = (-1) ∧ K g11) ∨ (r12 ≠ (-1) ∧ (∃ g17 r18, zr sv L n' 173 0 (darg 0 [(4, 253), (0, 3)]) [] g11 (g17, some (0, r18)) ∧ (x = (g17, some (0, r18))))))))))) ∨ (r4 = 0 ∧ (∃ g19 r20, zr sv L n' 173 0 (darg 0 [(4, 253), (0, 2)]) [] g3 (g19, some (0, r20)) ∧ (x = (g19, some (0, r20))))))) :
    (r = 1 ∧ c' = c ∧ c 88 4 = 2 ∧ K d ∧ ∃ V, NH sv L d V ∧ NR (c 88 6) V) ∨ (r = 0 ∧ ∃ g9 r10, x = (g9, some (0, r10)) ∧ r10 = 0 ∧ FLT c' g9) := by
  obtain ⟨⟨a1, a2⟩, ⟨b1, b2, b3, b4⟩, a4, a5, -⟩ := hD
  obtain ⟨g3, r4, k1, h'⟩ := h'
  obtain ⟨e1, e2⟩ := tq_name hE hT k1 rfl rfl
  rw [e1] at h'
  rcases t_isNew h h0 with ⟨x1, g2, r3, k2, h⟩ | ⟨x1, g12, r13, k2, h⟩
  · have hr4 : r4 = 1 := by
      rcases e2 with ⟨z1, z2⟩ | ⟨z1, z2⟩
      · exact z2
      · exact absurd x1 z1
    obtain ⟨V, hV, hNR⟩ := tq_nh (sv := sv) (L := L) hE hT x1
    obtain ⟨e3, e4⟩ := plc_ok k2 rfl rfl b1 a1
    rw [e3] at h
    rcases h' with ⟨y1, g6, r7, k3, h'⟩ | ⟨y1, y2⟩
    · rw [b2] at k3
      obtain ⟨e5, e6⟩ := fnd_ok (b := 48) (k := np) k3 rfl rfl rfl hV (by omega)
      rw [e5] at h'
      obtain ⟨e7, e8⟩ := FI_eq e4 e6 (fun i hi => NR_eq (a4 i hi) hNR)
      rcases h with ⟨u1, g5, r6, k4, h⟩ | ⟨u1, g7, r8, k4, h⟩
      · obtain ⟨e9, e10⟩ := oI h
        rcases h' with ⟨v1, g9, r10, k5, v2⟩ | ⟨v1, v2⟩
        · obtain ⟨z1, z2, z3⟩ := fail_pr hT hf (by decide) k4 rfl rfl k5 rfl rfl
          exact Or.inr ⟨by rw [e10, z1], g9, r10, v2, z2, by rw [e9]; exact z3⟩
        · exact absurd (by rw [e7]; exact v1) u1
      · rcases h' with ⟨v1, v2⟩ | ⟨v1, g11, r12, k5, h'⟩
        · exact absurd (by rw [← e7]; exact u1) v1
        · obtain ⟨e9, e10⟩ := per_ok k4 rfl rfl b3 a2
          rw [e9] at h
          rw [b4] at k5
          obtain ⟨e11, e12⟩ := fnd_ok (b := 53) (k := nq) k5 rfl rfl rfl hV (by omega)
          rw [e11] at h'
          obtain ⟨e13, e14⟩ := FI_eq e10 e12 (fun i hi => NR_eq (a5 i hi) hNR)
          rcases h with ⟨w1, w2⟩ | ⟨w1, g10, r11, k6, w2⟩
          · obtain ⟨f1, f2⟩ := oI w2
            rcases h' with ⟨t1, t2⟩ | ⟨t1, t2⟩
            · exact Or.inl ⟨f2, f1, x1, t2, V, hV, hNR⟩
            · exact absurd (by rw [← e13]; exact w1) t1
          · obtain ⟨f1, f2⟩ := oI w2
            rcases h' with ⟨t1, t2⟩ | ⟨t1, g17, r18, k7, t2⟩
            · exact absurd (by rw [e13]; exact t1) w1
            · obtain ⟨z1, z2, z3⟩ := fail_pr hT hf (by decide) k6 rfl rfl k7 rfl rfl
              exact Or.inr ⟨by rw [f2, z1], g17, r18, t2, z2, by rw [f1]; exact z3⟩
    · rw [hr4] at y1
      exact absurd y1 (by decide)
  · have hr4 : r4 = 0 := by
      rcases e2 with ⟨z1, z2⟩ | ⟨z1, z2⟩
      · exact absurd z1 x1
      · exact z2
    obtain ⟨e9, e10⟩ := oI h
    rcases h' with ⟨y1, y2⟩ | ⟨y1, g19, r20, k3, y2⟩
    · exact absurd hr4 y1
    · obtain ⟨z1, z2, z3⟩ := fail_pr hT hf (by decide) k2 rfl rfl k3 rfl rfl
      exact Or.inr ⟨by rw [e10, z1], g19, r20, y2, z2, by rw [e9]; exact z3⟩
/-- the end of a statement: r1 of the reference's part, and the sign behind it -/
theorem end_pr {np nq : Nat} {r1 : Int} (hE : TE c d m) (hT : TQ c d m) (hf : d 253 18 = 0) (h : zr sv L n 42 0 lf [] c (c', some (0, r))) (h0 : lf 0 = (4, 88)) (h' : zr sv L n' 171 129 lf' [] d (d', some (0, r'))) (h0' : lf' 0 = (4, 253)) (h1' : lf' 1 = (0, r1)) (hr1 : r1 ≠ 0) : (r = 1 ∧ r' = 1 ∧ SU c d c' d' m) ∨ (r = 0 ∧ r' = 0 ∧ FLT c' d') := by
  rcases m_part129 h' h0' h1' with ⟨x1, x2⟩ | ⟨x1, g2, r3, k1, x2⟩
  · exact absurd x1 hr1
  · rcases stop_pr hE hT hf h h0 k1 rfl rfl with ⟨y1, y2, y3⟩ | ⟨y1, y2, y3⟩
    · rcases x2 with ⟨z1, z2⟩ | ⟨z1, z2⟩
      · omega
      · obtain ⟨e1, e2⟩ := oI z2
        exact Or.inl ⟨y1, e2, by rw [e1]; exact y3⟩
    · rcases x2 with ⟨z1, z2⟩ | ⟨z1, z2⟩
      · obtain ⟨e1, e2⟩ := oI z2
        exact Or.inr ⟨y1, e2, by rw [e1]; exact y3⟩
      · omega
/-- a part that failed: its end -/
theorem end_0 {r1 : Int} (h' : zr sv L n' 171 129 lf' [] d (d', some (0, r'))) (h0' : lf' 0 = (4, 253)) (h1' : lf' 1 = (0, r1)) (hr1 : r1 = 0) : d' = d ∧ r' = 0 := by
  rcases m_part129 h' h0' h1' with ⟨x1, x2⟩ | ⟨x1, x2⟩
  · exact oI x2
  · exact absurd hr1 x1
/-- a place -/
theorem place_pr {np nq : Nat} {d1 : cg} {r1 : Int} (hS : SY c d m np nq) (hk : c 88 7 ≠ -1) (h : zr sv L n 58 0 lf [] c (c', some (0, r))) (h0 : lf 0 = (4, 90)) {lf2 : dlf} (h2 : zr sv L n' 190 0 lf2 [] d (d1, some (0, r1))) (h20 : lf2 0 = (4, 253)) (h' : zr sv L n' 171 129 lf' [] d1 (d', some (0, r'))) (h0' : lf' 0 = (4, 253)) (h1' : lf' 1 = (0, r1)) : ST c c' d' r r' m := by
  obtain ⟨hE, hT, hD, hf⟩ := hS
  have hD0 := hD
  obtain ⟨⟨a1, a2⟩, ⟨b1, b2, b3, b4⟩, -⟩ := hD0
  obtain ⟨g1, r2, k1, h2⟩ := m_aPlace h2 h20
  have bad : r1 = 0 → r = 0 → FLT c' d1 → ST c c' d' r r' m := by
    intro z1 z2 z3
    obtain ⟨e1, e2⟩ := end_0 h' h0' h1' z1
    exact Or.inr ⟨z2, e2, by rw [e1]; exact z3⟩
  rcases t_takePlc h h0 with ⟨x1, g2, k2, g3, r4, k3, h⟩ | ⟨x1, g16, r17, k2, h⟩
  · rw [b1] at x1
    rcases m_newPlc k1 rfl rfl rfl rfl with ⟨y1, d2, k4, hn⟩ | ⟨y1, y2⟩
    · obtain ⟨s1, s2, s3, s4⟩ := adv_su (c0 := c) hE hT (Or.inl (tq_kk hT hk)) k2 rfl k4 rfl
      have hD2 := hD.fr s1.o8 s2.om
      have hf2 : d2 253 18 = 0 := s2.om.2.2.trans hf
      rcases new_pr s3 s4 hD2 hf2 k3 rfl hn with ⟨z1, z2, z3, ⟨d3, V', k5, d4, k6, z4⟩, V, z5, z6⟩ | ⟨z1, d9, r10, z2, z3, z4⟩
      · obtain ⟨e1, e2⟩ := z5 _ _ _ _ k5 rfl
        rw [e1, e2, show (w32 (48 + (d2 254 2976))).toNat = 48 + np by rw [hD2.2.1.2.1, w32_id (by omega) (by omega)]; omega] at k6
        obtain ⟨e3, e4⟩ := oI z4
        rcases h with ⟨u1, c3, k7, c4, r8, k8, h⟩ | ⟨u1, u2⟩
        · rw [z2, show (g2 45 0).toNat = np by rw [hD2.2.1.1]; rfl] at k7
          have q1 : cup g2 47 np (g2 88 6) 88 = g2 88 := cup_row g2 _ _ (by decide)
          have q2 : cup g2 47 np (g2 88 6) 2 = g2 2 := cup_row g2 _ _ (by decide)
          have q3 : cup g2 47 np (g2 88 6) 89 = g2 89 := cup_row g2 _ _ (by decide)
          have q4 : cup d2 255 (48 + np) V 253 = d2 253 := cup_row d2 _ _ (by decide)
          have q5 : cup d2 255 (48 + np) V 260 = d2 260 := cup_row d2 _ _ (by decide)
          obtain ⟨v1, v2, v3, v4⟩ := adv_su (c0 := c) (s3.up q1 q2 q3 q4 q5) (s4.up q1 q4 q5) (Or.inr (Or.inl (by rw [q1]; exact z3))) k7 rfl k6 rfl
          have hf3 : d4 253 18 = 0 := by rw [v2.om.2.2, q4]; exact hf2
          rw [e3] at h2
          rcases h2 with ⟨w1, w2⟩ | ⟨w1, d5, r5, k9, h2⟩
          · omega
          · rcases pass_pr (i := 1) (by decide) v3 v4 hf3 k8 rfl rfl k9 rfl rfl rfl with ⟨f1, f2, f3, f4, f5, f6⟩ | ⟨f1, f2, f3⟩
            · have hf5 : d5 253 18 = 0 := f4.om.2.2.trans hf3
              have hn4 : d5 254 2976 = (np : Int) := by
                rw [f4.om.1 254 (by decide), v2.om.1 254 (by decide), cup_ne (by omega)]
                exact hD2.2.1.2.1
              rcases h2 with ⟨w2, w3⟩ | ⟨w2, d7, r8', k10, h2⟩
              · omega
              · rw [hn4, show w32 (2986 + (np : Int)) = ((2986 + np : Nat) : Int) by rw [w32_id (by omega) (by omega)]; omega] at k10
                rcases h with ⟨j1, c10, r11, k11, h⟩ | ⟨j1, j2⟩
                · rcases num_pr (lo := 0) (hi := 60) (to := ((2986 + np : Nat) : Int)) (by decide) f5 f6 hf5 k11 rfl rfl rfl k10 rfl rfl rfl rfl with ⟨i1, i2, i3, i4, i5, i6, i7⟩ | ⟨i1, i2, i3⟩
                  · rw [show (((2986 + np : Nat) : Int)).toNat = 2986 + np from rfl] at i5
                    have hn7 : d7 254 2976 = (np : Int) := by
                      rw [i5.om.1 254 (by decide), cup_ne (by omega)]
                      exact hn4
                    have hf7 : d7 253 18 = 0 := by
                      rw [i5.om.2.2, cup_ne (by omega)]
                      exact hf5
                    rcases h2 with ⟨w4, w5⟩ | ⟨w4, w5⟩
                    · obtain ⟨l1, l2⟩ := oI w5
                      rcases h with ⟨p1, p2⟩ | ⟨p1, c13, r14, k12, h⟩
                      · omega
                      · rw [hn7, show w32 ((np : Int) + 1) = ((np + 1 : Nat) : Int) from w32_id (by omega) (by omega)] at l1
                        rw [l1] at h'
                        have q6 : cup d7 254 2976 ((np + 1 : Nat) : Int) 253 = d7 253 := cup_row d7 _ _ (by decide)
                        have q7 : cup d7 254 2976 ((np + 1 : Nat) : Int) 260 = d7 260 := cup_row d7 _ _ (by decide)
                        rcases end_pr (np := np) (nq := nq) (i6.up rfl rfl rfl q6 q7) (i7.up rfl q6 q7) (by rw [q6]; exact hf7) k12 rfl h' h0' h1' (by omega) with ⟨o1, o2, o3, o4, o5, o6⟩ | ⟨o1, o2, o3⟩
                        · rcases h with ⟨p2, p3⟩ | ⟨p2, p3⟩
                          · obtain ⟨l3, l4⟩ := oI p3
                            have hc13 : O8 c13 (cup g2 47 np (g2 88 6)) := o3.o8.tr (i4.o8.tr (f3.o8.tr v1.o8))
                            have hn13 : c13 45 0 = (np : Int) := by
                              rw [hc13 45 (by decide), cup_ne (by omega)]
                              exact hD2.2.1.1
                            rw [hn13, show ((np : Int)).toNat = np from rfl, show w32 ((np : Int) + 1) = ((np + 1 : Nat) : Int) from w32_id (by omega) (by omega)] at l3
                            have hd' : OM d' (cup (cup (cup d2 255 (48 + np) V) 254 (2986 + np) r11) 254 2976 ((np + 1 : Nat) : Int)) := o4.om.tr ((i5.om.tr ((f4.om.tr v2.om).cup (by decide) _ _)).cup (by decide) _ _)
                            have hD' := (hD2.place (w := g2 88 6) (V := V) (r := r11) (by omega) z6).fr (((hc13.cup 46 np r11).cup 45 0 ((np + 1 : Nat) : Int))) hd'
                            have q8 : cup (cup c13 46 np r11) 45 0 ((np + 1 : Nat) : Int) 88 = c13 88 := by rw [cup_row _ _ _ (by decide), cup_row _ _ _ (by decide)]
                            have q9 : cup (cup c13 46 np r11) 45 0 ((np + 1 : Nat) : Int) 2 = c13 2 := by rw [cup_row _ _ _ (by decide), cup_row _ _ _ (by decide)]
                            have q10 : cup (cup c13 46 np r11) 45 0 ((np + 1 : Nat) : Int) 89 = c13 89 := by rw [cup_row _ _ _ (by decide), cup_row _ _ _ (by decide)]
                            refine Or.inl ⟨l4, o2, ⟨np + 1, nq, ?_⟩, ?_⟩
                            · rw [l3]
                              refine ⟨o5.up q8 q9 q10 rfl rfl, o6.up q8 rfl rfl, hD', ?_⟩
                              rw [o4.om.2.2, q6]
                              exact hf7
                            · rw [l3, q8]
                              have t1 := (adv_lt hE hT (Or.inl (tq_kk hT hk)) k2 rfl).2
                              have t2 := v1.2
                              rw [q1] at t2
                              have t3 := f3.2
                              have t4 := i4.2
                              have t5 := o3.2
                              omega
                          · omega
                        · rcases h with ⟨p2, p3⟩ | ⟨p2, p3⟩
                          · omega
                          · obtain ⟨l3, l4⟩ := oI p3
                            exact Or.inr ⟨l4, o2, by rw [l3]; exact o3⟩
                    · omega
                  · rcases h2 with ⟨w4, w5⟩ | ⟨w4, w5⟩
                    · omega
                    · obtain ⟨l1, l2⟩ := oI w5
                      rcases h with ⟨p1, p2⟩ | ⟨p1, p2⟩
                      · obtain ⟨l3, l4⟩ := oI p2
                        exact bad l2 l4 (by rw [l3, l1]; exact i3)
                      · omega
                · omega
            · rcases h2 with ⟨w2, w3⟩ | ⟨w2, w3⟩
              · obtain ⟨l1, l2⟩ := oI w3
                rcases h with ⟨j1, j2⟩ | ⟨j1, j2⟩
                · omega
                · obtain ⟨l3, l4⟩ := oI j2
                  exact bad l2 l4 (by rw [l3, l1]; exact f3)
              · omega
        · omega
      · obtain ⟨e1, e2⟩ := oI z2
        rcases h with ⟨u1, u2⟩ | ⟨u1, u2⟩
        · omega
        · obtain ⟨l3, l4⟩ := oI u2
          rcases h2 with ⟨w1, w2⟩ | ⟨w1, w2⟩
          · obtain ⟨l1, l2⟩ := oI w2
            exact bad l2 l4 (by rw [l3, l1, e1]; exact z4)
          · omega
    · rw [b2] at y1
      omega
  · rw [b1] at x1
    rcases m_newPlc k1 rfl rfl rfl rfl with ⟨y1, y2⟩ | ⟨y1, g21, r22, k3, y2⟩
    · rw [b2] at y1
      omega
    · obtain ⟨e1, e2⟩ := oI y2
      obtain ⟨e3, e4⟩ := oI h
      obtain ⟨z1, z2, z3⟩ := fail_pr hT hf (by decide) k2 rfl rfl k3 rfl rfl
      rcases h2 with ⟨w1, w2⟩ | ⟨w1, w2⟩
      · obtain ⟨l1, l2⟩ := oI w2
        exact bad l2 (by rw [e4, z1]) (by rw [e3, l1, e1]; exact z3)
      · omega
end Stm
