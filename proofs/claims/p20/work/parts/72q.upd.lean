/-! what a statement changes in both drafts -/
theorem DR.fr' {c d c' d' : cg} {np nq : Nat} (h : DR c d np nq) (hc : O8 c' c) (h4 : ∀ j : Nat, j < 3716 → d' 254 j = d 254 j) (h5 : d' 255 = d 255) (h20 : d' 253 20 = d 253 20) : DR c' d' np nq := by
  obtain ⟨⟨a1, a2⟩, ⟨b1, b2, b3, b4⟩, a4, a5, a6, a7, a8, ⟨e1, e2, e3, e4, e5, e6, e7⟩, a10⟩ := h
  refine ⟨⟨a1, a2⟩, ⟨?_, ?_, ?_, ?_⟩, ?_, ?_, ?_, ?_, ?_, ⟨?_, ?_, ?_, ?_, ?_, ?_, ?_⟩, ?_⟩
  · rw [hc 45 (by decide)]; exact b1
  · rw [h4 _ (by decide)]; exact b2
  · rw [hc 45 (by decide)]; exact b3
  · rw [h4 _ (by decide)]; exact b4
  · intro i hi
    rw [hc 47 (by decide), h5]; exact a4 i hi
  · intro i hi
    rw [hc (59 + 2 * i) (by omega), h5]; exact a5 i hi
  · intro i hi
    rw [hc 46 (by decide), h4 _ (by omega)]; exact a6 i hi
  · intro i hi
    obtain ⟨p1, p2, p3, p4, p5, p6⟩ := a7 i hi
    refine ⟨?_, ?_, ?_, ?_, ?_, fun h hh => ?_⟩
    · rw [hc (59 + 2 * i) (by omega), h4 _ (by omega)]; exact p1
    · rw [hc (59 + 2 * i) (by omega), h4 _ (by omega)]; exact p2
    · rw [hc (59 + 2 * i) (by omega), h4 _ (by omega)]; exact p3
    · rw [hc (59 + 2 * i) (by omega), h4 _ (by omega)]; exact p4
    · rw [hc (59 + 2 * i) (by omega), h4 _ (by omega)]; exact p5
    · rw [hc (60 + 2 * i) (by omega), h4 _ (by omega)]; exact p6 h hh
  · intro i hi hi6
    refine ⟨?_, fun h hh => ?_⟩
    · rw [h4 _ (by omega)]; exact (a8 i hi hi6).1
    · rw [h4 _ (by omega)]; exact (a8 i hi hi6).2 h hh
  · rw [hc 45 (by decide), h4 _ (by decide)]; exact e1
  · rw [hc 45 (by decide), h4 _ (by decide)]; exact e2
  · rw [hc 45 (by decide), h4 _ (by decide)]; exact e3
  · rw [hc 45 (by decide)]; exact e4
  · rw [h4 _ (by decide)]; exact e5
  · rw [hc 45 (by decide)]; exact e6
  · rw [h4 _ (by decide)]; exact e7
  · exact ⟨by rw [hc 90 (by decide), h20]; exact a10.1, fun i hi => (a10.2.1 i hi).fr (by rw [hc _ (by omega)]) (by rw [hc _ (by omega)]) (fun h _ => by rw [hc _ (by omega)]) (Nat.le_refl np), by rw [hc 50 (by decide)]; exact a10.2.2.1, by rw [h4 _ (by omega)]; exact a10.2.2.2⟩
theorem DR.spare {c d : cg} {np nq to : Nat} (h : DR c d np nq) (hto : 3716 ≤ to) (v : Int) : DR c (cup d 254 to v) np nq :=
  h.fr' (O8.rf c) (fun j hj => by rw [cup_ne (by omega)]) (cup_row d _ _ (by decide)) (by rw [cup_ne (by omega)])
/-- a person's number -/
theorem DR.set {c d : cg} {np nq i f : Nat} (h : DR c d np nq) (hi : i < nq) (hf : 1 ≤ f ∧ f ≤ 5) (v : Int) (hv1 : f ≠ 1) (hv4 : f = 4 → v ≠ (i : Int)) : DR (cup c (59 + 2 * i) f v) (cup d 254 (2991 + 6 * i + f - 1) v) np nq := by
  obtain ⟨⟨a1, a2⟩, ⟨b1, b2, b3, b4⟩, a4, a5, a6, a7, a8, ⟨e1, e2, e3, e4, e5, e6, e7⟩, a10⟩ := h
  have C : ∀ k j : Nat, ¬ (k = 59 + 2 * i ∧ j = f) → cup c (59 + 2 * i) f v k j = c k j := fun k j x => cup_ne x
  have D : ∀ k j : Nat, ¬ (k = 254 ∧ j = 2991 + 6 * i + f - 1) → cup d 254 (2991 + 6 * i + f - 1) v k j = d k j := fun k j x => cup_ne x
  refine ⟨⟨a1, a2⟩, ⟨?_, ?_, ?_, ?_⟩, ?_, ?_, ?_, ?_, ?_, ⟨?_, ?_, ?_, ?_, ?_, ?_, ?_⟩, ?_⟩
  · rw [C _ _ (by omega)]; exact b1
  · rw [D _ _ (by omega)]; exact b2
  · rw [C _ _ (by omega)]; exact b3
  · rw [D _ _ (by omega)]; exact b4
  · intro k hk
    rw [C _ _ (by omega), D _ _ (by omega)]; exact a4 k hk
  · intro k hk
    rw [C _ _ (by omega), D _ _ (by omega)]; exact a5 k hk
  · intro k hk
    rw [C _ _ (by omega), D _ _ (by omega)]; exact a6 k hk
  · intro k hk
    obtain ⟨p1, p2, p3, p4, p5, p6⟩ := a7 k hk
    have one : ∀ (g : Nat), 1 ≤ g → g ≤ 5 → c (59 + 2 * k) g = d 254 (2991 + 6 * k + g - 1) → cup c (59 + 2 * i) f v (59 + 2 * k) g = cup d 254 (2991 + 6 * i + f - 1) v 254 (2991 + 6 * k + g - 1) := by
      intro g g1 g2 e
      by_cases z : k = i ∧ g = f
      · rw [z.1, z.2, cup_at, cup_at]
      · rw [C _ _ (by omega), D _ _ (by omega)]; exact e
    refine ⟨one 1 (by decide) (by decide) p1, one 2 (by decide) (by decide) p2, one 3 (by decide) (by decide) p3, one 4 (by decide) (by decide) p4, one 5 (by decide) (by decide) p5, fun h hh => ?_⟩
    rw [C _ _ (by omega), D _ _ (by omega)]; exact p6 h hh
  · intro k hk hk6
    refine ⟨?_, fun h hh => ?_⟩
    · rw [D _ _ (by omega)]; exact (a8 k hk hk6).1
    · rw [D _ _ (by omega)]; exact (a8 k hk hk6).2 h hh
  · rw [C _ _ (by omega), D _ _ (by omega)]; exact e1
  · rw [C _ _ (by omega), D _ _ (by omega)]; exact e2
  · rw [C _ _ (by omega), D _ _ (by omega)]; exact e3
  · rw [C _ _ (by omega)]; exact e4
  · rw [D _ _ (by omega)]; exact e5
  · rw [C _ _ (by omega)]; exact e6
  · rw [D _ _ (by omega)]; exact e7
  · refine ⟨by rw [C _ _ (by omega), D _ _ (by omega)]; exact a10.1, fun k hk => ?_, by rw [C _ _ (by omega)]; exact a10.2.2.1, by rw [D _ _ (by omega)]; exact a10.2.2.2⟩
    obtain ⟨h1, h2, h3⟩ := a10.2.1 k hk
    refine ⟨by rw [C _ _ (by omega)]; exact h1, ?_, fun h hh => by rw [C _ _ (by omega)]; exact h3 h hh⟩
    by_cases z : k = i ∧ f = 4
    · rw [z.1, z.2, cup_at]; exact hv4 z.2
    · rw [C _ _ (by omega)]; exact h2
/-- where a person was -/
theorem DR.was {c d : cg} {np nq i h : Nat} (hD : DR c d np nq) (hi : i < nq) (hh : h < 8) (v : Int) (hv : v < (np : Int)) : DR (cup c (60 + 2 * i) h v) (cup d 254 (3027 + 8 * i + h) v) np nq := by
  obtain ⟨⟨a1, a2⟩, ⟨b1, b2, b3, b4⟩, a4, a5, a6, a7, a8, ⟨e1, e2, e3, e4, e5, e6, e7⟩, a10⟩ := hD
  have C : ∀ k j : Nat, ¬ (k = 60 + 2 * i ∧ j = h) → cup c (60 + 2 * i) h v k j = c k j := fun k j x => cup_ne x
  have D : ∀ k j : Nat, ¬ (k = 254 ∧ j = 3027 + 8 * i + h) → cup d 254 (3027 + 8 * i + h) v k j = d k j := fun k j x => cup_ne x
  refine ⟨⟨a1, a2⟩, ⟨?_, ?_, ?_, ?_⟩, ?_, ?_, ?_, ?_, ?_, ⟨?_, ?_, ?_, ?_, ?_, ?_, ?_⟩, ?_⟩
  · rw [C _ _ (by omega)]; exact b1
  · rw [D _ _ (by omega)]; exact b2
  · rw [C _ _ (by omega)]; exact b3
  · rw [D _ _ (by omega)]; exact b4
  · intro k hk
    rw [C _ _ (by omega), D _ _ (by omega)]; exact a4 k hk
  · intro k hk
    rw [C _ _ (by omega), D _ _ (by omega)]; exact a5 k hk
  · intro k hk
    rw [C _ _ (by omega), D _ _ (by omega)]; exact a6 k hk
  · intro k hk
    obtain ⟨p1, p2, p3, p4, p5, p6⟩ := a7 k hk
    refine ⟨?_, ?_, ?_, ?_, ?_, fun h' hh' => ?_⟩
    · rw [C _ _ (by omega), D _ _ (by omega)]; exact p1
    · rw [C _ _ (by omega), D _ _ (by omega)]; exact p2
    · rw [C _ _ (by omega), D _ _ (by omega)]; exact p3
    · rw [C _ _ (by omega), D _ _ (by omega)]; exact p4
    · rw [C _ _ (by omega), D _ _ (by omega)]; exact p5
    · by_cases z : k = i ∧ h' = h
      · rw [z.1, z.2, cup_at, cup_at]
      · rw [C _ _ (by omega), D _ _ (by omega)]; exact p6 h' hh'
  · intro k hk hk6
    refine ⟨?_, fun h' hh' => ?_⟩
    · rw [D _ _ (by omega)]; exact (a8 k hk hk6).1
    · rw [D _ _ (by omega)]; exact (a8 k hk hk6).2 h' hh'
  · rw [C _ _ (by omega), D _ _ (by omega)]; exact e1
  · rw [C _ _ (by omega), D _ _ (by omega)]; exact e2
  · rw [C _ _ (by omega), D _ _ (by omega)]; exact e3
  · rw [C _ _ (by omega)]; exact e4
  · rw [D _ _ (by omega)]; exact e5
  · rw [C _ _ (by omega)]; exact e6
  · rw [D _ _ (by omega)]; exact e7
  · refine ⟨by rw [C _ _ (by omega), D _ _ (by omega)]; exact a10.1, fun k hk => ?_, by rw [C _ _ (by omega)]; exact a10.2.2.1, by rw [D _ _ (by omega)]; exact a10.2.2.2⟩
    obtain ⟨h1, h2, h3⟩ := a10.2.1 k hk
    refine ⟨by rw [C _ _ (by omega)]; exact h1, by rw [C _ _ (by omega)]; exact h2, fun h' hh' => ?_⟩
    by_cases z : k = i ∧ h' = h
    · rw [z.1, z.2, cup_at]; exact hv
    · rw [C _ _ (by omega)]; exact h3 h' hh'
/-- a rate -/
theorem DR.rate {c d : cg} {np nq f : Nat} (hD : DR c d np nq) (hf : 5 ≤ f ∧ f ≤ 7) (v : Int) : DR (cup c 45 f v) (cup d 254 (2974 + f) v) np nq := by
  obtain ⟨⟨a1, a2⟩, ⟨b1, b2, b3, b4⟩, a4, a5, a6, a7, a8, ⟨e1, e2, e3, e4, e5, e6, e7⟩, a10⟩ := hD
  have C : ∀ k j : Nat, ¬ (k = 45 ∧ j = f) → cup c 45 f v k j = c k j := fun k j x => cup_ne x
  have D : ∀ k j : Nat, ¬ (k = 254 ∧ j = 2974 + f) → cup d 254 (2974 + f) v k j = d k j := fun k j x => cup_ne x
  have one : ∀ g : Nat, 5 ≤ g → g ≤ 7 → c 45 g = d 254 (2974 + g) → cup c 45 f v 45 g = cup d 254 (2974 + f) v 254 (2974 + g) := by
    intro g g1 g2 e
    by_cases z : g = f
    · rw [z, cup_at, cup_at]
    · rw [C _ _ (by omega), D _ _ (by omega)]; exact e
  refine ⟨⟨a1, a2⟩, ⟨?_, ?_, ?_, ?_⟩, ?_, ?_, ?_, ?_, ?_, ⟨one 5 (by decide) (by decide) e1, one 6 (by decide) (by decide) e2, one 7 (by decide) (by decide) e3, ?_, ?_, ?_, ?_⟩, ?_⟩
  · rw [C _ _ (by omega)]; exact b1
  · rw [D _ _ (by omega)]; exact b2
  · rw [C _ _ (by omega)]; exact b3
  · rw [D _ _ (by omega)]; exact b4
  · intro k hk
    rw [C _ _ (by omega), D _ _ (by omega)]; exact a4 k hk
  · intro k hk
    rw [C _ _ (by omega), D _ _ (by omega)]; exact a5 k hk
  · intro k hk
    rw [C _ _ (by omega), D _ _ (by omega)]; exact a6 k hk
  · intro k hk
    obtain ⟨p1, p2, p3, p4, p5, p6⟩ := a7 k hk
    refine ⟨?_, ?_, ?_, ?_, ?_, fun h' hh' => ?_⟩
    · rw [C _ _ (by omega), D _ _ (by omega)]; exact p1
    · rw [C _ _ (by omega), D _ _ (by omega)]; exact p2
    · rw [C _ _ (by omega), D _ _ (by omega)]; exact p3
    · rw [C _ _ (by omega), D _ _ (by omega)]; exact p4
    · rw [C _ _ (by omega), D _ _ (by omega)]; exact p5
    · rw [C _ _ (by omega), D _ _ (by omega)]; exact p6 h' hh'
  · intro k hk hk6
    refine ⟨?_, fun h' hh' => ?_⟩
    · rw [D _ _ (by omega)]; exact (a8 k hk hk6).1
    · rw [D _ _ (by omega)]; exact (a8 k hk hk6).2 h' hh'
  · rw [C _ _ (by omega)]; exact e4
  · rw [D _ _ (by omega)]; exact e5
  · rw [C _ _ (by omega)]; exact e6
  · rw [D _ _ (by omega)]; exact e7
  · exact ⟨by rw [C _ _ (by omega), D _ _ (by omega)]; exact a10.1, fun i hi => (a10.2.1 i hi).fr (C _ _ (by omega)) (C _ _ (by omega)) (fun h _ => C _ _ (by omega)) (Nat.le_refl np), by rw [C _ _ (by omega)]; exact a10.2.2.1, by rw [D _ _ (by omega)]; exact a10.2.2.2⟩
theorem DR.told {c d : cg} {np nq : Nat} {t t' : Int} (hD : DR c d np nq) (h : TR t t') : DR (cup c 90 4 t) (cup d 253 20 t') np nq := by
  obtain ⟨⟨a1, a2⟩, ⟨b1, b2, b3, b4⟩, a4, a5, a6, a7, a8, ⟨e1, e2, e3, e4, e5, e6, e7⟩, a10⟩ := hD
  have C : ∀ k j : Nat, k ≠ 90 → cup c 90 4 t k j = c k j := fun k j x => cup_ne (fun e => x e.1)
  have D : ∀ k j : Nat, k ≠ 253 → cup d 253 20 t' k j = d k j := fun k j x => cup_ne (fun e => x e.1)
  refine ⟨⟨a1, a2⟩, ⟨?_, ?_, ?_, ?_⟩, ?_, ?_, ?_, ?_, ?_, ⟨?_, ?_, ?_, ?_, ?_, ?_, ?_⟩, ?_⟩
  · rw [C _ _ (by omega)]; exact b1
  · rw [D _ _ (by omega)]; exact b2
  · rw [C _ _ (by omega)]; exact b3
  · rw [D _ _ (by omega)]; exact b4
  · intro k hk
    rw [C _ _ (by omega), D _ _ (by omega)]; exact a4 k hk
  · intro k hk
    rw [C _ _ (by omega), D _ _ (by omega)]; exact a5 k hk
  · intro k hk
    rw [C _ _ (by omega), D _ _ (by omega)]; exact a6 k hk
  · intro k hk
    obtain ⟨p1, p2, p3, p4, p5, p6⟩ := a7 k hk
    refine ⟨?_, ?_, ?_, ?_, ?_, fun h' hh' => ?_⟩
    · rw [C _ _ (by omega), D _ _ (by omega)]; exact p1
    · rw [C _ _ (by omega), D _ _ (by omega)]; exact p2
    · rw [C _ _ (by omega), D _ _ (by omega)]; exact p3
    · rw [C _ _ (by omega), D _ _ (by omega)]; exact p4
    · rw [C _ _ (by omega), D _ _ (by omega)]; exact p5
    · rw [C _ _ (by omega), D _ _ (by omega)]; exact p6 h' hh'
  · intro k hk hk6
    refine ⟨?_, fun h' hh' => ?_⟩
    · rw [D _ _ (by omega)]; exact (a8 k hk hk6).1
    · rw [D _ _ (by omega)]; exact (a8 k hk hk6).2 h' hh'
  · rw [C _ _ (by omega), D _ _ (by omega)]; exact e1
  · rw [C _ _ (by omega), D _ _ (by omega)]; exact e2
  · rw [C _ _ (by omega), D _ _ (by omega)]; exact e3
  · rw [C _ _ (by omega)]; exact e4
  · rw [D _ _ (by omega)]; exact e5
  · rw [C _ _ (by omega)]; exact e6
  · rw [D _ _ (by omega)]; exact e7
  · exact ⟨by rw [cup_at, cup_at]; exact h, fun i hi => (a10.2.1 i hi).fr (C _ _ (by omega)) (C _ _ (by omega)) (fun h _ => C _ _ (by omega)) (Nat.le_refl np), by rw [C _ _ (by omega)]; exact a10.2.2.1, by rw [D _ _ (by omega)]; exact a10.2.2.2⟩
/-- a new person: what begin() leaves -/
def BG (c' c : cg) (i : Nat) (w : Int) : Prop := (∀ k j : Nat, k ≠ 59 + 2 * i → k ≠ 60 + 2 * i → c' k j = c k j) ∧ c' (59 + 2 * i) 0 = w ∧ c' (59 + 2 * i) 4 = -1 ∧ c' (59 + 2 * i) 5 = 0 ∧ ∀ h : Nat, h < 8 → c' (60 + 2 * i) h = -1
theorem DR.person {c c0 d : cg} {np nq : Nat} {w V pu ch bi : Int} (hD : DR c0 d np nq) (hq : nq < 6) (hB : BG c c0 nq w) (hw : NR w V) (hpu : 0 ≤ pu ∧ pu ≤ 999) : DR (cup (cup (cup (cup c (59 + 2 * nq) 1 pu) (59 + 2 * nq) 2 ch) (59 + 2 * nq) 3 bi) 45 3 ((nq + 1 : Nat) : Int)) (cup (cup (cup (cup (cup (cup d 255 (53 + nq) V) 254 (2991 + 6 * nq) pu) 254 (2991 + 6 * nq + 1) ch) 254 (2991 + 6 * nq + 2) bi) 254 (2991 + 6 * nq + 3) (-1)) 254 2977 ((nq + 1 : Nat) : Int)) np (nq + 1) := by
  obtain ⟨⟨a1, a2⟩, ⟨b1, b2, b3, b4⟩, a4, a5, a6, a7, a8, ⟨e1, e2, e3, e4, e5, e6, e7⟩, a10⟩ := hD
  obtain ⟨g1, g2, g3, g4, g5⟩ := hB
  have C0 : ∀ k j : Nat, ¬ (k = 45 ∧ j = 3) → ¬ (k = 59 + 2 * nq ∧ 1 ≤ j ∧ j ≤ 3) → cup (cup (cup (cup c (59 + 2 * nq) 1 pu) (59 + 2 * nq) 2 ch) (59 + 2 * nq) 3 bi) 45 3 ((nq + 1 : Nat) : Int) k j = c k j := fun k j x y => by rw [cup_ne x, cup_ne (by omega), cup_ne (by omega), cup_ne (by omega)]
  have C : ∀ k j : Nat, ¬ (k = 45 ∧ j = 3) → k ≠ 59 + 2 * nq → k ≠ 60 + 2 * nq → cup (cup (cup (cup c (59 + 2 * nq) 1 pu) (59 + 2 * nq) 2 ch) (59 + 2 * nq) 3 bi) 45 3 ((nq + 1 : Nat) : Int) k j = c0 k j := fun k j x y z => by rw [C0 k j x (by omega)]; exact g1 k j y z
  have D : ∀ k j : Nat, ¬ (k = 254 ∧ (j = 2977 ∨ (2991 + 6 * nq ≤ j ∧ j ≤ 2991 + 6 * nq + 3))) → ¬ (k = 255 ∧ j = 53 + nq) → cup (cup (cup (cup (cup (cup d 255 (53 + nq) V) 254 (2991 + 6 * nq) pu) 254 (2991 + 6 * nq + 1) ch) 254 (2991 + 6 * nq + 2) bi) 254 (2991 + 6 * nq + 3) (-1)) 254 2977 ((nq + 1 : Nat) : Int) k j = d k j := fun k j x y => by rw [cup_ne (by omega), cup_ne (by omega), cup_ne (by omega), cup_ne (by omega), cup_ne (by omega), cup_ne y]
  refine ⟨⟨a1, by omega⟩, ⟨?_, ?_, ?_, ?_⟩, ?_, ?_, ?_, ?_, ?_, ⟨?_, ?_, ?_, ?_, ?_, ?_, ?_⟩, ?_⟩
  · rw [C _ _ (by omega) (by omega) (by omega)]; exact b1
  · rw [D _ _ (by omega) (by omega)]; exact b2
  · rw [cup_at]
  · rw [cup_at]
  · intro k hk
    rw [C _ _ (by omega) (by omega) (by omega), D _ _ (by omega) (by omega)]; exact a4 k hk
  · intro k hk
    by_cases e : k = nq
    · rw [e, C0 _ _ (by omega) (by omega), g2, cup_ne (by omega), cup_ne (by omega), cup_ne (by omega), cup_ne (by omega), cup_ne (by omega), cup_at]
      exact hw
    · rw [C _ _ (by omega) (by omega) (by omega), D _ _ (by omega) (by omega)]; exact a5 k (by omega)
  · intro k hk
    rw [C _ _ (by omega) (by omega) (by omega), D _ _ (by omega) (by omega)]; exact a6 k hk
  · intro k hk
    by_cases e : k = nq
    · subst e
      refine ⟨?_, ?_, ?_, ?_, ?_, fun h' hh' => ?_⟩
      · rw [cup_ne (by omega), cup_ne (by omega), cup_ne (by omega), cup_at, cup_ne (by omega), cup_ne (by omega), cup_ne (by omega), cup_ne (by omega), cup_at]
      · rw [cup_ne (by omega), cup_ne (by omega), cup_at, cup_ne (by omega), cup_ne (by omega), cup_ne (by omega), cup_at]
      · rw [cup_ne (by omega), cup_at, cup_ne (by omega), cup_ne (by omega), cup_at]
      · rw [C0 _ _ (by omega) (by omega), g3, cup_ne (by omega), cup_at]
      · rw [C0 _ _ (by omega) (by omega), g4, D _ _ (by omega) (by omega)]; exact (a8 k (Nat.le_refl _) hq).1.symm
      · rw [C0 _ _ (by omega) (by omega), g5 h' hh', D _ _ (by omega) (by omega)]; exact ((a8 k (Nat.le_refl _) hq).2 h' hh').symm
    · obtain ⟨p1, p2, p3, p4, p5, p6⟩ := a7 k (by omega)
      refine ⟨?_, ?_, ?_, ?_, ?_, fun h' hh' => ?_⟩
      · rw [C _ _ (by omega) (by omega) (by omega), D _ _ (by omega) (by omega)]; exact p1
      · rw [C _ _ (by omega) (by omega) (by omega), D _ _ (by omega) (by omega)]; exact p2
      · rw [C _ _ (by omega) (by omega) (by omega), D _ _ (by omega) (by omega)]; exact p3
      · rw [C _ _ (by omega) (by omega) (by omega), D _ _ (by omega) (by omega)]; exact p4
      · rw [C _ _ (by omega) (by omega) (by omega), D _ _ (by omega) (by omega)]; exact p5
      · rw [C _ _ (by omega) (by omega) (by omega), D _ _ (by omega) (by omega)]; exact p6 h' hh'
  · intro k hk hk6
    refine ⟨?_, fun h' hh' => ?_⟩
    · rw [D _ _ (by omega) (by omega)]; exact (a8 k (by omega) hk6).1
    · rw [D _ _ (by omega) (by omega)]; exact (a8 k (by omega) hk6).2 h' hh'
  · rw [C _ _ (by omega) (by omega) (by omega), D _ _ (by omega) (by omega)]; exact e1
  · rw [C _ _ (by omega) (by omega) (by omega), D _ _ (by omega) (by omega)]; exact e2
  · rw [C _ _ (by omega) (by omega) (by omega), D _ _ (by omega) (by omega)]; exact e3
  · rw [C _ _ (by omega) (by omega) (by omega)]; exact e4
  · rw [D _ _ (by omega) (by omega)]; exact e5
  · rw [C _ _ (by omega) (by omega) (by omega)]; exact e6
  · rw [D _ _ (by omega) (by omega)]; exact e7
  · refine ⟨by rw [C _ _ (by omega) (by omega) (by omega), D _ _ (by omega) (by omega)]; exact a10.1, fun k hk => ?_, by rw [C _ _ (by omega) (by omega) (by omega)]; exact a10.2.2.1, by rw [D _ _ (by omega) (by omega)]; exact a10.2.2.2⟩
    by_cases e : k = nq
    · subst e
      refine ⟨by rw [cup_ne (by omega), cup_ne (by omega), cup_ne (by omega), cup_at]; exact hpu, by rw [C0 _ _ (by omega) (by omega), g3]; omega, fun h' hh' => by rw [C0 _ _ (by omega) (by omega), g5 h' hh']; omega⟩
    · exact (a10.2.1 k (by omega)).fr (C _ _ (by omega) (by omega) (by omega)) (C _ _ (by omega) (by omega) (by omega)) (fun h' _ => C _ _ (by omega) (by omega) (by omega)) (Nat.le_refl np)
section Beg
variable {sv : Nat → Int32} {L : Nat}
theorem beg_l {i : Nat} (hi : i < 6) {c' : cg} : ∀ (n : Nat) {lf : dlf} {g : cg} {b : Nat}, lf 0 = (4, 59 + 2 * (i : Int)) → lf 3 = (0, (b : Int)) → b ≤ 8 → (∀ h : Nat, h < b → g (60 + 2 * i) h = -1) → zr sv L n 56 32 lf [] g (c', none) → (∀ k j : Nat, k ≠ 60 + 2 * i → c' k j = g k j) ∧ ∀ h : Nat, h < 8 → c' (60 + 2 * i) h = -1
  | 0, _, _, _, _, _, _, _, h => (zr_0 h).elim
  | n + 1, lf, g, b, h0, h3, hb, hh, h => by
    rcases t_begin32 (i := (i : Int)) (by omega) (by omega) h h0 h3 with ⟨hc, h⟩ | ⟨hc, lf', a0, a3, h⟩
    · have e := oV h
      rw [e]
      exact ⟨fun _ _ _ => rfl, fun h' hh' => hh h' (by omega)⟩
    · rw [show ((60 : Int) + 2 * (i : Int)).toNat = 60 + 2 * i by omega, show ((b : Int)).toNat = b from rfl] at h
      obtain ⟨x1, x2⟩ := beg_l hi n (b := b + 1) a0 (by rw [a3, w32_id (by omega) (by omega)]; rfl) (by omega) (fun h' hh' => by
        by_cases e : h' = b
        · rw [e, cup_at]
        · rw [cup_ne (by omega)]; exact hh h' (by omega)) h
      exact ⟨fun k j hk => by rw [x1 k j hk, cup_ne (fun e => hk e.1)], x2⟩
theorem beg_ok {n : Nat} {lf : dlf} {c c' : cg} {i : Nat} {w : Int} (hi : i < 6) (h : zr sv L n 56 0 lf [] c (c', none)) (h0 : lf 0 = (4, 59 + 2 * (i : Int))) (h1 : lf 1 = (2, w)) : BG c' c i w := by
  obtain ⟨lf', a0, a3, h⟩ := t_begin0 h h0 h1
  rw [show ((59 : Int) + 2 * (i : Int)).toNat = 59 + 2 * i by omega] at h
  obtain ⟨x1, x2⟩ := beg_l hi n (b := 0) a0 a3 (by decide) (fun h' hh' => absurd hh' (Nat.not_lt_zero h')) h
  refine ⟨fun k j y z => ?_, ?_, ?_, ?_, x2⟩
  · rw [x1 k j z, cup_ne (fun e => y e.1), cup_ne (fun e => y e.1), cup_ne (fun e => y e.1), cup_ne (fun e => y e.1), cup_ne (fun e => y e.1), cup_ne (fun e => y e.1)]
  · rw [x1 _ _ (by omega), cup_ne (by omega), cup_ne (by omega), cup_ne (by omega), cup_ne (by omega), cup_ne (by omega), cup_at]
  · rw [x1 _ _ (by omega), cup_ne (by omega), cup_at]
  · rw [x1 _ _ (by omega), cup_at]
end Beg
