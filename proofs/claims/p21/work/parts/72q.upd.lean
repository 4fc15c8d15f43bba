section
/-! what a statement changes in both drafts -/
theorem DR.fr' {c d c' d' : cg} {np nq : Nat} (h : DR c d np nq) (hc : O8 c' c) (h4 : ∀ j : Nat, j < 3716 → d' 254 j = d 254 j) (h5 : d' 255 = d 255) (h20 : d' 253 20 = d 253 20) : DR c' d' np nq := by
  obtain ⟨⟨a1, a2⟩, ⟨b1, b2, b3, b4⟩, a4, a5, a6, a7, a8, ⟨e1, e2, e3, e4, e5, e6, e7⟩, a10⟩ := h
  refine ⟨⟨a1, a2⟩, ⟨?_, ?_, ?_, ?_⟩, ?_, ?_, ?_, ?_, ?_, ⟨?_, ?_, ?_, ?_, ?_, ?_, ?_⟩, ?_⟩
  · rw [hc 45 (by decide)]; exact b1
  · rw [h4 _ (by decide)]; exact b2
  · rw [hc 45 (by decide)]; exact b3
  · rw [h4 _ (by decide)]; exact b4
  · intro i hi
    rw [hc 47 (by decide), h5]; exact a4 i hi
  · intro i hi
    rw [hc (59 + 2 * i) (by omega), h5]; exact a5 i hi
  · intro i hi
    rw [hc 46 (by decide), h4 _ (by omega)]; exact a6 i hi
  · intro i hi
    obtain ⟨p1, p2, p3, p4, p5, p6⟩ := a7 i hi
    refine ⟨?_, ?_, ?_, ?_, ?_, fun h hh => ?_⟩
    · rw [hc (59 + 2 * i) (by omega), h4 _ (by omega)]; exact p1
    · rw [hc (59 + 2 * i) (by omega), h4 _ (by omega)]; exact p2
    · rw [hc (59 + 2 * i) (by omega), h4 _ (by omega)]; exact p3
    · rw [hc (59 + 2 * i) (by omega), h4 _ (by omega)]; exact p4
    · rw [hc (59 + 2 * i) (by omega), h4 _ (by omega)]; exact p5
    · rw [hc (60 + 2 * i) (by omega), h4 _ (by omega)]; exact p6 h hh
  · intro i hi hi6
    refine ⟨?_, fun h hh => ?_⟩
    · rw [h4 _ (by omega)]; exact (a8 i hi hi6).1
    · rw [h4 _ (by omega)]; exact (a8 i hi hi6).2 h hh
  · rw [hc 45 (by decide), h4 _ (by decide)]; exact e1
  · rw [hc 45 (by decide), h4 _ (by decide)]; exact e2
  · rw [hc 45 (by decide), h4 _ (by decide)]; exact e3
  · rw [hc 45 (by decide)]; exact e4
  · rw [h4 _ (by decide)]; exact e5
  · rw [hc 45 (by decide)]; exact e6
  · rw [h4 _ (by decide)]; exact e7
  · exact ⟨by rw [hc 90 (by decide), h20]; exact a10.1, fun i hi => (a10.2.1 i hi).fr (by rw [hc _ (by omega)]) (by rw [hc _ (by omega)]) (fun h _ => by rw [hc _ (by omega)]) (Nat.le_refl np), by rw [hc 50 (by decide)]; exact a10.2.2.1, by rw [h4 _ (by omega)]; exact a10.2.2.2⟩
theorem DR.spare {c d : cg} {np nq to : Nat} (h : DR c d np nq) (hto : 3716 ≤ to) (v : Int) : DR c (cup d 254 to v) np nq :=
  h.fr' (O8.rf c) (fun j hj => by rw [cup_ne (by omega)]) (cup_row d _ _ (by decide)) (by rw [cup_ne (by omega)])
/-- a person's number -/
theorem DR.set {c d : cg} {np nq i f : Nat} (h : DR c d np nq) (hi : i < nq) (hf : 1 ≤ f ∧ f ≤ 5) (v : Int) (hv1 : f ≠ 1) (hv4 : f = 4 → v ≠ (i : Int)) : DR (cup c (59 + 2 * i) f v) (cup d 254 (2991 + 6 * i + f - 1) v) np nq := by
  obtain ⟨⟨a1, a2⟩, ⟨b1, b2, b3, b4⟩, a4, a5, a6, a7, a8, ⟨e1, e2, e3, e4, e5, e6, e7⟩, a10⟩ := h
  have C : ∀ k j : Nat, ¬ (k = 59 + 2 * i ∧ j = f) → cup c (59 + 2 * i) f v k j = c k j := fun k j x => cup_ne x
  have D : ∀ k j : Nat, ¬ (k = 254 ∧ j = 2991 + 6 * i + f - 1) → cup d 254 (2991 + 6 * i + f - 1) v k j = d k j := fun k j x => cup_ne x
  refine ⟨⟨a1, a2⟩, ⟨?_, ?_, ?_, ?_⟩, ?_, ?_, ?_, ?_, ?_, ⟨?_, ?_, ?_, ?_, ?_, ?_, ?_⟩, ?_⟩
  · rw [C _ _ (by omega)]; exact b1
  · rw [D _ _ (by omega)]; exact b2
  · rw [C _ _ (by omega)]; exact b3
  · rw [D _ _ (by omega)]; exact b4
  · intro k hk
    rw [C _ _ (by omega), D _ _ (by omega)]; exact a4 k hk
  · intro k hk
    rw [C _ _ (by omega), D _ _ (by omega)]; exact a5 k hk
  · intro k hk
    rw [C _ _ (by omega), D _ _ (by omega)]; exact a6 k hk
  · intro k hk
    obtain ⟨p1, p2, p3, p4, p5, p6⟩ := a7 k hk
    have one : ∀ (g : Nat), 1 ≤ g → g ≤ 5 → c (59 + 2 * k) g = d 254 (2991 + 6 * k + g - 1) → cup c (59 + 2 * i) f v (59 + 2 * k) g = cup d 254 (2991 + 6 * i + f - 1) v 254 (2991 + 6 * k + g - 1) := by
      intro g g1 g2 e
      by_cases z : k = i ∧ g = f
      · rw [z.1, z.2, cup_at, cup_at]
      · rw [C _ _ (by omega), D _ _ (by omega)]; exact e
    refine ⟨one 1 (by decide) (by decide) p1, one 2 (by decide) (by decide) p2, one 3 (by decide) (by decide) p3, one 4 (by decide) (by decide) p4, one 5 (by decide) (by decide) p5, fun h hh => ?_⟩
    rw [C _ _ (by omega), D _ _ (by omega)]; exact p6 h hh
  · intro k hk hk6
    refine ⟨?_, fun h hh => ?_⟩
    · rw [D _ _ (by omega)]; exact (a8 k hk hk6).1
    · rw [D _ _ (by omega)]; exact (a8 k hk hk6).2 h hh
  · rw [C _ _ (by omega), D _ _ (by omega)]; exact e1
  · rw [C _ _ (by omega), D _ _ (by omega)]; exact e2
  · rw [C _ _ (by omega), D _ _ (by omega)]; exact e3
  · rw [C _ _ (by omega)]; exact e4
  · rw [D _ _ (by omega)]; exact e5
  · rw [C _ _ (by omega)]; exact e6
  · rw [D _ _ (by omega)]; exact e7
  · refine ⟨by rw [C _ _ (by omega), D _ _ (by omega)]; exact a10.1, fun k hk => ?_, by rw [C _ _ (by omega)]; exact a10.2.2.1, by rw [D _ _ (by omega)]; exact a10.2.2.2⟩
    obtain ⟨h1, h2, h3⟩ := a10.2.1 k hk
    refine ⟨by rw [C _ _ (by omega)]; exact h1, ?_, fun h hh => by rw [C _ _ (by omega)]; exact h3 h hh⟩
    by_cases z : k = i ∧ f = 4
    · rw [z.1, z.2, cup_at]; exact hv4 z.2
    · rw [C _ _ (by omega)]; exact h2
/-- where a person was -/
theorem DR.was {c d : cg} {np nq i h : Nat} (hD : DR c d np nq) (hi : i < nq) (hh : h < 8) (v : Int) (hv : v < (np : Int)) : DR (cup c (60 + 2 * i) h v) (cup d 254 (3027 + 8 * i + h) v) np nq := by
  obtain ⟨⟨a1, a2⟩, ⟨b1, b2, b3, b4⟩, a4, a5, a6, a7, a8, ⟨e1, e2, e3, e4, e5, e6, e7⟩, a10⟩ := hD
  have C : ∀ k j : Nat, ¬ (k = 60 + 2 * i ∧ j = h) → cup c (60 + 2 * i) h v k j = c k j := fun k j x => cup_ne x
  have D : ∀ k j : Nat, ¬ (k = 254 ∧ j = 3027 + 8 * i + h) → cup d 254 (3027 + 8 * i + h) v k j = d k j := fun k j x => cup_ne x
  refine ⟨⟨a1, a2⟩, ⟨?_, ?_, ?_, ?_⟩, ?_, ?_, ?_, ?_, ?_, ⟨?_, ?_, ?_, ?_, ?_, ?_, ?_⟩, ?_⟩
  · rw [C _ _ (by omega)]; exact b1
  · rw [D _ _ (by omega)]; exact b2
  · rw [C _ _ (by omega)]; exact b3
  · rw [D _ _ (by omega)]; exact b4
  · intro k hk
    rw [C _ _ (by omega), D _ _ (by omega)]; exact a4 k hk
  · intro k hk
    rw [C _ _ (by omega), D _ _ (by omega)]; exact a5 k hk
  · intro k hk
    rw [C _ _ (by omega), D _ _ (by omega)]; exact a6 k hk
  · intro k hk
    obtain ⟨p1, p2, p3, p4, p5, p6⟩ := a7 k hk
    refine ⟨?_, ?_, ?_, ?_, ?_, fun h' hh' => ?_⟩
    · rw [C _ _ (by omega), D _ _ (by omega)]; exact p1
    · rw [C _ _ (by omega), D _ _ (by omega)]; exact p2
    · rw [C _ _ (by omega), D _ _ (by omega)]; exact p3
    · rw [C _ _ (by omega), D _ _ (by omega)]; exact p4
    · rw [C _ _ (by omega), D _ _ (by omega)]; exact p5
    · by_cases z : k = i ∧ h' = h
      · rw [z.1, z.2, cup_at, cup_at]
      · rw [C _ _ (by omega), D _ _ (by omega)]; exact p6 h' hh'
  · intro k hk hk6
    refine ⟨?_, fun h' hh' => ?_⟩
    · rw [D _ _ (by omega)]; exact (a8 k hk hk6).1
    · rw [D _ _ (by omega)]; exact (a8 k hk hk6).2 h' hh'
  · rw [C _ _ (by omega), D _ _ (by omega)]; exact e1
  · rw [C _ _ (by omega), D _ _ (by omega)]; exact e2
  · rw [C _ _ (by omega), D _ _ (by omega)]; exact e3
  · rw [C _ _ (by omega)]; exact e4
  · rw [D _ _ (by omega)]; exact e5
  · rw [C _ _ (by omega)]; exact e6
  · rw [D _ _ (by omega)]; exact e7
  · refine ⟨by rw [C _ _ (by omega), D _ _ (by omega)]; exact a10.1, fun k hk => ?_, by rw [C _ _ (by omega)]; exact a10.2.2.1, by rw [D _ _ (by omega)]; exact a10.2.2.2⟩
    obtain ⟨h1, h2, h3⟩ := a10.2.1 k hk
    refine ⟨by rw [C _ _ (by omega)]; exact h1, by rw [C _ _ (by omega)]; exact h2, fun h' hh' => ?_⟩
    by_cases z : k = i ∧ h' = h
    · rw [z.1, z.2, cup_at]; exact hv
    · rw [C _ _ (by omega)]; exact h3 h' hh'
/-- a rate -/
theorem DR.rate {c d : cg} {np nq f : Nat} (hD : DR c d np nq) (hf : 5 ≤ f ∧ f ≤ 7) (v : Int) : DR (cup c 45 f v) (cup d 254 (2974 + f) v) np nq := by
  obtain ⟨⟨a1, a2⟩, ⟨b1, b2, b3, b4⟩, a4, a5, a6, a7, a8, ⟨e1, e2, e3, e4, e5, e6, e7⟩, a10⟩ := hD
  have C : ∀ k j : Nat, ¬ (k = 45 ∧ j = f) → cup c 45 f v k j = c k j := fun k j x => cup_ne x
  have D : ∀ k j : Nat, ¬ (k = 254 ∧ j = 2974 + f) → cup d 254 (2974 + f) v k j = d k j := fun k j x => cup_ne x
  have one : ∀ g : Nat, 5 ≤ g → g ≤ 7 → c 45 g = d 254 (2974 + g) → cup c 45 f v 45 g = cup d 254 (2974 + f) v 254 (2974 + g) := by
    intro g g1 g2 e
    by_cases z : g = f
    · rw [z, cup_at, cup_at]
    · rw [C _ _ (by omega), D _ _ (by omega)]; exact e
  refine ⟨⟨a1, a2⟩, ⟨?_, ?_, ?_, ?_⟩, ?_, ?_, ?_, ?_, ?_, ⟨one 5 (by decide) (by decide) e1, one 6 (by decide) (by decide) e2, one 7 (by decide) (by decide) e3, ?_, ?_, ?_, ?_⟩, ?_⟩
  · rw [C _ _ (by omega)]; exact b1
  · rw [D _ _ (by omega)]; exact b2
  · rw [C _ _ (by omega)]; exact b3
  · rw [D _ _ (by omega)]; exact b4
  · intro k hk
    rw [C _ _ (by omega), D _ _ (by omega)]; exact a4 k hk
  · intro k hk
    rw [C _ _ (by omega), D _ _ (by omega)]; exact a5 k hk
  · intro k hk
    rw [C _ _ (by omega), D _ _ (by omega)]; exact a6 k hk
  · intro k hk
    obtain ⟨p1, p2, p3, p4, p5, p6⟩ := a7 k hk
    refine ⟨?_, ?_, ?_, ?_, ?_, fun h' hh' => ?_⟩
    · rw [C _ _ (by omega), D _ _ (by omega)]; exact p1
    · rw [C _ _ (by omega), D _ _ (by omega)]; exact p2
    · rw [C _ _ (by omega), D _ _ (by omega)]; exact p3
    · rw [C _ _ (by omega), D _ _ (by omega)]; exact p4
    · rw [C _ _ (by omega), D _ _ (by omega)]; exact p5
    · rw [C _ _ (by omega), D _ _ (by omega)]; exact p6 h' hh'
  · intro k hk hk6
    refine ⟨?_, fun h' hh' => ?_⟩
    · rw [D _ _ (by omega)]; exact (a8 k hk hk6).1
    · rw [D _ _ (by omega)]; exact (a8 k hk hk6).2 h' hh'
  · rw [C _ _ (by omega)]; exact e4
  · rw [D _ _ (by omega)]; exact e5
  · rw [C _ _ (by omega)]; exact e6
  · rw [D _ _ (by omega)]; exact e7
  · exact ⟨by rw [C _ _ (by omega), D _ _ (by omega)]; exact a10.1, fun i hi => (a10.2.1 i hi).fr (C _ _ (by omega)) (C _ _ (by omega)) (fun h _ => C _ _ (by omega)) (Nat.le_refl np), by rw [C _ _ (by omega)]; exact a10.2.2.1, by rw [D _ _ (by omega)]; exact a10.2.2.2⟩
theorem DR.told {c d : cg} {np nq : Nat} {t t' : Int} (hD : DR c d np nq) (h : TR t t') : DR (cup c 90 4 t) (cup d 253 20 t') np nq := by
  obtain ⟨⟨a1, a2⟩, ⟨b1, b2, b3, b4⟩, a4, a5, a6, a7, a8, ⟨e1, e2, e3, e4, e5, e6, e7⟩, a10⟩ := hD
  have C : ∀ k j : Nat, k ≠ 90 → cup c 90 4 t k j = c k j := fun k j x => cup_ne (fun e => x e.1)
  have D : ∀ k j : Nat, k ≠ 253 → cup d 253 20 t' k j = d k j := fun k j x => cup_ne (fun e => x e.1)
  refine ⟨⟨a1, a2⟩, ⟨?_, ?_, ?_, ?_⟩, ?_, ?_, ?_, ?_, ?_, ⟨?_, ?_, ?_, ?_, ?_, ?_, ?_⟩, ?_⟩
  · rw [C _ _ (by omega)]; exact b1
  · rw [D _ _ (by omega)]; exact b2
  · rw [C _ _ (by omega)]; exact b3
  · rw [D _ _ (by omega)]; exact b4
  · intro k hk
    rw [C _ _ (by omega), D _ _ (by omega)]; exact a4 k hk
  · intro k hk
    rw [C _ _ (by omega), D _ _ (by omega)]; exact a5 k hk
  · intro k hk
    rw [C _ _ (by omega), D _ _ (by omega)]; exact a6 k hk
  · intro k hk
    obtain ⟨p1, p2, p3, p4, p5, p6⟩ := a7 k hk
    refine ⟨?_, ?_, ?_, ?_, ?_, fun h' hh' => ?_⟩
    · rw [C _ _ (by omega), D _ _ (by omega)]; exact p1
    · rw [C _ _ (by omega), D _ _ (by omega)]; exact p2
    · rw [C _ _ (by omega), D _ _ (by omega)]; exact p3
    · rw [C _ _ (by omega), D _ _ (by omega)]; exact p4
    · rw [C _ _ (by omega), D _ _ (by omega)]; exact p5
    · rw [C _ _ (by omega), D _ _ (by omega)]; exact p6 h' hh'
  · intro k hk hk6
    refine ⟨?_, fun h' hh' => ?_⟩
    · rw [D _ _ (by omega)]; exact (a8 k hk hk6).1
    · rw [D _ _ (by omega)]; exact (a8 k hk hk6).2 h' hh'
  · rw [C _ _ (by omega), D _ _ (by omega)]; exact e1
  · rw [C _ _ (by omega), D _ _ (by omega)]; exact e2
  · rw [C _ _ (by omega), D _ _ (by omega)]; exact e3
  · rw [C _ _ (by omega)]; exact e4
  · rw [D _ _ (by omega)]; exact e5
  · rw [C _ _ (by omega)]; exact e6
  · rw [D _ _ (by omega)]; exact e7
  · exact ⟨by rw [cup_at, cup_at]; exact h, fun i hi => (a10.2.1 i hi).fr (C _ _ (by omega)) (C _ _ (by omega)) (fun h _ => C _ _ (by omega)) (Nat.le_refl np), by rw [C _ _ (by omega)]; exact a10.2.2.1, by rw [D _ _ (by omega)]; exact a10.2.2.2⟩
/-- a new person: what begin() leaves -/
def BG (c' c : cg) (i : Nat) (w : Int) : Prop := (∀ k j : Nat, k ≠ 59 + 2 * i → k ≠ 60 + 2 * i → c' k j = c k j) ∧ c' (59 + 2 * i) 0 = w ∧ c' (59 + 2 * i) 4 = -1 ∧ c' (59 + 2 * i) 5 = 0 ∧ ∀ h : Nat, h < 8 → c' (60 + 2 * i) h = -1
theorem DR.person {c c0 d : cg} {np nq : Nat} {w V pu ch bi : Int} (hD : DR c0 d np nq) (hq : nq < 6) (hB : BG c c0 nq w) (hw : NR w V) (hpu : 0 ≤ pu ∧ pu ≤ 999) : DR (cup (cup (cup (cup c (59 + 2 * nq) 1 pu) (59 + 2 * nq) 2 ch) (59 + 2 * nq) 3 bi) 45 3 ((nq + 1 : Nat) : Int)) (cup (cup (cup (cup (cup (cup d 255 (53 + nq) V) 254 (2991 + 6 * nq) pu) 254 (2991 + 6 * nq + 1) ch) 254 (2991 + 6 * nq + 2) bi) 254 (2991 + 6 * nq + 3) (-1)) 254 2977 ((nq + 1 : Nat) : Int)) np (nq + 1) := by
  obtain ⟨⟨a1, a2⟩, ⟨b1, b2, b3, b4⟩, a4, a5, a6, a7, a8, ⟨e1, e2, e3, e4, e5, e6, e7⟩, a10⟩ := hD
  obtain ⟨g1, g2, g3, g4, g5⟩ := hB
  have C0 : ∀ k j : Nat, ¬ (k = 45 ∧ j = 3) → ¬ (k = 59 + 2 * nq ∧ 1 ≤ j ∧ j ≤ 3) → cup (cup (cup (cup c (59 + 2 * nq) 1 pu) (59 + 2 * nq) 2 ch) (59 + 2 * nq) 3 bi) 45 3 ((nq + 1 : Nat) : Int) k j = c k j := fun k j x y => by rw [cup_ne x, cup_ne (by omega), cup_ne (by omega), cup_ne (by omega)]
  have C : ∀ k j : Nat, ¬ (k = 45 ∧ j = 3) → k ≠ 59 + 2 * nq → k ≠ 60 + 2 * nq → cup (cup (cup (cup c (59 + 2 * nq) 1 pu) (59 + 2 * nq) 2 ch) (59 + 2 * nq) 3 bi) 45 3 ((nq + 1 : Nat) : Int) k j = c0 k j := fun k j x y z => by rw [C0 k j x (by omega)]; exact g1 k j y z
  have D : ∀ k j : Nat, ¬ (k = 254 ∧ (j = 2977 ∨ (2991 + 6 * nq ≤ j ∧ j ≤ 2991 + 6 * nq + 3))) → ¬ (k = 255 ∧ j = 53 + nq) → cup (cup (cup (cup (cup (cup d 255 (53 + nq) V) 254 (2991 + 6 * nq) pu) 254 (2991 + 6 * nq + 1) ch) 254 (2991 + 6 * nq + 2) bi) 254 (2991 + 6 * nq + 3) (-1)) 254 2977 ((nq + 1 : Nat) : Int) k j = d k j := fun k j x y => by rw [cup_ne (by omega), cup_ne (by omega), cup_ne (by omega), cup_ne (by omega), cup_ne (by omega), cup_ne y]
  refine ⟨⟨a1, by omega⟩, ⟨?_, ?_, ?_, ?_⟩, ?_, ?_, ?_, ?_, ?_, ⟨?_, ?_, ?_, ?_, ?_, ?_, ?_⟩, ?_⟩
  · rw [C _ _ (by omega) (by omega) (by omega)]; exact b1
  · rw [D _ _ (by omega) (by omega)]; exact b2
  · rw [cup_at]
  · rw [cup_at]
  · intro k hk
    rw [C _ _ (by omega) (by omega) (by omega), D _ _ (by omega) (by omega)]; exact a4 k hk
  · intro k hk
    by_cases e : k = nq
    · rw [e, C0 _ _ (by omega) (by omega), g2, cup_ne (by omega), cup_ne (by omega), cup_ne (by omega), cup_ne (by omega), cup_ne (by omega), cup_at]
      exact hw
    · rw [C _ _ (by omega) (by omega) (by omega), D _ _ (by omega) (by omega)]; exact a5 k (by omega)
  · intro k hk
    rw [C _ _ (by omega) (by omega) (by omega), D _ _ (by omega) (by omega)]; exact a6 k hk
  · intro k hk
    by_cases e : k = nq
    · subst e
      refine ⟨?_, ?_, ?_, ?_, ?_, fun h' hh' => ?_⟩
      · rw [cup_ne (by omega), cup_ne (by omega), cup_ne (by omega), cup_at, cup_ne (by omega), cup_ne (by omega), cup_ne (by omega), cup_ne (by omega), cup_at]
      · rw [cup_ne (by omega), cup_ne (by omega), cup_at, cup_ne (by omega), cup_ne (by omega), cup_ne (by omega), cup_at]
      · rw [cup_ne (by omega), cup_at, cup_ne (by omega), cup_ne (by omega), cup_at]
      · rw [C0 _ _ (by omega) (by omega), g3, cup_ne (by omega), cup_at]
      · rw [C0 _ _ (by omega) (by omega), g4, D _ _ (by omega) (by omega)]; exact (a8 k (Nat.le_refl _) hq).1.symm
      · rw [C0 _ _ (by omega) (by omega), g5 h' hh', D _ _ (by omega) (by omega)]; exact ((a8 k (Nat.le_refl _) hq).2 h' hh').symm
    · obtain ⟨p1, p2, p3, p4, p5, p6⟩ := a7 k (by omega)
      refine ⟨?_, ?_, ?_, ?_, ?_, fun h' hh' => ?_⟩
      · rw [C _ _ (by omega) (by omega) (by omega), D _ _ (by omega) (by omega)]; exact p1
      · rw [C _ _ (by omega) (by omega) (by omega), D _ _ (by omega) (by omega)]; exact p2
      · rw [C _ _ (by omega) (by omega) (by omega), D _ _ (by omega) (by omega)]; exact p3
      · rw [C _ _ (by omega) (by omega) (by omega), D _ _ (by omega) (by omega)]; exact p4
      · rw [C _ _ (by omega) (by omega) (by omega), D _ _ (by omega) (by omega)]; exact p5
      · rw [C _ _ (by omega) (by omega) (by omega), D _ _ (by omega) (by omega)]; exact p6 h' hh'
  · intro k hk hk6
    refine ⟨?_, fun h' hh' => ?_⟩
    · rw [D _ _ (by omega) (by omega)]; exact (a8 k (by omega) hk6).1
    · rw [D _ _ (by omega) (by omega)]; exact (a8 k (by omega) hk6).2 h' hh'
  · rw [C _ _ (by omega) (by omega) (by omega), D _ _ (by omega) (by omega)]; exact e1
  · rw [C _ _ (by omega) (by omega) (by omega), D _ _ (by omega) (by omega)]; exact e2
  · rw [C _ _ (by omega) (by omega) (by omega), D _ _ (by omega) (by omega)]; exact e3
  · rw [C _ _ (by omega) (by omega) (by omega)]; exact e4
  · rw [D _ _ (by omega) (by omega)]; exact e5
  · rw [C _ _ (by omega) (by omega) (by omega)]; exact e6
  · rw [D _ _ (by omega) (by omega)]; exact e7
  · refine ⟨by rw [C _ _ (by omega) (by omega) (by omega), D _ _ (by omega) (by omega)]; exact a10.1, fun k hk => ?_, by rw [C _ _ (by omega) (by omega) (by omega)]; exact a10.2.2.1, by rw [D _ _ (by omega) (by omega)]; exact a10.2.2.2⟩
    by_cases e : k = nq
    · subst e
      refine ⟨by rw [cup_ne (by omega), cup_ne (by omega), cup_ne (by omega), cup_at]; exact hpu, by rw [C0 _ _ (by omega) (by omega), g3]; omega, fun h' hh' => by rw [C0 _ _ (by omega) (by omega), g5 h' hh']; omega⟩
    · exact (a10.2.1 k (by omega)).fr (C _ _ (by omega) (by omega) (by omega)) (C _ _ (by omega) (by omega) (by omega)) (fun h' _ => C _ _ (by omega) (by omega) (by omega)) (Nat.le_refl np)
section Beg
variable {sv : Nat → Int32} {L : Nat}
theorem beg_l {i : Nat} (hi : i < 6) {c' : cg} : ∀ (n : Nat) {lf : dlf} {g : cg} {b : Nat}, lf 0 = (4, 59 + 2 * (i : Int)) → lf 3 = (0, (b : Int)) → b ≤ 8 → (∀ h : Nat, h < b → g (60 + 2 * i) h = -1) → zr sv L n 56 32 lf [] g (c', none) → (∀ k j : Nat, k ≠ 60 + 2 * i → c' k j = g k j) ∧ ∀ h : Nat, h < 8 → c' (60 + 2 * i) h = -1
  | 0, _, _, _, _, _, _, _, h => (zr_0 h).elim
  | n + 1, lf, g, b, h0, h3, hb, hh, h => by
    rcases t_begin32 (i := (i : Int)) (by omega) (by omega) h h0 h3 with ⟨hc, h⟩ | ⟨hc, lf', a0, a3, h⟩
    · have e := oV h
      rw [e]
      exact ⟨fun _ _ _ => rfl, fun h' hh' => hh h' (by omega)⟩
    · rw [show ((60 : Int) + 2 * (i : Int)).toNat = 60 + 2 * i by omega, show ((b : Int)).toNat = b from rfl] at h
      obtain ⟨x1, x2⟩ := beg_l hi n (b := b + 1) a0 (by rw [a3, w32_id (by omega) (by omega)]; rfl) (by omega) (fun h' hh' => by
        by_cases e : h' = b
        · rw [e, cup_at]
        · rw [cup_ne (by omega)]; exact hh h' (by omega)) h
      exact ⟨fun k j hk => by rw [x1 k j hk, cup_ne (fun e => hk e.1)], x2⟩
theorem beg_ok {n : Nat} {lf : dlf} {c c' : cg} {i : Nat} {w : Int} (hi : i < 6) (h : zr sv L n 56 0 lf [] c (c', none)) (h0 : lf 0 = (4, 59 + 2 * (i : Int))) (h1 : lf 1 = (2, w)) : BG c' c i w := by
  obtain ⟨lf', a0, a3, h⟩ := t_begin0 h h0 h1
  rw [show ((59 : Int) + 2 * (i : Int)).toNat = 59 + 2 * i by omega] at h
  obtain ⟨x1, x2⟩ := beg_l hi n (b := 0) a0 a3 (by decide) (fun h' hh' => absurd hh' (Nat.not_lt_zero h')) h
  refine ⟨fun k j y z => ?_, ?_, ?_, ?_, x2⟩
  · rw [x1 k j z, cup_ne (fun e => y e.1), cup_ne (fun e => y e.1), cup_ne (fun e => y e.1), cup_ne (fun e => y e.1), cup_ne (fun e => y e.1), cup_ne (fun e => y e.1)]
  · rw [x1 _ _ (by omega), cup_ne (by omega), cup_ne (by omega), cup_ne (by omega), cup_ne (by omega), cup_ne (by omega), cup_at]
  · rw [x1 _ _ (by omega), cup_ne (by omega), cup_at]
  · rw [x1 _ _ (by omega), cup_at]
end Beg
end
section
/-! a person told, and persons named -/
theorem FLT.up {c d c' d' : cg} (h : FLT c d) (h1 : c' 88 = c 88) (h2 : d' 253 = d 253) : FLT c' d' := by
  unfold FLT at *
  rw [h1, h2]
  exact h
theorem n6 {i : Nat} (h : i < 8) : w32 (2991 + w32 (6 * (i : Int))) = ((2991 + 6 * i : Nat) : Int) := by
  rw [w32_id (z := 6 * (i : Int)) (by omega) (by omega), w32_id (by omega) (by omega)]
  omega
theorem n6e {i : Nat} (h : i < 8) {e : Int} (h0 : 0 ≤ e) (h1 : e < 16) : w32 (((2991 + 6 * i : Nat) : Int) + e) = ((2991 + 6 * i : Nat) : Int) + e := w32_id (by omega) (by omega)
theorem n6t {i : Nat} (h : i < 8) {e : Int} (h0 : 0 ≤ e) (h1 : e < 16) : (w32 (w32 (2991 + w32 (6 * (i : Int))) + e)).toNat = 2991 + 6 * i + e.toNat := by
  rw [n6 h, n6e h h0 h1]
  omega
theorem n8t {i t : Nat} (h : i < 8) (ht : t < 16) : (w32 (w32 (3027 + w32 (8 * (i : Int))) + (t : Int))).toNat = 3027 + 8 * i + t := by
  rw [w32_id (z := 8 * (i : Int)) (by omega) (by omega), w32_id (z := 3027 + 8 * (i : Int)) (by omega) (by omega), w32_id (by omega) (by omega)]
  omega
section One
variable {sv : Nat → Int32} {L : Nat} {n n' : Nat} {lf lf' : dlf} {c d c' d' : cg} {m : Nat} {r r' : Int}
/-- passIfThere(key) and isThere(key), in one -/
theorem thr2_pr {i : Nat} (hi : i < 25) (hE : TE c d m) (hT : TQ c d m) (h : zr sv L n 57 0 lf [] c (c', some (0, r))) (h0 : lf 0 = (4, 88)) (h1 : lf 1 = (0, (i : Int))) (h' : zr sv L n' 189 0 lf' [] d (d', some (0, r'))) (h0' : lf' 0 = (4, 253)) (h1' : lf' 1 = (0, (km i : Int))) : r' = r ∧ (r = 0 ∨ r = 1) ∧ SU c d c' d' m := by
  rcases thr_pr hi hE hT h h0 h1 h' h0' h1' with ⟨x1, x2, x3⟩ | ⟨x1, x2, x3, x4⟩
  · exact ⟨by omega, by omega, x3⟩
  · refine ⟨by omega, by omega, ?_⟩
    rw [x3, x4]
    exact ⟨⟨FT.rf c, Int.le_refl _⟩, FM.rf d, hE, hT⟩
/-- passPerson(draft): which one -/
theorem per_rd {nq : Nat} (hn : c 45 3 = (nq : Int)) (hq : nq ≤ 6) (hE : TE c d m) (hT : TQ c d m) (h : zr sv L n 44 0 lf [] c (c', some (0, r))) (h0 : lf 0 = (4, 88)) (h1 : lf 1 = (4, 45)) : (c 88 4 ≠ 2 ∧ r = -1) ∨ (c 88 4 = 2 ∧ ∃ q, FI (fun i => c (59 + 2 * i) 0) nq (c 88 6) q ∧ ((q ≠ -1 ∧ r = q ∧ FTM c' c) ∨ (q = -1 ∧ r = -1))) := by
  rcases t_passPer h h0 h1 with ⟨x1, lf2, b0, b2, h⟩ | ⟨x1, g3, r4, k2, lf2, b0, b2, h⟩
  · refine Or.inl ⟨x1, ?_⟩
    rcases t_passPer21 h b0 b2 with ⟨w1, w2⟩ | ⟨w1, ⟨w2, g4, r5, k4, w3⟩ | ⟨w2, w3⟩⟩
    · exact absurd rfl w1
    · exact (oI w3).2
    · exact absurd w2 x1
  · obtain ⟨e3, e4⟩ := per_ok k2 rfl rfl hn hq
    rw [e3] at h
    refine Or.inr ⟨x1, r4, e4, ?_⟩
    rcases t_passPer21 h b0 b2 with ⟨w1, g2, k5, w2⟩ | ⟨w1, ⟨w2, w3⟩ | ⟨w2, g6, r7, k5, w3⟩⟩
    · obtain ⟨e5, e6⟩ := oI w2
      obtain ⟨f1, f2⟩ := adv_lt hE hT (Or.inr (Or.inl x1)) k5 rfl
      refine Or.inl ⟨w1, e6, ?_⟩
      rw [e5]
      exact ⟨f1, Int.le_of_lt f2⟩
    · exact absurd x1 w2
    · obtain ⟨e5, e6⟩ := oI w3
      exact Or.inr ⟨w1, by rw [e6]; exact w1⟩
/-- a person named, and the reference's oneOf(but, to, twin) -/
theorem one_pr {np nq to : Nat} {a cc : Int} (hto : to = 3716 ∨ to = 3717) (hE : TE c d m) (hT : TQ c d m) (hD : DR c d np nq) (hf : d 253 18 = 0) (h : zr sv L n 44 0 lf [] c (c', some (0, r))) (h0 : lf 0 = (4, 88)) (h1 : lf 1 = (4, 45)) (h' : zr sv L n' 186 0 lf' [] d (d', some (0, r'))) (h0' : lf' 0 = (4, 253)) (h1' : lf' 1 = (0, a)) (h2' : lf' 2 = (0, (to : Int))) (h3' : lf' 3 = (0, cc)) :
    (r' = 1 ∧ (∃ i : Nat, i < nq ∧ r = (i : Int) ∧ r ≠ a ∧ (cc ≠ 0 → d 254 (2991 + 6 * i + 3) = -1)) ∧ SU c (cup d 254 to r) c' d' m) ∨ (r = -1 ∧ r' = 0 ∧ FLT c' d') ∨
    (r' = 0 ∧ (∃ i : Nat, i < nq ∧ r = (i : Int) ∧ (r = a ∨ (cc ≠ 0 ∧ d 254 (2991 + 6 * i + 3) ≠ -1))) ∧ FTM c' c ∧ d' 253 18 = 5 ∧ d' 253 17 = c 88 5) := by
  obtain ⟨⟨a1, a2⟩, ⟨b1, b2, b3, b4⟩, a4, a5, -⟩ := hD
  have go : ∀ {lfx : dlf}, lfx 0 = (4, 253) → lfx 2 = (0, (to : Int)) → zr sv L n' 186 67 lfx [] d (d', some (0, r')) → (r' = 1 ∧ (∃ i : Nat, i < nq ∧ r = (i : Int)) ∧ SU c (cup d 254 to r) c' d' m) ∨ (r = -1 ∧ r' = 0 ∧ FLT c' d') := by
    intro lfx z0 z2 hx
    obtain ⟨g1, r2, k1, e⟩ := m_oneOf67 hx z0 z2
    obtain ⟨e1, e2⟩ := oI e
    obtain ⟨g3, r4, k2, e'⟩ := m_newPer k1 rfl rfl
    obtain ⟨e3, e4⟩ := oI e'
    rw [b4] at k2
    rw [e2, e4, e1, e3]
    exact oper_pr (k := nq) (to := to) a2 b3 a5 (by omega) hE hT hf h h0 h1 k2 rfl rfl rfl rfl
  obtain ⟨g1, r2, k1, h'⟩ := m_oneOf h' h0' h1' h2' h3'
  obtain ⟨e1, e2⟩ := tq_name hE hT k1 rfl rfl
  rw [e1] at h'
  rcases h' with ⟨y1, lf4, z0, z2, h'⟩ | ⟨y1, g5, r6, k2, h'⟩
  · rcases go z0 z2 h' with ⟨w1, ⟨i, w2, w3⟩, w4⟩ | w
    · exfalso
      have hx : c 88 4 ≠ 2 := by
        rcases e2 with ⟨u1, u2⟩ | ⟨u1, u2⟩
        · omega
        · exact u1
      rcases per_rd b3 a2 hE hT h h0 h1 with ⟨x1, x2⟩ | ⟨x1, x2⟩
      · omega
      · exact hx x1
    · exact Or.inr (Or.inl w)
  · have hk2 : c 88 4 = 2 := by
      rcases e2 with ⟨u1, u2⟩ | ⟨u1, u2⟩
      · exact u1
      · exact absurd u2 y1
    obtain ⟨V, hV, hNR⟩ := tq_nh (sv := sv) (L := L) hE hT hk2
    rw [b4] at k2
    obtain ⟨e3, e4⟩ := fnd_ok (b := 53) (k := nq) k2 rfl rfl rfl hV (by omega)
    rw [e3] at h'
    rcases per_rd b3 a2 hE hT h h0 h1 with ⟨x1, x2⟩ | ⟨x1, q, x2, x3⟩
    · exact absurd hk2 x1
    · obtain ⟨e5, e6⟩ := FI_eq x2 e4 (fun i hi => NR_eq (a5 i hi) hNR)
      rcases h' with ⟨y2, lf8, z0, z2, h'⟩ | ⟨y2, h'⟩
      · rcases go z0 z2 h' with ⟨w1, ⟨i, w2, w3⟩, w4⟩ | w
        · exfalso
          rcases x3 with ⟨u1, u2, u3⟩ | ⟨u1, u2⟩
          · omega
          · omega
        · exact Or.inr (Or.inl w)
      · have hx : r = q ∧ FTM c' c := by
          rcases x3 with ⟨u1, u2, u3⟩ | ⟨u1, u2⟩
          · exact ⟨u2, u3⟩
          · exact absurd (by rw [← e5]; exact u1) y2
        obtain ⟨hx1, hx2⟩ := hx
        have hi : ∃ i : Nat, i < nq ∧ q = (i : Int) := by
          rcases e6 with z | z
          · exact absurd (by rw [← e5]; exact z) y2
          · exact z
        obtain ⟨i, i1, i2⟩ := hi
        have hb : d 253 12 ≠ 1 := fun e => by
          have := (tq_bad hT).mpr e
          omega
        have f5 : ∀ {g : cg} {r7 : Int}, zr sv L n' 173 0 (darg 0 [(4, 253), (0, 5)]) [] d (g, some (0, r7)) → d' = g → r' = r7 → r' = 0 ∧ d' 253 18 = 5 ∧ d' 253 17 = c 88 5 := by
          intro g r7 k3 l1 l2
          rcases t_fails k3 rfl rfl with ⟨x1, x2⟩ | ⟨x1, ⟨x2, x3⟩ | ⟨x2, x3⟩⟩
          · exact absurd hf x1
          · obtain ⟨m1, m2⟩ := oI x3
            refine ⟨by rw [l2, m2], ?_, ?_⟩
            · rw [l1, m1, cup_ne (by decide), cup_at]
            · rw [l1, m1, cup_at]; exact (tq_st hT).symm
          · exact absurd x2 hb
        rcases h' with ⟨y3, g10, r11, k3, h'⟩ | ⟨y3, h'⟩
        · obtain ⟨l1, l2⟩ := oI h'
          obtain ⟨l3, l4, l5⟩ := f5 k3 l1 l2
          exact Or.inr (Or.inr ⟨l3, ⟨i, i1, by omega, Or.inl (by omega)⟩, hx2, l4, l5⟩)
        · have ok : ∀ {lfx : dlf}, lfx 0 = (4, 253) → lfx 2 = (0, (to : Int)) → zr sv L n' 186 67 lfx [] d (d', some (0, r')) → (cc ≠ 0 → d 254 (2991 + 6 * i + 3) = -1) →
              (r' = 1 ∧ (∃ i : Nat, i < nq ∧ r = (i : Int) ∧ r ≠ a ∧ (cc ≠ 0 → d 254 (2991 + 6 * i + 3) = -1)) ∧ SU c (cup d 254 to r) c' d' m) ∨ (r = -1 ∧ r' = 0 ∧ FLT c' d') ∨
              (r' = 0 ∧ (∃ i : Nat, i < nq ∧ r = (i : Int) ∧ (r = a ∨ (cc ≠ 0 ∧ d 254 (2991 + 6 * i + 3) ≠ -1))) ∧ FTM c' c ∧ d' 253 18 = 5 ∧ d' 253 17 = c 88 5) := by
            intro lfx z0 z2 hy ht
            rcases go z0 z2 hy with ⟨w1, -, w4⟩ | w
            · exact Or.inl ⟨w1, ⟨i, i1, by omega, by omega, ht⟩, w4⟩
            · exact Or.inr (Or.inl w)
          rcases h' with ⟨y4, lf13, z0, z2, h'⟩ | ⟨y4, h'⟩
          · exact ok z0 z2 h' (fun e => absurd y4 e)
          · have ew : w32 (w32 (2991 + w32 (6 * r6)) + 3) = ((2991 + 6 * i + 3 : Nat) : Int) := by
              rw [← e5, i2, n6 (by omega), n6e (by omega) (by decide) (by decide)]
              rfl
            rw [ew] at h'
            have h' := h' (by omega) (by omega)
            rw [show (((2991 + 6 * i + 3 : Nat) : Int)).toNat = 2991 + 6 * i + 3 from rfl] at h'
            rcases h' with ⟨y5, lf17, z0, z2, h'⟩ | ⟨y5, g18, r19, k3, h'⟩
            · exact ok z0 z2 h' (fun _ => y5)
            · obtain ⟨l1, l2⟩ := oI h'
              obtain ⟨l3, l4, l5⟩ := f5 k3 l1 l2
              exact Or.inr (Or.inr ⟨l3, ⟨i, i1, by omega, Or.inr ⟨y4, y5⟩⟩, hx2, l4, l5⟩)
/-- a person -/
theorem person_pr {np nq : Nat} {d1 : cg} {r1 : Int} (hS : SY c d m np nq) (hk : c 88 7 ≠ -1) (h : zr sv L n 54 0 lf [] c (c', some (0, r))) (h0 : lf 0 = (4, 90)) {lf2 : dlf} (h2 : zr sv L n' 187 0 lf2 [] d (d1, some (0, r1))) (h20 : lf2 0 = (4, 253)) (h' : zr sv L n' 171 129 lf' [] d1 (d', some (0, r'))) (h0' : lf' 0 = (4, 253)) (h1' : lf' 1 = (0, r1)) : ST c c' d' r r' m := by
  obtain ⟨hE, hT, hD, hf⟩ := hS
  have hD0 := hD
  obtain ⟨⟨a1, a2⟩, ⟨b1, b2, b3, b4⟩, -⟩ := hD0
  obtain ⟨g1, r2, k1, h2⟩ := m_aPerson h2 h20
  have bad : r1 = 0 → r = 0 → FLT c' d1 → ST c c' d' r r' m := by
    intro z1 z2 z3
    obtain ⟨e1, e2⟩ := end_0 h' h0' h1' z1
    exact Or.inr ⟨z2, e2, by rw [e1]; exact z3⟩
  rcases t_takePer h h0 with ⟨x1, g2, k2, g3, r4, k3, h⟩ | ⟨x1, g16, r17, k2, h⟩
  · rw [b3] at x1
    have et : w32 (2991 + w32 (6 * d 254 2977)) = ((2991 + 6 * nq : Nat) : Int) := by
      rw [b4, n6 (by omega)]
    rw [et, show (w32 (((2991 + 6 * nq : Nat) : Int) + 1)).toNat = 2991 + 6 * nq + 1 by rw [n6e (by omega) (by decide) (by decide)]; omega, show (w32 (((2991 + 6 * nq : Nat) : Int) + 2)).toNat = 2991 + 6 * nq + 2 by rw [n6e (by omega) (by decide) (by decide)]; omega, show (w32 (((2991 + 6 * nq : Nat) : Int) + 3)).toNat = 2991 + 6 * nq + 3 by rw [n6e (by omega) (by decide) (by decide)]; omega] at h2
    rcases m_newPers k1 rfl rfl rfl rfl with ⟨y1, d2, k4, hn⟩ | ⟨y1, y2⟩
    · obtain ⟨s1, s2, s3, s4⟩ := adv_su (c0 := c) hE hT (Or.inl (tq_kk hT hk)) k2 rfl k4 rfl
      have hD2 := hD.fr s1.o8 s2.om
      have hf2 : d2 253 18 = 0 := s2.om.2.2.trans hf
      rcases new_pr s3 s4 hD2 hf2 k3 rfl hn with ⟨z1, z2, z3, ⟨d3, V', k5, d4, k6, z4⟩, V, z5, z6⟩ | ⟨z1, d9, r10, z2, z3, z4⟩
      · obtain ⟨e1, e2⟩ := z5 _ _ _ _ k5 rfl
        rw [e1, e2, show (w32 (53 + (d2 254 2977))).toNat = 53 + nq by rw [hD2.2.1.2.2.2, w32_id (by omega) (by omega)]; omega] at k6
        obtain ⟨e3, e4⟩ := oI z4
        rcases h with ⟨u1, h⟩ | ⟨u1, u2⟩
        · have hn3 : g2 45 3 = (nq : Int) := hD2.2.1.2.2.1
          rw [z2, hn3] at h
          obtain ⟨g8, k7, g9, k8, g10, r11, k9, h⟩ := h (by omega) (by omega)
          rw [show (59 + 2 * (nq : Int)).toNat = 59 + 2 * nq by omega] at h
          have hB : BG g8 g2 nq (g2 88 6) := beg_ok (i := nq) (by omega) k7 rfl rfl
          have row : ∀ k : Nat, k ≠ 59 + 2 * nq → k ≠ 60 + 2 * nq → g8 k = g2 k := fun k x y => funext fun j => hB.1 k j x y
          have q1 : g8 88 = g2 88 := row 88 (by omega) (by omega)
          have q2 : g8 2 = g2 2 := row 2 (by omega) (by omega)
          have q3 : g8 89 = g2 89 := row 89 (by omega) (by omega)
          have q4 : cup d2 255 (53 + nq) V 253 = d2 253 := cup_row d2 _ _ (by decide)
          have q5 : cup d2 255 (53 + nq) V 260 = d2 260 := cup_row d2 _ _ (by decide)
          obtain ⟨v1, v2, v3, v4⟩ := adv_su (c0 := c) (s3.up q1 q2 q3 q4 q5) (s4.up q1 q4 q5) (Or.inr (Or.inl (by rw [q1]; exact z3))) k8 rfl k6 rfl
          have hf3 : d4 253 18 = 0 := by rw [v2.om.2.2, q4]; exact hf2
          rw [e3] at h2
          rcases h2 with ⟨w1, w2⟩ | ⟨w1, d5, r5, k10, h2⟩
          · omega
          · rcases pass_pr (i := 3) (by decide) v3 v4 hf3 k9 rfl rfl k10 rfl rfl rfl with ⟨f1, f2, f3, f4, f5, f6⟩ | ⟨f1, f2, f3⟩
            · have hf5 : d5 253 18 = 0 := f4.om.2.2.trans hf3
              rcases h2 with ⟨w2, w3⟩ | ⟨w2, d7, r8, k11, h2⟩
              · omega
              · rcases h with ⟨j1, g13, r14, k12, h⟩ | ⟨j1, j2⟩
                · rcases num_pr (lo := 0) (hi := 999) (to := ((2991 + 6 * nq : Nat) : Int)) (by decide) f5 f6 hf5 k12 rfl rfl rfl k11 rfl rfl rfl rfl with ⟨i1, i2, i3, i4, i5, i6, i7⟩ | ⟨i1, i2, i3⟩
                  · rw [show (((2991 + 6 * nq : Nat) : Int)).toNat = 2991 + 6 * nq from rfl] at i5
                    have hf7 : d7 253 18 = 0 := by
                      rw [i5.om.2.2, cup_ne (by omega)]
                      exact hf5
                    rcases h with ⟨p1, g16, r17, k13, g18, r19, k14, g20, r21, k15, h⟩ | ⟨p1, p2⟩
                    · rcases h2 with ⟨w4, d8, r11', k16, h2⟩ | ⟨w4, w5⟩
                      · have a88 : ∀ (g : cg) (j : Nat) (v : Int), cup g (59 + 2 * nq) j v 88 = g 88 := fun g j v => cup_row g _ _ (by omega)
                        have a2' : ∀ (g : cg) (j : Nat) (v : Int), cup g (59 + 2 * nq) j v 2 = g 2 := fun g j v => cup_row g _ _ (by omega)
                        have a89 : ∀ (g : cg) (j : Nat) (v : Int), cup g (59 + 2 * nq) j v 89 = g 89 := fun g j v => cup_row g _ _ (by omega)
                        have b53 : ∀ (g : cg) (j : Nat) (v : Int), cup g 254 j v 253 = g 253 := fun g j v => cup_row g _ _ (by decide)
                        have b60 : ∀ (g : cg) (j : Nat) (v : Int), cup g 254 j v 260 = g 260 := fun g j v => cup_row g _ _ (by decide)
                        obtain ⟨m1, m2, m3, m4, m5, m6⟩ := thr2_pr (i := 4) (by decide) (i6.up (a88 g13 1 r14) (a2' g13 1 r14) (a89 g13 1 r14) rfl rfl) (i7.up (a88 g13 1 r14) rfl rfl) k13 rfl rfl k16 rfl rfl
                        have hf8 : d8 253 18 = 0 := m4.om.2.2.trans hf7
                        have fin : ∀ x : Int, x = r17 → (∃ (d9 : cg) (r9 : Int), zr sv L n' 189 0 (darg 0 [(4, 253), (0, 11)]) [] (cup d8 254 (2991 + 6 * nq + 1) x) (d9, some (0, r9)) ∧
                            ((r9 = 0 ∧ (d1, (some (0, r1) : Option cv)) = (cup (cup (cup d9 254 (2991 + 6 * nq + 2) 0) 254 (2991 + 6 * nq + 3) (-1)) 254 2977 (w32 ((cup (cup d9 254 (2991 + 6 * nq + 2) 0) 254 (2991 + 6 * nq + 3) (-1)) 254 2977 + 1)), some (0, 1))) ∨
                             (r9 ≠ 0 ∧ (d1, (some (0, r1) : Option cv)) = (cup (cup (cup d9 254 (2991 + 6 * nq + 2) 1) 254 (2991 + 6 * nq + 3) (-1)) 254 2977 (w32 ((cup (cup d9 254 (2991 + 6 * nq + 2) 1) 254 (2991 + 6 * nq + 3) (-1)) 254 2977 + 1)), some (0, 1))))) → ST c c' d' r r' m := by
                          intro x hx hh
                          rw [hx] at hh
                          obtain ⟨d9, r9, k17, hh⟩ := hh
                          obtain ⟨o1, o2, o3, o4, o5, o6⟩ := thr2_pr (i := 5) (by decide) (m5.up (a88 g16 2 r17) (a2' g16 2 r17) (a89 g16 2 r17) (b53 d8 (2991 + 6 * nq + 1) r17) (b60 d8 (2991 + 6 * nq + 1) r17)) (m6.up (a88 g16 2 r17) (b53 d8 (2991 + 6 * nq + 1) r17) (b60 d8 (2991 + 6 * nq + 1) r17)) k14 rfl rfl k17 rfl rfl
                          have hf9 : d9 253 18 = 0 := by
                            rw [o4.om.2.2, b53]
                            exact hf8
                          have fin2 : ∀ y : Int, y = r19 → (d1, (some (0, r1) : Option cv)) = (cup (cup (cup d9 254 (2991 + 6 * nq + 2) y) 254 (2991 + 6 * nq + 3) (-1)) 254 2977 (w32 ((cup (cup d9 254 (2991 + 6 * nq + 2) y) 254 (2991 + 6 * nq + 3) (-1)) 254 2977 + 1)), some (0, 1)) → ST c c' d' r r' m := by
                            intro y hy he
                            rw [hy] at he
                            obtain ⟨l1, l2⟩ := oI he
                            have hc9 : d9 254 2977 = (nq : Int) := by
                              rw [o4.om.1 254 (by decide), cup_ne (by omega), m4.om.1 254 (by decide), i5.om.1 254 (by decide), cup_ne (by omega), f4.om.1 254 (by decide), v2.om.1 254 (by decide), cup_ne (by omega)]
                              exact hD2.2.1.2.2.2
                            have hcc : cup (cup d9 254 (2991 + 6 * nq + 2) r19) 254 (2991 + 6 * nq + 3) (-1) 254 2977 = (nq : Int) := by
                              rw [cup_ne (by omega), cup_ne (by omega)]
                              exact hc9
                            rw [hcc, show w32 ((nq : Int) + 1) = ((nq + 1 : Nat) : Int) from w32_id (by omega) (by omega)] at l1
                            have q6 : d1 253 = d9 253 := by rw [l1, b53, b53, b53]
                            have q7 : d1 260 = d9 260 := by rw [l1, b60, b60, b60]
                            rcases end_pr (np := np) (nq := nq) (o5.up (a88 g18 3 r19) (a2' g18 3 r19) (a89 g18 3 r19) q6 q7) (o6.up (a88 g18 3 r19) q6 q7) (by rw [q6]; exact hf9) k15 rfl h' h0' h1' (by omega) with ⟨t1, t2, t3, t4, t5, t6⟩ | ⟨t1, t2, t3⟩
                            · rcases h with ⟨p2, p3⟩ | ⟨p2, p3⟩
                              · obtain ⟨l3, l4⟩ := oI p3
                                have hC : O8 g20 (cup (cup (cup g8 (59 + 2 * nq) 1 r14) (59 + 2 * nq) 2 r17) (59 + 2 * nq) 3 r19) := t3.o8.tr ((o3.o8.tr ((m3.o8.tr ((i4.o8.tr (f3.o8.tr v1.o8)).cup (59 + 2 * nq) 1 r14)).cup (59 + 2 * nq) 2 r17)).cup (59 + 2 * nq) 3 r19)
                                have hn20 : g20 45 3 = (nq : Int) := by
                                  rw [hC 45 (by decide), cup_ne (by omega), cup_ne (by omega), cup_ne (by omega), row 45 (by omega) (by omega)]
                                  exact hn3
                                rw [hn20, show w32 ((nq : Int) + 1) = ((nq + 1 : Nat) : Int) from w32_id (by omega) (by omega)] at l3
                                have hd' : OM d' (cup (cup (cup (cup (cup (cup d2 255 (53 + nq) V) 254 (2991 + 6 * nq) r14) 254 (2991 + 6 * nq + 1) r17) 254 (2991 + 6 * nq + 2) r19) 254 (2991 + 6 * nq + 3) (-1)) 254 2977 ((nq + 1 : Nat) : Int)) := by
                                  refine t4.om.tr ?_
                                  rw [l1]
                                  exact (((o4.om.tr ((m4.om.tr (i5.om.tr ((f4.om.tr v2.om).cup (by decide) _ _))).cup (by decide) _ _)).cup (by decide) _ _).cup (by decide) _ _).cup (by decide) _ _
                                have hD' := (hD2.person (w := g2 88 6) (V := V) (pu := r14) (ch := r17) (bi := r19) (by omega) hB z6 ⟨i2, i3⟩).fr (hC.cup 45 3 ((nq + 1 : Nat) : Int)) hd'
                                have q8 : cup g20 45 3 ((nq + 1 : Nat) : Int) 88 = g20 88 := cup_row g20 _ _ (by decide)
                                have q9 : cup g20 45 3 ((nq + 1 : Nat) : Int) 2 = g20 2 := cup_row g20 _ _ (by decide)
                                have q10 : cup g20 45 3 ((nq + 1 : Nat) : Int) 89 = g20 89 := cup_row g20 _ _ (by decide)
                                refine Or.inl ⟨l4, t2, ⟨np, nq + 1, ?_⟩, ?_⟩
                                · rw [l3]
                                  refine ⟨t5.up q8 q9 q10 rfl rfl, t6.up q8 rfl rfl, hD', ?_⟩
                                  rw [t4.om.2.2, q6]
                                  exact hf9
                                · rw [l3, q8]
                                  have j1 := (adv_lt hE hT (Or.inl (tq_kk hT hk)) k2 rfl).2
                                  have j2 := v1.2
                                  rw [q1] at j2
                                  have j3 := f3.2
                                  have j4 := i4.2
                                  have j5 := m3.2
                                  rw [a88] at j5
                                  have j6 := o3.2
                                  rw [a88] at j6
                                  have j7 := t3.2
                                  rw [a88] at j7
                                  omega
                              · omega
                            · rcases h with ⟨p2, p3⟩ | ⟨p2, p3⟩
                              · omega
                              · obtain ⟨l3, l4⟩ := oI p3
                                exact Or.inr ⟨l4, t2, by rw [l3]; exact t3⟩
                          rcases hh with ⟨w7, hh⟩ | ⟨w7, hh⟩
                          · exact fin2 0 (by omega) hh
                          · exact fin2 1 (by omega) hh
                        rcases h2 with ⟨w6, h2⟩ | ⟨w6, h2⟩
                        · exact fin 0 (by omega) h2
                        · exact fin 1 (by omega) h2
                      · omega
                    · omega
                  · rcases h2 with ⟨w4, w5⟩ | ⟨w4, w5⟩
                    · omega
                    · obtain ⟨l1, l2⟩ := oI w5
                      rcases h with ⟨p1, p2⟩ | ⟨p1, p2⟩
                      · omega
                      · obtain ⟨l3, l4⟩ := oI p2
                        exact bad l2 l4 (by rw [l3, l1]; exact i3.up (cup_row g13 _ _ (by omega)) rfl)
                · omega
            · rcases h2 with ⟨w2, w3⟩ | ⟨w2, w3⟩
              · obtain ⟨l1, l2⟩ := oI w3
                rcases h with ⟨j1, j2⟩ | ⟨j1, j2⟩
                · omega
                · obtain ⟨l3, l4⟩ := oI j2
                  exact bad l2 l4 (by rw [l3, l1]; exact f3)
              · omega
        · omega
      · obtain ⟨e1, e2⟩ := oI z2
        rcases h with ⟨u1, u2⟩ | ⟨u1, u2⟩
        · omega
        · obtain ⟨l3, l4⟩ := oI u2
          rcases h2 with ⟨w1, w2⟩ | ⟨w1, w2⟩
          · obtain ⟨l1, l2⟩ := oI w2
            exact bad l2 l4 (by rw [l3, l1, e1]; exact z4)
          · omega
    · rw [b4] at y1
      omega
  · rw [b3] at x1
    rcases m_newPers k1 rfl rfl rfl rfl with ⟨y1, y2⟩ | ⟨y1, g21, r22, k3, y2⟩
    · rw [b4] at y1
      omega
    · obtain ⟨e1, e2⟩ := oI y2
      obtain ⟨e3, e4⟩ := oI h
      obtain ⟨z1, z2, z3⟩ := fail_pr hT hf (by decide) k2 rfl rfl k3 rfl rfl
      rcases h2 with ⟨w1, w2⟩ | ⟨w1, w2⟩
      · obtain ⟨l1, l2⟩ := oI w2
        exact bad l2 (by rw [e4, z1]) (by rw [e3, l1, e1]; exact z3)
      · omega
end One
end
section
/-! the other statements -/
theorem TE.told {c d : cg} {m : Nat} (h : TE c d m) (v v' : Int) : TE (cup c 90 4 v) (cup d 253 20 v') m := by
  obtain ⟨h1, h2, h3, h4, h5, h6, h7, k1, k2, k3⟩ := h
  have r2 : cup c 90 4 v 2 = c 2 := cup_row c _ _ (by decide)
  have r89 : cup c 90 4 v 89 = c 89 := cup_row c _ _ (by decide)
  have r260 : cup d 253 20 v' 260 = d 260 := cup_row d _ _ (by decide)
  refine ⟨h1, ?_, ?_, ?_, ?_, ?_, ?_, by rw [cup_ne (by decide)]; exact k1, by rw [cup_ne (by decide)]; exact k2, by rw [cup_ne (by decide)]; exact k3⟩
  · rw [cup_ne (by decide)]; exact h2
  · rw [cup_ne (by decide)]; exact h3
  · rw [r2]; exact h4
  · unfold MBY at *; rw [r260]; exact h5
  · rw [r2, r260]; exact h6
  · rw [r89]; exact h7
theorem TQ.told {c d : cg} {m : Nat} (h : TQ c d m) (v v' : Int) : TQ (cup c 90 4 v) (cup d 253 20 v') m := by
  have r88 : cup c 90 4 v 88 = c 88 := cup_row c _ _ (by decide)
  have r260 : cup d 253 20 v' 260 = d 260 := cup_row d _ _ (by decide)
  have hb : mb (cup d 253 20 v') = mb d := by
    funext j
    unfold mb
    rw [r260]
  have e12 : cup d 253 20 v' 253 12 = d 253 12 := cup_ne (by decide)
  have e13 : cup d 253 20 v' 253 13 = d 253 13 := cup_ne (by decide)
  have e14 : cup d 253 20 v' 253 14 = d 253 14 := cup_ne (by decide)
  have e15 : cup d 253 20 v' 253 15 = d 253 15 := cup_ne (by decide)
  unfold TQ at *
  rw [r88, hb, e12, e13, e14, e15]
  exact h
/-- the bit of a rate, in both words -/
def trA (x y z k : Nat) : Int := (i32 ((i32 ((2048 * x + 4096 * y + 8192 * z : Nat) : Int) >>> (i32 ((11 + k : Nat) : Int) &&& 31)).toInt) &&& i32 1).toInt
def trB (x y z k : Nat) : Int := (i32 ((i32 ((32 * x + 64 * y + 128 * z : Nat) : Int) >>> (i32 ((5 + k : Nat) : Int) &&& 31)).toInt) &&& i32 1).toInt
def trC (x y z k : Nat) : Int := (i32 ((2048 * x + 4096 * y + 8192 * z : Nat) : Int) ||| i32 ((i32 1 <<< (i32 ((11 + k : Nat) : Int) &&& 31)).toInt)).toInt
def trD (x y z k : Nat) : Int := (i32 ((32 * x + 64 * y + 128 * z : Nat) : Int) ||| i32 ((i32 1 <<< (i32 ((5 + k : Nat) : Int) &&& 31)).toInt)).toInt
def trE (k : Nat) (x : Nat) (i : Nat) : Nat := if k = i then 1 else x
def trF (x y z k : Nat) : Bool := (cond (trA x y z k == 0) (!(trB x y z k == 1)) (trB x y z k == 1)) && (trC x y z k == ((2048 * trE k x 0 + 4096 * trE k y 1 + 8192 * trE k z 2 : Nat) : Int)) && (trD x y z k == ((32 * trE k x 0 + 64 * trE k y 1 + 128 * trE k z 2 : Nat) : Int))
theorem tr_all : ∀ x, x < 2 → ∀ y, y < 2 → ∀ z, z < 2 → ∀ k, k < 3 → trF x y z k = true := by decide +kernel
theorem trE_lt {k x i : Nat} (h : x < 2) : trE k x i < 2 := by
  unfold trE
  split <;> omega
theorem tr_st {x y z k : Nat} (hx : x < 2) (hy : y < 2) (hz : z < 2) (hk : k < 3) : ((trA x y z k = 0 ∧ trB x y z k ≠ 1) ∨ (trA x y z k ≠ 0 ∧ trB x y z k = 1)) ∧ trC x y z k = ((2048 * trE k x 0 + 4096 * trE k y 1 + 8192 * trE k z 2 : Nat) : Int) ∧ trD x y z k = ((32 * trE k x 0 + 64 * trE k y 1 + 128 * trE k z 2 : Nat) : Int) := by
  have h := tr_all x hx y hy z hz k hk
  unfold trF at h
  rw [Bool.and_eq_true, Bool.and_eq_true] at h
  obtain ⟨⟨h1, h2⟩, h3⟩ := h
  refine ⟨?_, eq_of_beq h2, eq_of_beq h3⟩
  cases ha : (trA x y z k == 0) with
  | true =>
    rw [ha] at h1
    refine Or.inl ⟨eq_of_beq ha, fun e => ?_⟩
    rw [e] at h1
    exact absurd h1 (by decide)
  | false =>
    rw [ha] at h1
    refine Or.inr ⟨fun e => ?_, eq_of_beq h1⟩
    rw [e] at ha
    exact absurd ha (by decide)
theorem TR.st {t t' : Int} (h : TR t t') {k : Nat} (hk : k < 3) :
    (((i32 ((i32 t >>> (i32 ((11 + k : Nat) : Int) &&& 31)).toInt) &&& i32 1).toInt = 0 ∧ (i32 ((i32 t' >>> (i32 ((5 + k : Nat) : Int) &&& 31)).toInt) &&& i32 1).toInt ≠ 1) ∨
     ((i32 ((i32 t >>> (i32 ((11 + k : Nat) : Int) &&& 31)).toInt) &&& i32 1).toInt ≠ 0 ∧ (i32 ((i32 t' >>> (i32 ((5 + k : Nat) : Int) &&& 31)).toInt) &&& i32 1).toInt = 1)) ∧
    TR ((i32 t ||| i32 ((i32 1 <<< (i32 ((11 + k : Nat) : Int) &&& 31)).toInt)).toInt) ((i32 t' ||| i32 ((i32 1 <<< (i32 ((5 + k : Nat) : Int) &&& 31)).toInt)).toInt) := by
  obtain ⟨x, y, z, hx, hy, hz, e1, e2⟩ := h
  rw [e1, e2]
  obtain ⟨h1, h2, h3⟩ := tr_st hx hy hz hk
  exact ⟨h1, _, _, _, trE_lt hx, trE_lt hy, trE_lt hz, h2, h3⟩
section Stm2
variable {sv : Nat → Int32} {L : Nat} {n n' : Nat} {lf lf' : dlf} {c d c' d' : cg} {m : Nat} {r r' : Int}
/-- a fault at a place kept before -/
theorem at_pr (hf5 : d' 253 18 = 5) {x : Int} (h17 : d' 253 17 = x) (h : zr sv L n 50 0 lf [] c (c', some (0, r))) (h0 : lf 0 = (4, 88)) (h1 : lf 1 = (0, x)) (h2 : lf 2 = (0, 5)) : r = 0 ∧ FLT c' d' := by
  obtain ⟨e1, e2⟩ := oI (t_failAt h h0 h1 h2)
  refine ⟨e2, ?_, ?_, ?_⟩
  · rw [e1, hf5, cup_ne (by decide), cup_at]
  · rw [e1, cup_ne (by decide), cup_at]; decide
  · rw [e1, h17, cup_at]
/-- passUntwinned() and oneOf(but, to, true) -/
theorem unt_pr {np nq to : Nat} {a : Int} (hto : to = 3716 ∨ to = 3717) (hE : TE c d m) (hT : TQ c d m) (hD : DR c d np nq) (hf : d 253 18 = 0) (h : zr sv L n 53 0 lf [] c (c', some (0, r))) (h0 : lf 0 = (4, 90)) (h' : zr sv L n' 186 0 lf' [] d (d', some (0, r'))) (h0' : lf' 0 = (4, 253)) (h1' : lf' 1 = (0, a)) (h2' : lf' 2 = (0, (to : Int))) (h3' : lf' 3 = (0, 1)) :
    (r' = 1 ∧ (∃ i : Nat, i < nq ∧ r = (i : Int) ∧ r ≠ a) ∧ SU c (cup d 254 to r) c' d' m) ∨ (r = -1 ∧ r' = 0 ∧ FLT c' d') ∨
    (r' = 0 ∧ (∃ i : Nat, i < nq ∧ r = (i : Int) ∧ r = a) ∧ FTM c' c ∧ d' 253 18 = 5 ∧ d' 253 17 = c 88 5) := by
  have hD0 := hD
  obtain ⟨⟨a1, a2⟩, ⟨b1, b2, b3, b4⟩, a4, a5, a6, a7, -⟩ := hD0
  obtain ⟨g1, r2, k1, h⟩ := t_untwin h h0
  have go := one_pr (cc := 1) hto hE hT hD hf k1 rfl rfl h' h0' h1' h2' h3'
  rcases h with ⟨x1, h⟩ | ⟨x1, h⟩
  · obtain ⟨e1, e2⟩ := oI h
    rcases go with ⟨w1, ⟨i, w2, w3, w4⟩, w5⟩ | ⟨w1, w2, w3⟩ | ⟨w1, ⟨i, w2, w3, w4⟩, w5⟩
    · omega
    · exact Or.inr (Or.inl ⟨by omega, w2, by rw [e1]; exact w3⟩)
    · omega
  · rcases go with ⟨w1, ⟨i, w2, w3, w4, w5⟩, w6⟩ | ⟨w1, w2, w3⟩ | ⟨w1, ⟨i, w2, w3, w4⟩, w5, w6, w7⟩
    · rw [w3] at h
      have h := h (by omega) (by omega)
      rw [show (59 + 2 * (i : Int)).toNat = 59 + 2 * i by omega] at h
      have hv : g1 (59 + 2 * i) 4 = -1 := by
        rw [w6.1.o8 (59 + 2 * i) (by omega), (a7 i w2).2.2.2.1]
        exact w5 (by decide)
      rcases h with ⟨y1, h⟩ | ⟨y1, h⟩
      · obtain ⟨e1, e2⟩ := oI h
        refine Or.inl ⟨w1, ⟨i, w2, e2, by omega⟩, ?_⟩
        rw [e1, e2, ← w3]
        exact w6
      · exact absurd hv y1
    · exact absurd w1 x1
    · rw [w3] at h
      have h := h (by omega) (by omega)
      rw [show (59 + 2 * (i : Int)).toNat = 59 + 2 * i by omega] at h
      have hv : g1 (59 + 2 * i) 4 = d 254 (2991 + 6 * i + 3) := by
        rw [w5.o8 (59 + 2 * i) (by omega)]
        exact (a7 i w2).2.2.2.1
      rcases h with ⟨y1, h⟩ | ⟨y1, g7, r8, k2, h⟩
      · obtain ⟨e1, e2⟩ := oI h
        rcases w4 with w4 | ⟨-, w4⟩
        · refine Or.inr (Or.inr ⟨w1, ⟨i, w2, e2, by omega⟩, ?_, w6, w7⟩)
          rw [e1]
          exact w5
        · exact absurd (by rw [← hv]; exact y1) w4
      · obtain ⟨e1, e2⟩ := oI h
        obtain ⟨l1, l2⟩ := at_pr w6 w7 k2 rfl rfl rfl
        exact Or.inr (Or.inl ⟨e2, w1, by rw [e1]; exact l2⟩)
/-- twins -/
theorem twins_pr {np nq : Nat} {d1 : cg} {r1 : Int} (hS : SY c d m np nq) (hk : c 88 7 ≠ -1) (h : zr sv L n 52 0 lf [] c (c', some (0, r))) (h0 : lf 0 = (4, 90)) {lf2 : dlf} (h2 : zr sv L n' 185 0 lf2 [] d (d1, some (0, r1))) (h20 : lf2 0 = (4, 253)) (h21 : lf2 1 = (0, 1)) (h' : zr sv L n' 171 129 lf' [] d1 (d', some (0, r'))) (h0' : lf' 0 = (4, 253)) (h1' : lf' 1 = (0, r1)) : ST c c' d' r r' m := by
  obtain ⟨hE, hT, hD, hf⟩ := hS
  have bad : r1 = 0 → r = 0 → FLT c' d1 → ST c c' d' r r' m := by
    intro z1 z2 z3
    obtain ⟨e1, e2⟩ := end_0 h' h0' h1' z1
    exact Or.inr ⟨z2, e2, by rw [e1]; exact z3⟩
  obtain ⟨g1, k1, g2, r3, k2, h⟩ := t_takeTw h h0
  obtain ⟨d2, k3, d3, r4, k4, h2⟩ := m_twins h2 h20 h21
  obtain ⟨s1, s2, s3, s4⟩ := adv_su (c0 := c) hE hT (Or.inl (tq_kk hT hk)) k1 rfl k3 rfl
  have hq6 := hD.1.2
  have hD2 := hD.fr s1.o8 s2.om
  have hf2 : d2 253 18 = 0 := s2.om.2.2.trans hf
  have b53 : ∀ (g : cg) (j : Nat) (v : Int), cup g 254 j v 253 = g 253 := fun g j v => cup_row g _ _ (by decide)
  have b60 : ∀ (g : cg) (j : Nat) (v : Int), cup g 254 j v 260 = g 260 := fun g j v => cup_row g _ _ (by decide)
  rcases unt_pr (to := 3716) (Or.inl rfl) s3 s4 hD2 hf2 k2 rfl k4 rfl rfl rfl rfl with ⟨w1, ⟨i, w2, w3, w4⟩, u1, u2, u3, u4⟩ | ⟨w1, w2, w3⟩ | ⟨w1, ⟨i, w2, w3, w4⟩, w5⟩
  · rcases h with ⟨x1, g5, r6, k5, h⟩ | ⟨x1, h⟩
    · rcases h2 with ⟨y1, h2⟩ | ⟨y1, d5, r7, k6, h2⟩
      · omega
      · have hr3 : d3 254 3716 = r3 := by rw [u2.om.1 254 (by decide), cup_at]
        rw [hr3] at k6
        have hD3 : DR g2 d3 np nq := (hD2.spare (to := 3716) (by decide) r3).fr u1.o8 u2.om
        have hf3 : d3 253 18 = 0 := by rw [u2.om.2.2, b53]; exact hf2
        rcases unt_pr (to := 3717) (Or.inr rfl) u3 u4 hD3 hf3 k5 rfl k6 rfl rfl rfl rfl with ⟨v1, ⟨j, v2, v3, v4⟩, p1, p2, p3, p4⟩ | ⟨v1, v2, v3⟩ | ⟨v1, ⟨j, v2, v3, v4⟩, v5, v6, v7⟩
        · rcases h with ⟨z1, h⟩ | ⟨z1, h⟩
          · rcases h2 with ⟨z2, h2⟩ | ⟨z2, h2⟩
            · rcases h with ⟨z3, h⟩ | ⟨z3, h⟩
              · obtain ⟨g13, r14, k7, h⟩ := h (by omega) (by omega) (by omega) (by omega)
                have hD5 : DR g5 d5 np nq := (hD3.spare (to := 3717) (by decide) r6).fr p1.o8 p2.om
                have hf5 : d5 253 18 = 0 := by rw [p2.om.2.2, b53]; exact hf3
                have n1 : d5 254 3716 = (i : Int) := by rw [p2.om.1 254 (by decide), cup_ne (by decide), hr3, w3]
                have n2 : d5 254 3717 = (j : Int) := by rw [p2.om.1 254 (by decide), cup_at, v3]
                obtain ⟨l1, l2⟩ := oI h2
                rw [n1, n2, show (w32 (w32 (2991 + w32 (6 * (i : Int))) + 3)).toNat = 2991 + 6 * i + 3 from n6t (by omega) (by decide) (by decide), show (w32 (w32 (2991 + w32 (6 * (j : Int))) + 3)).toNat = 2991 + 6 * j + 3 from n6t (by omega) (by decide) (by decide), cup_ne (by omega), n1] at l1
                rw [w3, v3, show (59 + 2 * (i : Int)).toNat = 59 + 2 * i by omega, show (59 + 2 * (j : Int)).toNat = 59 + 2 * j by omega] at k7
                have hD6 := (hD5.set (i := i) (f := 4) w2 (by decide) (j : Int) (by decide) (fun _ => by omega)).set (i := j) (f := 4) v2 (by decide) (i : Int) (by decide) (fun _ => by omega)
                rw [show 2991 + 6 * i + 4 - 1 = 2991 + 6 * i + 3 by omega, show 2991 + 6 * j + 4 - 1 = 2991 + 6 * j + 3 by omega, ← l1] at hD6
                have q1 : cup (cup g5 (59 + 2 * i) 4 (j : Int)) (59 + 2 * j) 4 (i : Int) 88 = g5 88 := by rw [cup_row _ _ _ (by omega), cup_row _ _ _ (by omega)]
                have q2 : cup (cup g5 (59 + 2 * i) 4 (j : Int)) (59 + 2 * j) 4 (i : Int) 2 = g5 2 := by rw [cup_row _ _ _ (by omega), cup_row _ _ _ (by omega)]
                have q3 : cup (cup g5 (59 + 2 * i) 4 (j : Int)) (59 + 2 * j) 4 (i : Int) 89 = g5 89 := by rw [cup_row _ _ _ (by omega), cup_row _ _ _ (by omega)]
                have q6 : d1 253 = d5 253 := by rw [l1, b53, b53]
                have q7 : d1 260 = d5 260 := by rw [l1, b60, b60]
                obtain ⟨l3, l4⟩ := oI h
                rcases end_pr (np := np) (nq := nq) (p3.up q1 q2 q3 q6 q7) (p4.up q1 q6 q7) (by rw [q6]; exact hf5) k7 rfl h' h0' h1' (by omega) with ⟨t1, t2, t3, t4, t5, t6⟩ | ⟨t1, t2, t3⟩
                · refine Or.inl ⟨by omega, t2, ⟨np, nq, ?_⟩, ?_⟩
                  · rw [l3]
                    exact ⟨t5, t6, hD6.fr t3.o8 t4.om, by rw [t4.om.2.2, q6]; exact hf5⟩
                  · rw [l3]
                    have j1 := (adv_lt hE hT (Or.inl (tq_kk hT hk)) k1 rfl).2
                    have j2 := u1.2
                    have j3 := p1.2
                    have j4 := t3.2
                    rw [q1] at j4
                    omega
                · exact Or.inr ⟨by omega, t2, by rw [l3]; exact t3⟩
              · omega
            · omega
          · omega
        · rcases h with ⟨z1, h⟩ | ⟨z1, h⟩
          · omega
          · rcases h2 with ⟨z2, h2⟩ | ⟨z2, h2⟩
            · omega
            · obtain ⟨l1, l2⟩ := oI h
              obtain ⟨l3, l4⟩ := oI h2
              exact bad l4 l2 (by rw [l1, l3]; exact v3)
        · rcases h with ⟨z1, h⟩ | ⟨z1, h⟩
          · rcases h2 with ⟨z2, h2⟩ | ⟨z2, h2⟩
            · omega
            · obtain ⟨l3, l4⟩ := oI h2
              rcases h with ⟨z3, h⟩ | ⟨z3, g15, r16, k7, h⟩
              · omega
              · obtain ⟨l1, l2⟩ := oI h
                obtain ⟨m1, m2⟩ := at_pr v6 v7 k7 rfl rfl rfl
                exact bad l4 (by omega) (by rw [l1, l3]; exact m2)
          · omega
    · omega
  · rcases h with ⟨x1, h⟩ | ⟨x1, h⟩
    · omega
    · rcases h2 with ⟨y1, h2⟩ | ⟨y1, h2⟩
      · obtain ⟨l1, l2⟩ := oI h
        obtain ⟨l3, l4⟩ := oI h2
        exact bad l4 l2 (by rw [l1, l3]; exact w3)
      · omega
  · omega
/-- who knows whom -/
theorem knows_pr {np nq : Nat} {d1 : cg} {r1 : Int} (hS : SY c d m np nq) (hk : c 88 7 ≠ -1) (h : zr sv L n 49 0 lf [] c (c', some (0, r))) (h0 : lf 0 = (4, 90)) {lf2 : dlf} (h2 : zr sv L n' 185 0 lf2 [] d (d1, some (0, r1))) (h20 : lf2 0 = (4, 253)) (h21 : lf2 1 = (0, 0)) (h' : zr sv L n' 171 129 lf' [] d1 (d', some (0, r'))) (h0' : lf' 0 = (4, 253)) (h1' : lf' 1 = (0, r1)) : ST c c' d' r r' m := by
  obtain ⟨hE, hT, hD, hf⟩ := hS
  have bad : r1 = 0 → r = 0 → FLT c' d1 → ST c c' d' r r' m := by
    intro z1 z2 z3
    obtain ⟨e1, e2⟩ := end_0 h' h0' h1' z1
    exact Or.inr ⟨z2, e2, by rw [e1]; exact z3⟩
  obtain ⟨g1, k1, g2, r3, k2, h⟩ := t_takeKn h h0
  obtain ⟨d2, k3, d3, r4, k4, h2⟩ := m_knows h2 h20 h21
  obtain ⟨s1, s2, s3, s4⟩ := adv_su (c0 := c) hE hT (Or.inl (tq_kk hT hk)) k1 rfl k3 rfl
  have hq6 := hD.1.2
  have hD2 := hD.fr s1.o8 s2.om
  have hf2 : d2 253 18 = 0 := s2.om.2.2.trans hf
  have b53 : ∀ (g : cg) (j : Nat) (v : Int), cup g 254 j v 253 = g 253 := fun g j v => cup_row g _ _ (by decide)
  have b60 : ∀ (g : cg) (j : Nat) (v : Int), cup g 254 j v 260 = g 260 := fun g j v => cup_row g _ _ (by decide)
  rcases one_pr (to := 3716) (Or.inl rfl) s3 s4 hD2 hf2 k2 rfl rfl k4 rfl rfl rfl rfl with ⟨w1, ⟨i, w2, w3, w4, -⟩, u1, u2, u3, u4⟩ | ⟨w1, w2, w3⟩ | ⟨w1, ⟨i, w2, w3, w4⟩, w5⟩
  · rcases h with ⟨x1, g5, r6, k5, h⟩ | ⟨x1, h⟩
    · rcases h2 with ⟨y1, h2⟩ | ⟨y1, d5, r7, k6, h2⟩
      · omega
      · have hr3 : d3 254 3716 = r3 := by rw [u2.om.1 254 (by decide), cup_at]
        rw [hr3] at k6
        have hD3 : DR g2 d3 np nq := (hD2.spare (to := 3716) (by decide) r3).fr u1.o8 u2.om
        have hf3 : d3 253 18 = 0 := by rw [u2.om.2.2, b53]; exact hf2
        rcases one_pr (to := 3717) (Or.inr rfl) u3 u4 hD3 hf3 k5 rfl rfl k6 rfl rfl rfl rfl with ⟨v1, ⟨j, v2, v3, v4, -⟩, p1, p2, p3, p4⟩ | ⟨v1, v2, v3⟩ | ⟨v1, ⟨j, v2, v3, v4⟩, v5, v6, v7⟩
        · rcases h with ⟨z1, h⟩ | ⟨z1, h⟩
          · rcases h2 with ⟨z2, h2⟩ | ⟨z2, h2⟩
            · rcases h with ⟨z3, g9, k7, g10, r11, k8, h⟩ | ⟨z3, h⟩
              · have hD5 : DR g5 d5 np nq := (hD3.spare (to := 3717) (by decide) r6).fr p1.o8 p2.om
                have hf5 : d5 253 18 = 0 := by rw [p2.om.2.2, b53]; exact hf3
                have n1 : d5 254 3716 = (i : Int) := by rw [p2.om.1 254 (by decide), cup_ne (by decide), hr3, w3]
                have n2 : d5 254 3717 = (j : Int) := by rw [p2.om.1 254 (by decide), cup_at, v3]
                rw [n1, n2, show w32 (w32 (2991 + w32 (6 * (i : Int))) + 4) = ((2991 + 6 * i + 4 : Nat) : Int) by rw [n6 (by omega), n6e (by omega) (by decide) (by decide)]; rfl, show w32 (w32 (2991 + w32 (6 * (j : Int))) + 4) = ((2991 + 6 * j + 4 : Nat) : Int) by rw [n6 (by omega), n6e (by omega) (by decide) (by decide)]; rfl] at h2
                have h2 := h2 (by omega) (by omega) (by omega) (by omega)
                rw [show (((2991 + 6 * i + 4 : Nat) : Int)).toNat = 2991 + 6 * i + 4 from rfl, show (((2991 + 6 * j + 4 : Nat) : Int)).toNat = 2991 + 6 * j + 4 from rfl] at h2
                obtain ⟨l1, l2⟩ := oI h2
                rw [w3, v3] at k7
                have hb := oV (t_befr k7 rfl rfl rfl (by omega) (by omega) (by omega) (by omega))
                rw [show (59 + 2 * (i : Int)).toNat = 59 + 2 * i by omega, show (59 + 2 * (j : Int)).toNat = 59 + 2 * j by omega] at hb
                have hD6 := hD5.set (i := i) (f := 5) w2 (by decide) ((i32 (g5 (59 + 2 * i) 5) ||| i32 ((i32 1 <<< (i32 (j : Int) &&& 31)).toInt)).toInt) (by decide) (fun e => absurd e (by decide))
                rw [show 2991 + 6 * i + 5 - 1 = 2991 + 6 * i + 4 by omega] at hD6
                have hD7 := hD6.set (i := j) (f := 5) v2 (by decide) ((i32 (cup g5 (59 + 2 * i) 5 ((i32 (g5 (59 + 2 * i) 5) ||| i32 ((i32 1 <<< (i32 (j : Int) &&& 31)).toInt)).toInt) (59 + 2 * j) 5) ||| i32 ((i32 1 <<< (i32 (i : Int) &&& 31)).toInt)).toInt) (by decide) (fun e => absurd e (by decide))
                rw [show 2991 + 6 * j + 5 - 1 = 2991 + 6 * j + 4 by omega] at hD7
                have o1 : g5 (59 + 2 * i) 5 = d5 254 (2991 + 6 * i + 4) := (hD5.2.2.2.2.2.1 i w2).2.2.2.2.1
                have o2 := (hD6.2.2.2.2.2.1 j v2).2.2.2.2.1
                rw [← hb, o2, o1] at hD7
                rw [cup_ne (k' := 254) (j' := 3716) (by omega), n1] at l1
                rw [← l1] at hD7
                have q1 : g9 88 = g5 88 := by rw [hb, cup_row _ _ _ (by omega), cup_row _ _ _ (by omega)]
                have q2 : g9 2 = g5 2 := by rw [hb, cup_row _ _ _ (by omega), cup_row _ _ _ (by omega)]
                have q3 : g9 89 = g5 89 := by rw [hb, cup_row _ _ _ (by omega), cup_row _ _ _ (by omega)]
                have q6 : d1 253 = d5 253 := by rw [l1, b53, b53]
                have q7 : d1 260 = d5 260 := by rw [l1, b60, b60]
                obtain ⟨l3, l4⟩ := oI h
                rcases end_pr (np := np) (nq := nq) (p3.up q1 q2 q3 q6 q7) (p4.up q1 q6 q7) (by rw [q6]; exact hf5) k8 rfl h' h0' h1' (by omega) with ⟨t1, t2, t3, t4, t5, t6⟩ | ⟨t1, t2, t3⟩
                · refine Or.inl ⟨by omega, t2, ⟨np, nq, ?_⟩, ?_⟩
                  · rw [l3]
                    exact ⟨t5, t6, hD7.fr t3.o8 t4.om, by rw [t4.om.2.2, q6]; exact hf5⟩
                  · rw [l3]
                    have j1 := (adv_lt hE hT (Or.inl (tq_kk hT hk)) k1 rfl).2
                    have j2 := u1.2
                    have j3 := p1.2
                    have j4 := t3.2
                    rw [q1] at j4
                    omega
                · exact Or.inr ⟨by omega, t2, by rw [l3]; exact t3⟩
              · omega
            · omega
          · omega
        · rcases h with ⟨z1, h⟩ | ⟨z1, h⟩
          · omega
          · rcases h2 with ⟨z2, h2⟩ | ⟨z2, h2⟩
            · omega
            · obtain ⟨l1, l2⟩ := oI h
              obtain ⟨l3, l4⟩ := oI h2
              exact bad l4 l2 (by rw [l1, l3]; exact v3)
        · rcases v4 with v4 | ⟨v4, -⟩
          · rcases h with ⟨z1, h⟩ | ⟨z1, h⟩
            · rcases h2 with ⟨z2, h2⟩ | ⟨z2, h2⟩
              · omega
              · obtain ⟨l3, l4⟩ := oI h2
                rcases h with ⟨z3, h⟩ | ⟨z3, g15, r16, k7, h⟩
                · omega
                · obtain ⟨l1, l2⟩ := oI h
                  obtain ⟨m1, m2⟩ := at_pr v6 v7 k7 rfl rfl rfl
                  exact bad l4 (by omega) (by rw [l1, l3]; exact m2)
            · omega
          · exact absurd rfl v4
    · omega
  · rcases h with ⟨x1, h⟩ | ⟨x1, h⟩
    · omega
    · rcases h2 with ⟨y1, h2⟩ | ⟨y1, h2⟩
      · obtain ⟨l1, l2⟩ := oI h
        obtain ⟨l3, l4⟩ := oI h2
        exact bad l4 l2 (by rw [l1, l3]; exact w3)
      · omega
  · rcases w4 with w4 | ⟨w4, -⟩
    · omega
    · exact absurd rfl w4
end Stm2
end
section
/-! where a person was; the rates; any part -/
section Stm3
variable {sv : Nat → Int32} {L : Nat} {n n' : Nat} {lf lf' : dlf} {c d c' d' : cg} {m : Nat} {r r' : Int}
theorem was_pr {np nq : Nat} {d1 : cg} {r1 : Int} (hS : SY c d m np nq) (hk : c 88 7 ≠ -1) (h : zr sv L n 43 0 lf [] c (c', some (0, r))) (h0 : lf 0 = (4, 90)) {lf2 : dlf} (h2 : zr sv L n' 178 0 lf2 [] d (d1, some (0, r1))) (h20 : lf2 0 = (4, 253)) (h' : zr sv L n' 171 129 lf' [] d1 (d', some (0, r'))) (h0' : lf' 0 = (4, 253)) (h1' : lf' 1 = (0, r1)) : ST c c' d' r r' m := by
  obtain ⟨hE, hT, hD, hf⟩ := hS
  have bad : r1 = 0 → r = 0 → FLT c' d1 → ST c c' d' r r' m := by
    intro z1 z2 z3
    obtain ⟨e1, e2⟩ := end_0 h' h0' h1' z1
    exact Or.inr ⟨z2, e2, by rw [e1]; exact z3⟩
  obtain ⟨g1, k1, g2, r3, k2, h⟩ := t_takeWas h h0
  obtain ⟨d2, k3, d3, r4, k4, h2⟩ := m_aTruth h2 h20
  obtain ⟨s1, s2, s3, s4⟩ := adv_su (c0 := c) hE hT (Or.inl (tq_kk hT hk)) k1 rfl k3 rfl
  have hq6 := hD.1.2
  have hp5 := hD.1.1
  have hD2 := hD.fr s1.o8 s2.om
  have hf2 : d2 253 18 = 0 := s2.om.2.2.trans hf
  have b53 : ∀ (g : cg) (j : Nat) (v : Int), cup g 254 j v 253 = g 253 := fun g j v => cup_row g _ _ (by decide)
  have b60 : ∀ (g : cg) (j : Nat) (v : Int), cup g 254 j v 260 = g 260 := fun g j v => cup_row g _ _ (by decide)
  obtain ⟨d3', r4', k5, e⟩ := m_newPer k4 rfl rfl
  obtain ⟨e1, e2⟩ := oI e
  rw [hD2.2.1.2.2.2] at k5
  rw [e1] at h2
  rcases oper_pr (k := nq) (to := 3716) hq6 hD2.2.1.2.2.1 hD2.2.2.2.1 (by decide) s3 s4 hf2 k2 rfl rfl k5 rfl rfl rfl rfl with ⟨w1, ⟨i, w2, w3⟩, u1, u2, u3, u4⟩ | ⟨w1, w2, w3⟩
  · rcases h2 with ⟨y1, h2⟩ | ⟨y1, d5, r5, k6, h2⟩
    · omega
    · rcases h with ⟨x1, h⟩ | ⟨x1, g5, r6, k7, h⟩
      · omega
      · have hD3 : DR g2 d3' np nq := (hD2.spare (to := 3716) (by decide) r3).fr u1.o8 u2.om
        have hf3 : d3' 253 18 = 0 := by rw [u2.om.2.2, b53]; exact hf2
        have hr3 : d3' 254 3716 = r3 := by rw [u2.om.1 254 (by decide), cup_at]
        rcases pass_pr (i := 9) (by decide) u3 u4 hf3 k7 rfl rfl k6 rfl rfl rfl with ⟨f1, f2, f3, f4, f5, f6⟩ | ⟨f1, f2, f3⟩
        · rcases h2 with ⟨y2, h2⟩ | ⟨y2, d8, r9', k8, h2⟩
          · omega
          · rcases h with ⟨x2, g8, r9, k9, h⟩ | ⟨x2, h⟩
            · have hD5 : DR g5 d5 np nq := hD3.fr f3.o8 f4.om
              have hf5 : d5 253 18 = 0 := f4.om.2.2.trans hf3
              rw [hD5.2.1.2.1] at k8
              rcases oplc_pr (k := np) (to := 3717) hp5 hD5.2.1.1 hD5.2.2.1 (by decide) f5 f6 hf5 k9 rfl rfl k8 rfl rfl rfl rfl with ⟨v1, ⟨j, v2, v3⟩, p1, p2, p3, p4⟩ | ⟨v1, v2, v3⟩
              · rcases h2 with ⟨y3, h2⟩ | ⟨y3, d11, r12', k10, h2⟩
                · omega
                · rcases h with ⟨x3, h⟩ | ⟨x3, g11, r12, k11, h⟩
                  · omega
                  · have hD8 : DR g8 d8 np nq := (hD5.spare (to := 3717) (by decide) r9).fr p1.o8 p2.om
                    have hf8 : d8 253 18 = 0 := by rw [p2.om.2.2, b53]; exact hf5
                    have hr9 : d8 254 3717 = r9 := by rw [p2.om.1 254 (by decide), cup_at]
                    have hr3' : d8 254 3716 = r3 := by rw [p2.om.1 254 (by decide), cup_ne (by decide), f4.om.1 254 (by decide)]; exact hr3
                    rcases pass_pr (i := 10) (by decide) p3 p4 hf8 k11 rfl rfl k10 rfl rfl rfl with ⟨q1, q2, q3, q4, q5, q6⟩ | ⟨q1, q2, q3⟩
                    · rcases h2 with ⟨y4, h2⟩ | ⟨y4, d14, r15', k12, h2⟩
                      · omega
                      · rcases h with ⟨x4, g14, r15, k13, h⟩ | ⟨x4, h⟩
                        · have hD11 : DR g11 d11 np nq := hD8.fr q3.o8 q4.om
                          have hf11 : d11 253 18 = 0 := q4.om.2.2.trans hf8
                          rcases num_pr (lo := 0) (hi := 7) (to := 3718) (by decide) q5 q6 hf11 k13 rfl rfl rfl k12 rfl rfl rfl rfl with ⟨i1, i2, i3, i4, i5, i6, i7⟩ | ⟨i1, i2, i3⟩
                          · rw [show ((3718 : Int)).toNat = 3718 from rfl] at i5
                            rcases h2 with ⟨y5, h2⟩ | ⟨y5, h2⟩
                            · rcases h with ⟨x5, h⟩ | ⟨x5, h⟩
                              · obtain ⟨g19, r20, k14, h⟩ := h (by omega) (by omega)
                                have hD14 : DR g14 d14 np nq := (hD11.spare (to := 3718) (by decide) r15).fr i4.o8 i5.om
                                have hf14 : d14 253 18 = 0 := by rw [i5.om.2.2, b53]; exact hf11
                                obtain ⟨l1, l2⟩ := oI h2
                                obtain ⟨t, ht⟩ : ∃ t : Nat, r15 = (t : Int) := ⟨r15.toNat, by omega⟩
                                have n1 : d14 254 3716 = (i : Int) := by rw [i5.om.1 254 (by decide), cup_ne (by decide), q4.om.1 254 (by decide), hr3', w3]
                                have n2 : d14 254 3717 = (j : Int) := by rw [i5.om.1 254 (by decide), cup_ne (by decide), q4.om.1 254 (by decide), hr9, v3]
                                have n3 : d14 254 3718 = (t : Int) := by rw [i5.om.1 254 (by decide), cup_at, ht]
                                rw [n1, n2, n3, show (w32 (w32 (3027 + w32 (8 * (i : Int))) + (t : Int))).toNat = 3027 + 8 * i + t from n8t (by omega) (by omega)] at l1
                                rw [w3, v3, ht, show (60 + 2 * (i : Int)).toNat = 60 + 2 * i by omega, show ((t : Int)).toNat = t from rfl] at k14
                                have hDn := hD14.was (i := i) (h := t) w2 (by omega) (j : Int) (by omega)
                                rw [← l1] at hDn
                                have z1 : cup g14 (60 + 2 * i) t (j : Int) 88 = g14 88 := cup_row _ _ _ (by omega)
                                have z2 : cup g14 (60 + 2 * i) t (j : Int) 2 = g14 2 := cup_row _ _ _ (by omega)
                                have z3 : cup g14 (60 + 2 * i) t (j : Int) 89 = g14 89 := cup_row _ _ _ (by omega)
                                have z6 : d1 253 = d14 253 := by rw [l1, b53]
                                have z7 : d1 260 = d14 260 := by rw [l1, b60]
                                obtain ⟨l3, l4⟩ := oI h
                                rcases end_pr (np := np) (nq := nq) (i6.up z1 z2 z3 z6 z7) (i7.up z1 z6 z7) (by rw [z6]; exact hf14) k14 rfl h' h0' h1' (by omega) with ⟨t1, t2, t3, t4, t5, t6⟩ | ⟨t1, t2, t3⟩
                                · refine Or.inl ⟨by omega, t2, ⟨np, nq, ?_⟩, ?_⟩
                                  · rw [l3]
                                    exact ⟨t5, t6, hDn.fr t3.o8 t4.om, by rw [t4.om.2.2, z6]; exact hf14⟩
                                  · rw [l3]
                                    have j1 := (adv_lt hE hT (Or.inl (tq_kk hT hk)) k1 rfl).2
                                    have j2 := u1.2
                                    have j3 := f3.2
                                    have j4 := p1.2
                                    have j5 := q3.2
                                    have j6 := i4.2
                                    have j7 := t3.2
                                    rw [z1] at j7
                                    omega
                                · exact Or.inr ⟨by omega, t2, by rw [l3]; exact t3⟩
                              · omega
                            · omega
                          · rcases h2 with ⟨y5, h2⟩ | ⟨y5, h2⟩
                            · omega
                            · rcases h with ⟨x5, h⟩ | ⟨x5, h⟩
                              · omega
                              · obtain ⟨l1, l2⟩ := oI h
                                obtain ⟨l3, l4⟩ := oI h2
                                exact bad l4 l2 (by rw [l1, l3]; exact i3)
                        · omega
                    · rcases h2 with ⟨y4, h2⟩ | ⟨y4, h2⟩
                      · rcases h with ⟨x4, h⟩ | ⟨x4, h⟩
                        · omega
                        · obtain ⟨l1, l2⟩ := oI h
                          obtain ⟨l3, l4⟩ := oI h2
                          exact bad l4 l2 (by rw [l1, l3]; exact q3)
                      · omega
              · rcases h2 with ⟨y3, h2⟩ | ⟨y3, h2⟩
                · rcases h with ⟨x3, h⟩ | ⟨x3, h⟩
                  · obtain ⟨l1, l2⟩ := oI h
                    obtain ⟨l3, l4⟩ := oI h2
                    exact bad l4 l2 (by rw [l1, l3]; exact v3)
                  · omega
                · omega
            · omega
        · rcases h2 with ⟨y2, h2⟩ | ⟨y2, h2⟩
          · rcases h with ⟨x2, h⟩ | ⟨x2, h⟩
            · omega
            · obtain ⟨l1, l2⟩ := oI h
              obtain ⟨l3, l4⟩ := oI h2
              exact bad l4 l2 (by rw [l1, l3]; exact f3)
          · omega
  · rcases h2 with ⟨y1, h2⟩ | ⟨y1, h2⟩
    · rcases h with ⟨x1, h⟩ | ⟨x1, h⟩
      · obtain ⟨l1, l2⟩ := oI h
        obtain ⟨l3, l4⟩ := oI h2
        exact bad l4 l2 (by rw [l1, l3]; exact w3)
      · omega
    · omega
theorem rate_pr {np nq k : Nat} {d1 : cg} {r1 B : Int} (hk3 : k < 3) (hB : (k = 2 ∧ B = 60) ∨ (k ≠ 2 ∧ B = 99)) (hS : SY c d m np nq) (hk : c 88 7 ≠ -1) (h : zr sv L n 40 0 lf [] c (c', some (0, r))) (h0 : lf 0 = (4, 90)) (h1 : lf 1 = (0, ((11 + k : Nat) : Int))) (hb : lf 2 = (0, B)) {lf2 : dlf} (h2 : zr sv L n' 174 0 lf2 [] d (d1, some (0, r1))) (h20 : lf2 0 = (4, 253)) (h21 : lf2 1 = (0, ((5 + k : Nat) : Int))) (h' : zr sv L n' 171 129 lf' [] d1 (d', some (0, r'))) (h0' : lf' 0 = (4, 253)) (h1' : lf' 1 = (0, r1)) : ST c c' d' r r' m := by
  obtain ⟨hE, hT, hD, hf⟩ := hS
  have bad : r1 = 0 → r = 0 → FLT c' d1 → ST c c' d' r r' m := by
    intro z1 z2 z3
    obtain ⟨e1, e2⟩ := end_0 h' h0' h1' z1
    exact Or.inr ⟨z2, e2, by rw [e1]; exact z3⟩
  obtain ⟨hq, hTR⟩ := hD.2.2.2.2.2.2.2.2.1.st hk3
  have b53 : ∀ (g : cg) (j : Nat) (v : Int), cup g 254 j v 253 = g 253 := fun g j v => cup_row g _ _ (by decide)
  rcases t_takeRate h h0 h1 hb with ⟨x1, g2, k1, g3, r4, k2, h⟩ | ⟨x1, g14, r15, k1, h⟩
  · rcases m_once h2 h20 h21 with ⟨y1, d2, k3, h2⟩ | ⟨y1, y2⟩
    · have q88 : ∀ v, cup c 90 4 v 88 = c 88 := fun v => cup_row c _ _ (by decide)
      have hE0 := hE.told ((i32 (c 90 4) ||| i32 ((i32 1 <<< (i32 ((11 + k : Nat) : Int) &&& 31)).toInt)).toInt) ((i32 (d 253 20) ||| i32 ((i32 1 <<< (i32 ((5 + k : Nat) : Int) &&& 31)).toInt)).toInt)
      have hT0 := hT.told ((i32 (c 90 4) ||| i32 ((i32 1 <<< (i32 ((11 + k : Nat) : Int) &&& 31)).toInt)).toInt) ((i32 (d 253 20) ||| i32 ((i32 1 <<< (i32 ((5 + k : Nat) : Int) &&& 31)).toInt)).toInt)
      have hD0 := hD.told hTR
      have hk0 : cup c 90 4 ((i32 (c 90 4) ||| i32 ((i32 1 <<< (i32 ((11 + k : Nat) : Int) &&& 31)).toInt)).toInt) 88 4 = 1 := by rw [q88]; exact tq_kk hT hk
      obtain ⟨s1, s2, s3, s4⟩ := adv_su (c0 := c) hE0 hT0 (Or.inl hk0) k1 rfl k3 rfl
      have j1 := (adv_lt hE0 hT0 (Or.inl hk0) k1 rfl).2
      rw [q88] at j1
      have hD2 := hD0.fr s1.o8 s2.om
      have hf2 : d2 253 18 = 0 := by rw [s2.om.2.2, cup_ne (by decide)]; exact hf
      have hto : w32 (w32 (2979 + ((5 + k : Nat) : Int)) - 5) = ((2979 + k : Nat) : Int) := by
        rw [w32_id (z := 2979 + ((5 + k : Nat) : Int)) (by omega) (by omega), w32_id (by omega) (by omega)]
        omega
      rw [hto] at h2
      have hn : ∃ (d4 : cg) (r5 : Int), zr sv L n' 175 0 (darg 0 [(4, 253), (0, ((2979 + k : Nat) : Int)), (0, 0), (0, B)]) [] d2 (d4, some (0, r5)) ∧ d1 = d4 ∧ r1 = r5 := by
        rcases h2 with ⟨z1, d4, r5, k4, h2⟩ | ⟨z1, d4, r5, k4, h2⟩
        · have hB' : B = 99 := by omega
          rw [hB']
          exact ⟨d4, r5, k4, oI h2⟩
        · have hB' : B = 60 := by omega
          rw [hB']
          exact ⟨d4, r5, k4, oI h2⟩
      obtain ⟨d4, r5, k4, e1, e2⟩ := hn
      rcases num_pr (lo := 0) (hi := B) (to := ((2979 + k : Nat) : Int)) (by decide) s3 s4 hf2 k2 rfl rfl rfl k4 rfl rfl rfl rfl with ⟨i1, i2, i3, i4, i5, i6, i7⟩ | ⟨i1, i2, i3⟩
      · rw [show (((2979 + k : Nat) : Int)).toNat = 2979 + k from rfl] at i5
        have hf4 : d4 253 18 = 0 := by rw [i5.om.2.2, b53]; exact hf2
        have hs : ∃ (g8 : cg) (r9 : Int), zr sv L n 42 0 (darg 0 [(4, 88)]) [] (cup g3 45 (5 + k) r4) (g8, some (0, r9)) ∧ c' = g8 ∧ r = r9 := by
          rcases h with ⟨z1, ⟨z2, ⟨z3, g8, r9, k5, h⟩ | ⟨z3, g8, r9, k5, h⟩⟩ | ⟨z2, g8, r9, k5, h⟩⟩ | ⟨z1, h⟩
          · have hk2 : k = 2 := by omega
            rw [hk2]
            exact ⟨g8, r9, k5, oI h⟩
          · have hk2 : k = 1 := by omega
            rw [hk2]
            exact ⟨g8, r9, k5, oI h⟩
          · have hk2 : k = 0 := by omega
            rw [hk2]
            exact ⟨g8, r9, k5, oI h⟩
          · omega
        obtain ⟨g8, r9, k5, e3, e4⟩ := hs
        have q1 : cup g3 45 (5 + k) r4 88 = g3 88 := cup_row _ _ _ (by decide)
        have q2 : cup g3 45 (5 + k) r4 2 = g3 2 := cup_row _ _ _ (by decide)
        have q3 : cup g3 45 (5 + k) r4 89 = g3 89 := cup_row _ _ _ (by decide)
        have hDn := hD2.rate (f := 5 + k) ⟨by omega, by omega⟩ r4
        rw [show 2974 + (5 + k) = 2979 + k by omega] at hDn
        have hDm := hDn.fr (i4.o8.cup 45 (5 + k) r4) i5.om
        rw [e1] at h'
        rcases end_pr (np := np) (nq := nq) (i6.up q1 q2 q3 rfl rfl) (i7.up q1 rfl rfl) hf4 k5 rfl h' h0' h1' (by omega) with ⟨t1, t2, t3, t4, t5, t6⟩ | ⟨t1, t2, t3⟩
        · refine Or.inl ⟨by omega, t2, ⟨np, nq, ?_⟩, ?_⟩
          · rw [e3]
            exact ⟨t5, t6, hDm.fr t3.o8 t4.om, t4.om.2.2.trans hf4⟩
          · rw [e3]
            have j2 := i4.2
            have j3 := t3.2
            rw [q1] at j3
            omega
        · exact Or.inr ⟨by omega, t2, by rw [e3]; exact t3⟩
      · rcases h with ⟨z1, h⟩ | ⟨z1, h⟩
        · exact absurd i1 z1
        · obtain ⟨l1, l2⟩ := oI h
          exact bad (by omega) l2 (by rw [l1, e1]; exact i3)
    · rcases hq with ⟨z1, z2⟩ | ⟨z1, z2⟩
      · exact absurd y1 z2
      · exact absurd x1 z1
  · rcases m_once h2 h20 h21 with ⟨y1, y2⟩ | ⟨y1, d8, r9, k3, h2⟩
    · rcases hq with ⟨z1, z2⟩ | ⟨z1, z2⟩
      · exact absurd z1 x1
      · exact absurd z2 y1
    · obtain ⟨e1, e2⟩ := oI h2
      obtain ⟨e3, e4⟩ := oI h
      obtain ⟨z1, z2, z3⟩ := fail_pr hT hf (by decide) k1 rfl rfl k3 rfl rfl
      exact bad (by omega) (by omega) (by rw [e1, e3]; exact z3)
/-- any part -/
theorem kp : km 0 = 0 ∧ km 1 = 8 ∧ km 2 = 1 ∧ km 3 = 9 ∧ km 4 = 10 ∧ km 5 = 11 ∧ km 6 = 2 ∧ km 7 = 3 ∧ km 8 = 4 ∧ km 9 = 12 ∧ km 10 = 13 ∧ km 11 = 5 ∧ km 12 = 6 ∧ km 13 = 7 ∧ ∀ i, i < 25 → 13 < i → 7 < km i := by decide +kernel
theorem part_pr {np nq : Nat} (hS : SY c d m np nq) (h : zr sv L n 38 0 lf [] c (c', some (0, r))) (h0 : lf 0 = (4, 90)) (h' : zr sv L n' 171 0 lf' [] d (d', some (0, r'))) (h0' : lf' 0 = (4, 253)) : ST c c' d' r r' m := by
  have hS0 := hS
  obtain ⟨hE, hT, hD, hf⟩ := hS
  obtain ⟨d1, r2, k1, h'⟩ := m_part h' h0'
  obtain ⟨e1, e2⟩ := tq_key hE hT k1 rfl rfl
  rw [e1] at h'
  obtain ⟨p0, p1, p2, p3, p4, p5, p6, p7, p8, p9, p10, p11, p12, p13, p14⟩ := kp
  have no : (r2 < 0 ∨ 7 < r2) → ∀ {g : cg} {r4 : Int}, zr sv L n 39 0 (darg 0 [(4, 88), (0, 2)]) [] c (g, some (0, r4)) → (c', (some (0, r) : Option cv)) = (g, some (0, r4)) → ST c c' d' r r' m := by
    intro hr g r4 k2 h
    rcases h' with ⟨y, -⟩ | ⟨y, -⟩ | ⟨y, -⟩ | ⟨y, -⟩ | ⟨y, -⟩ | ⟨y, -⟩ | ⟨y, -⟩ | ⟨y, -⟩ | ⟨y, d2, r3, k3, h'⟩
    · omega
    · omega
    · omega
    · omega
    · omega
    · omega
    · omega
    · omega
    · obtain ⟨l1, l2⟩ := oI h
      obtain ⟨l3, l4⟩ := oI h'
      obtain ⟨z1, z2, z3⟩ := fail_pr hT hf (by decide) k2 rfl rfl k3 rfl rfl
      exact Or.inr ⟨by omega, by omega, by rw [l1, l3]; exact z3⟩
  have key : ∀ i : Nat, i ≤ 13 → c 88 7 = (i : Int) → r2 = (km i : Int) := by
    intro i hi hc
    rcases e2 with ⟨z1, z2⟩ | ⟨j, z1, z2, z3⟩
    · omega
    · have : j = i := by omega
      rw [z3, this]
  rcases t_takePart h h0 with ⟨x, g1, r3, k2, h⟩ | ⟨x, g1, r3, k2, h⟩ | ⟨x, g1, r3, k2, h⟩ | ⟨x, g1, r3, k2, h⟩ | ⟨x, g1, r3, k2, h⟩ | ⟨x, g1, r3, k2, h⟩ | ⟨x, g1, r3, k2, h⟩ | ⟨x, g1, r3, k2, h⟩ | ⟨x, g1, r3, k2, h⟩ | ⟨x, g1, r3, k2, h⟩ | ⟨x, g1, r3, k2, h⟩ | ⟨x, g1, r3, k2, h⟩ | ⟨x, g1, r3, k2, h⟩ | ⟨x, g1, r3, k2, h⟩ | ⟨x, g1, r3, k2, h⟩
  · have hr := key 0 (by decide) x
    rw [p0] at hr
    obtain ⟨l1, l2⟩ := oI h
    rcases h' with ⟨y, d2, r4, k3, lx, z0, z1, h'⟩ | ⟨y, -⟩ | ⟨y, -⟩ | ⟨y, -⟩ | ⟨y, -⟩ | ⟨y, -⟩ | ⟨y, -⟩ | ⟨y, -⟩ | ⟨y, -⟩
    · rw [l1, l2]
      exact place_pr hS0 (by omega) k2 rfl k3 rfl h' z0 z1
    all_goals omega
  · have hr := key 1 (by decide) x
    rw [p1] at hr
    exact no (by omega) k2 h
  · have hr := key 2 (by decide) x
    rw [p2] at hr
    obtain ⟨l1, l2⟩ := oI h
    rcases h' with ⟨y, -⟩ | ⟨y, d2, r4, k3, lx, z0, z1, h'⟩ | ⟨y, -⟩ | ⟨y, -⟩ | ⟨y, -⟩ | ⟨y, -⟩ | ⟨y, -⟩ | ⟨y, -⟩ | ⟨y, -⟩
    · omega
    · rw [l1, l2]
      exact person_pr hS0 (by omega) k2 rfl k3 rfl h' z0 z1
    all_goals omega
  · have hr := key 3 (by decide) x
    rw [p3] at hr
    exact no (by omega) k2 h
  · have hr := key 4 (by decide) x
    rw [p4] at hr
    exact no (by omega) k2 h
  · have hr := key 5 (by decide) x
    rw [p5] at hr
    exact no (by omega) k2 h
  · have hr := key 6 (by decide) x
    rw [p6] at hr
    obtain ⟨l1, l2⟩ := oI h
    rcases h' with ⟨y, -⟩ | ⟨y, -⟩ | ⟨y, d2, r4, k3, lx, z0, z1, h'⟩ | ⟨y, -⟩ | ⟨y, -⟩ | ⟨y, -⟩ | ⟨y, -⟩ | ⟨y, -⟩ | ⟨y, -⟩
    · omega
    · omega
    · rw [l1, l2]
      exact twins_pr hS0 (by omega) k2 rfl k3 rfl rfl h' z0 z1
    all_goals omega
  · have hr := key 7 (by decide) x
    rw [p7] at hr
    obtain ⟨l1, l2⟩ := oI h
    rcases h' with ⟨y, -⟩ | ⟨y, -⟩ | ⟨y, -⟩ | ⟨y, d2, r4, k3, lx, z0, z1, h'⟩ | ⟨y, -⟩ | ⟨y, -⟩ | ⟨y, -⟩ | ⟨y, -⟩ | ⟨y, -⟩
    · omega
    · omega
    · omega
    · rw [l1, l2]
      exact knows_pr hS0 (by omega) k2 rfl k3 rfl rfl h' z0 z1
    all_goals omega
  · have hr := key 8 (by decide) x
    rw [p8] at hr
    obtain ⟨l1, l2⟩ := oI h
    rcases h' with ⟨y, -⟩ | ⟨y, -⟩ | ⟨y, -⟩ | ⟨y, -⟩ | ⟨y, d2, r4, k3, lx, z0, z1, h'⟩ | ⟨y, -⟩ | ⟨y, -⟩ | ⟨y, -⟩ | ⟨y, -⟩
    · omega
    · omega
    · omega
    · omega
    · rw [l1, l2]
      exact was_pr hS0 (by omega) k2 rfl k3 rfl h' z0 z1
    all_goals omega
  · have hr := key 9 (by decide) x
    rw [p9] at hr
    exact no (by omega) k2 h
  · have hr := key 10 (by decide) x
    rw [p10] at hr
    exact no (by omega) k2 h
  · have hr := key 11 (by decide) x
    rw [p11] at hr
    obtain ⟨l1, l2⟩ := oI h
    rcases h' with ⟨y, -⟩ | ⟨y, -⟩ | ⟨y, -⟩ | ⟨y, -⟩ | ⟨y, -⟩ | ⟨y, d2, r4, k3, lx, z0, z1, h'⟩ | ⟨y, -⟩ | ⟨y, -⟩ | ⟨y, -⟩
    · omega
    · omega
    · omega
    · omega
    · omega
    · rw [l1, l2]
      exact rate_pr (k := 0) (by decide) (Or.inr ⟨by decide, rfl⟩) hS0 (by omega) k2 rfl rfl rfl k3 rfl rfl h' z0 z1
    all_goals omega
  · have hr := key 12 (by decide) x
    rw [p12] at hr
    obtain ⟨l1, l2⟩ := oI h
    rcases h' with ⟨y, -⟩ | ⟨y, -⟩ | ⟨y, -⟩ | ⟨y, -⟩ | ⟨y, -⟩ | ⟨y, -⟩ | ⟨y, d2, r4, k3, lx, z0, z1, h'⟩ | ⟨y, -⟩ | ⟨y, -⟩
    · omega
    · omega
    · omega
    · omega
    · omega
    · omega
    · rw [l1, l2]
      exact rate_pr (k := 1) (by decide) (Or.inr ⟨by decide, rfl⟩) hS0 (by omega) k2 rfl rfl rfl k3 rfl rfl h' z0 z1
    all_goals omega
  · have hr := key 13 (by decide) x
    rw [p13] at hr
    obtain ⟨l1, l2⟩ := oI h
    rcases h' with ⟨y, -⟩ | ⟨y, -⟩ | ⟨y, -⟩ | ⟨y, -⟩ | ⟨y, -⟩ | ⟨y, -⟩ | ⟨y, -⟩ | ⟨y, d2, r4, k3, lx, z0, z1, h'⟩ | ⟨y, -⟩
    · omega
    · omega
    · omega
    · omega
    · omega
    · omega
    · omega
    · rw [l1, l2]
      exact rate_pr (k := 2) (by decide) (Or.inl ⟨rfl, rfl⟩) hS0 (by omega) k2 rfl rfl rfl k3 rfl rfl h' z0 z1
    · omega
  · refine no ?_ k2 h
    rcases e2 with ⟨z1, z2⟩ | ⟨j, z1, z2, z3⟩
    · omega
    · have := p14 j z1 (by omega)
      omega
end Stm3
end
section
/-! copies of a court: printed by program (wip/tools/zcp.py) -/
section
set_option maxRecDepth 100000
theorem zy_60 : xg xcode 60 = some xt_60 := rfl
theorem zk_60 : zkc 0 xt_60 = true := by decide +kernel
theorem zy_61 : xg xcode 61 = some xt_61 := rfl
theorem zk_61 : zkc 0 xt_61 = true := by decide +kernel
theorem zy_63 : xg xcode 63 = some xt_63 := rfl
theorem zk_63 : zkc 0 xt_63 = true := by decide +kernel
theorem dvp_6 {g : cg} {i : Int} (h0 : 0 ≤ i) (h1 : i < 6) : dval xh2 g 6 i.toNat = (4, 17 + 2 * i) := by
  rcases (show i = 0 ∨ i = 1 ∨ i = 2 ∨ i = 3 ∨ i = 4 ∨ i = 5 from by omega) with e | e | e | e | e | e <;> subst e <;> rfl
theorem dvf_17_6 {g : cg} {i : Int} (h0 : 0 ≤ i) (h1 : i < 6) : dval xh2 g (17 + 2 * i).toNat 6 = (4, 18 + 2 * i) := by
  rcases (show i = 0 ∨ i = 1 ∨ i = 2 ∨ i = 3 ∨ i = 4 ∨ i = 5 from by omega) with e | e | e | e | e | e <;> subst e <;> rfl
theorem dvf_59_2 {g : cg} {i : Int} (h0 : 0 ≤ i) (h1 : i < 6) : dval xh2 g (59 + 2 * i).toNat 2 = (0, g (59 + 2 * i).toNat 2) := by
  rcases (show i = 0 ∨ i = 1 ∨ i = 2 ∨ i = 3 ∨ i = 4 ∨ i = 5 from by omega) with e | e | e | e | e | e <;> subst e <;> rfl
theorem dvf_59_3 {g : cg} {i : Int} (h0 : 0 ≤ i) (h1 : i < 6) : dval xh2 g (59 + 2 * i).toNat 3 = (0, g (59 + 2 * i).toNat 3) := by
  rcases (show i = 0 ∨ i = 1 ∨ i = 2 ∨ i = 3 ∨ i = 4 ∨ i = 5 from by omega) with e | e | e | e | e | e <;> subst e <;> rfl
theorem t_cpAll {sv : Nat → Int32} {L n : Nat} {lf : dlf} {g : cg} {o : cg × Option cv} (h : zr sv L n 59 0 lf [] g o) (h0 : lf 0 = (4, 3)) (h1 : lf 1 = (4, 45)) : ∃ g1, zr sv L n 60 0 (darg 0 [(4, 3), (4, 45)]) [] g (g1, none) ∧ (∃ g2, zr sv L n 63 0 (darg 0 [(4, 8), (4, 50)]) [] g1 (g2, none) ∧ (o = (g2, none))) := by
  rw [zov h0, zov h1] at h
  have h := zm zy_59 h 2 (q := (2, dset (dset lf 1 (4, 45)) 0 (4, 3), [(4, 45), (4, 3)], g)) rfl
  dsimp only at h
  obtain ⟨g1, hk, h⟩ := zcallV zy_59 h rfl rfl zy_60 zk_60
  dsimp only at hk h
  refine ⟨g1, hk, ?_⟩
  have h := zm zy_59 h 4 (q := (13, dset (dset lf 1 (4, 45)) 0 (4, 3), [(4, 50), (4, 8)], g1)) rfl
  dsimp only at h
  obtain ⟨g2, hk, h⟩ := zcallV zy_59 h rfl rfl zy_63 zk_63
  dsimp only at hk h
  refine ⟨g2, hk, ?_⟩
  exact zret zy_59 h rfl rfl
theorem t_cpCase0 {sv : Nat → Int32} {L n : Nat} {lf : dlf} {g : cg} {o : cg × Option cv} (h : zr sv L n 60 0 lf [] g o) (h0 : lf 0 = (4, 3)) (h1 : lf 1 = (4, 45)) : ∃ lf'1, lf'1 0 = (4, 3) ∧ lf'1 1 = (4, 45) ∧ lf'1 2 = (0, 0) ∧ zr sv L n 60 86 lf'1 [] (ccp (ccp (cup (cup (cup (cup (cup (cup (cup g 3 0 (g 45 0)) 3 3 (g 45 3)) 3 5 (g 45 5)) 3 6 (g 45 6)) 3 7 (g 45 7)) 3 8 (g 45 8)) 3 9 (g 45 9)) 46 4 0 0 5) 47 5 0 0 5) o := by
  rw [zov h0, zov h1] at h
  have h := zm zy_60 h 46 (q := (86, dset (dset (dset lf 1 (4, 45)) 0 (4, 3)) 2 (0, 0), [], ccp (ccp (cup (cup (cup (cup (cup (cup (cup g 3 0 (g 45 0)) 3 3 (g 45 3)) 3 5 (g 45 5)) 3 6 (g 45 6)) 3 7 (g 45 7)) 3 8 (g 45 8)) 3 9 (g 45 9)) 46 4 0 0 5) 47 5 0 0 5)) rfl
  dsimp only at h
  exact ⟨_, rfl, rfl, rfl, h⟩
theorem t_cpCase86 {sv : Nat → Int32} {L n : Nat} {lf : dlf} {g : cg} {o : cg × Option cv} {b : Int} (h : zr sv L (n + 1) 60 86 lf [] g o) (h0 : lf 0 = (4, 3)) (h1 : lf 1 = (4, 45)) (h2 : lf 2 = (0, b)) : (g 3 3 ≤ b ∧ (∃ lf'2, lf'2 0 = (4, 3) ∧ lf'2 1 = (4, 45) ∧ lf'2 2 = (0, 0) ∧ zr sv L n 60 123 lf'2 [] g o)) ∨ (b < g 3 3 ∧ ((6 ≤ b ∧ (∃ lf'4, lf'4 0 = (4, 3) ∧ lf'4 1 = (4, 45) ∧ lf'4 2 = (0, 0) ∧ zr sv L n 60 123 lf'4 [] g o)) ∨ (b < 6 ∧ (0 ≤ b → b < 6 → (∃ g7, zr sv L n 61 0 (darg 0 [(4, 17 + 2 * b), (4, 59 + 2 * b)]) [] g (g7, none) ∧ (∃ lf'8, lf'8 0 = (4, 3) ∧ lf'8 1 = (4, 45) ∧ lf'8 2 = (0, w32 (b + 1)) ∧ zr sv L n 60 86 lf'8 [] g7 o)))))) := by
  rw [zov h0, zov h1, zov h2] at h
  have h := zm1 zy_60 h 3 (q := (cond (crel .ge b (g 3 3)) 121 94, dset (dset (dset lf 2 (0, b)) 1 (4, 45)) 0 (4, 3), [], g)) rfl
  dsimp only at h
  rcases zif_ge h with ⟨hc1, h⟩ | ⟨hc1, h⟩
  · refine Or.inl ⟨hc1, ?_⟩
    have h := zm zy_60 h 2 (q := (123, dset (dset (dset (dset lf 2 (0, b)) 1 (4, 45)) 0 (4, 3)) 2 (0, 0), [], g)) rfl
    dsimp only at h
    exact ⟨_, rfl, rfl, rfl, h⟩
  · refine Or.inr ⟨hc1, ?_⟩
    have h := zm zy_60 h 3 (q := (cond (crel .ge b 6) 121 100, dset (dset (dset lf 2 (0, b)) 1 (4, 45)) 0 (4, 3), [], g)) rfl
    dsimp only at h
    rcases zif_ge h with ⟨hc3, h⟩ | ⟨hc3, h⟩
    · refine Or.inl ⟨hc3, ?_⟩
      have h := zm zy_60 h 2 (q := (123, dset (dset (dset (dset lf 2 (0, b)) 1 (4, 45)) 0 (4, 3)) 2 (0, 0), [], g)) rfl
      dsimp only at h
      exact ⟨_, rfl, rfl, rfl, h⟩
    · refine Or.inr ⟨hc3, ?_⟩
      intro ha5 hb6
      have h := zm zy_60 h 3 (q := (105, dset (dset (dset lf 2 (0, b)) 1 (4, 45)) 0 (4, 3), [(0, b), (4, 6)], g)) rfl
      dsimp only at h
      have h := zald zy_60 h rfl rfl (dvp_6 ha5 hb6)
      have h := zm zy_60 h 3 (q := (111, dset (dset (dset lf 2 (0, b)) 1 (4, 45)) 0 (4, 3), [(0, b), (4, 48), (4, 17 + 2 * b)], g)) rfl
      dsimp only at h
      have h := zald zy_60 h rfl rfl (dvp_48 ha5 hb6)
      obtain ⟨g7, hk, h⟩ := zcallV zy_60 h rfl rfl zy_61 zk_61
      dsimp only at hk h
      refine ⟨g7, hk, ?_⟩
      have h := zm zy_60 h 2 (q := (86, dset (dset (dset (dset lf 2 (0, b)) 1 (4, 45)) 0 (4, 3)) 2 (0, w32 (b + 1)), [], g7)) rfl
      dsimp only at h
      exact ⟨_, rfl, rfl, rfl, h⟩
theorem t_cpCase123 {sv : Nat → Int32} {L n : Nat} {lf : dlf} {g : cg} {o : cg × Option cv} {b : Int} (h : zr sv L (n + 1) 60 123 lf [] g o) (h0 : lf 0 = (4, 3)) (h1 : lf 1 = (4, 45)) (h2 : lf 2 = (0, b)) : (g 3 9 ≤ b ∧ (o = (g, none))) ∨ (b < g 3 9 ∧ ((16 ≤ b ∧ (o = (g, none))) ∨ (b < 16 ∧ (True)))) := by
  rw [zov h0, zov h1, zov h2] at h
  have h := zm1 zy_60 h 3 (q := (cond (crel .ge b (g 3 9)) 158 131, dset (dset (dset lf 2 (0, b)) 1 (4, 45)) 0 (4, 3), [], g)) rfl
  dsimp only at h
  rcases zif_ge h with ⟨hc1, h⟩ | ⟨hc1, h⟩
  · refine Or.inl ⟨hc1, ?_⟩
    exact zret zy_60 h rfl rfl
  · refine Or.inr ⟨hc1, ?_⟩
    have h := zm zy_60 h 3 (q := (cond (crel .ge b 16) 158 137, dset (dset (dset lf 2 (0, b)) 1 (4, 45)) 0 (4, 3), [], g)) rfl
    dsimp only at h
    rcases zif_ge h with ⟨hc2, h⟩ | ⟨hc2, h⟩
    · refine Or.inl ⟨hc2, ?_⟩
      exact zret zy_60 h rfl rfl
    · refine Or.inr ⟨hc2, ?_⟩
      trivial
theorem t_cpPer {sv : Nat → Int32} {L n : Nat} {lf : dlf} {g : cg} {o : cg × Option cv} {i : Int} (hi0 : 0 ≤ i) (hi6 : i < 6) (h : zr sv L n 61 0 lf [] g o) (h0 : lf 0 = (4, 17 + 2 * i)) (h1 : lf 1 = (4, 59 + 2 * i)) : o = (ccp (cup (cup (cup (cup (cup (cup g ((17 + 2 * i).toNat) 0 (g ((59 + 2 * i).toNat) 0)) ((17 + 2 * i).toNat) 1 (g ((59 + 2 * i).toNat) 1)) ((17 + 2 * i).toNat) 2 (g ((59 + 2 * i).toNat) 2)) ((17 + 2 * i).toNat) 3 (g ((59 + 2 * i).toNat) 3)) ((17 + 2 * i).toNat) 4 (g ((59 + 2 * i).toNat) 4)) ((17 + 2 * i).toNat) 5 (g ((59 + 2 * i).toNat) 5)) ((60 + 2 * i).toNat) ((18 + 2 * i).toNat) 0 0 8, none) := by
  rw [zov h0, zov h1] at h
  have h := zm zy_61 h 2 (q := (2, dset (dset lf 1 (4, 59 + 2 * i)) 0 (4, 17 + 2 * i), [(4, 59 + 2 * i), (4, 17 + 2 * i)], g)) rfl
  dsimp only at h
  have h := zgf zy_61 h rfl rfl (dvf_59_0 hi0 hi6)
  have h : zr sv L n 61 5 (dset (dset lf 1 (4, 59 + 2 * i)) 0 (4, 17 + 2 * i)) [(2, g ((59 + 2 * i).toNat) 0), (4, 17 + 2 * i)] (g) o := by first | exact h | (rw [cup_at] at h; exact h) | ((repeat rw [cup_ne (by omega)] at h); exact h)
  have h := zm zy_61 h 3 (q := (10, dset (dset lf 1 (4, 59 + 2 * i)) 0 (4, 17 + 2 * i), [(4, 59 + 2 * i), (4, 17 + 2 * i)], cup g ((17 + 2 * i).toNat) 0 (g ((59 + 2 * i).toNat) 0))) rfl
  dsimp only at h
  have h := zgf zy_61 h rfl rfl (dvf_59_1 hi0 hi6)
  have h : zr sv L n 61 13 (dset (dset lf 1 (4, 59 + 2 * i)) 0 (4, 17 + 2 * i)) [(0, g ((59 + 2 * i).toNat) 1), (4, 17 + 2 * i)] (cup g ((17 + 2 * i).toNat) 0 (g ((59 + 2 * i).toNat) 0)) o := by first | exact h | (rw [cup_at] at h; exact h) | ((repeat rw [cup_ne (by omega)] at h); exact h)
  have h := zm zy_61 h 3 (q := (18, dset (dset lf 1 (4, 59 + 2 * i)) 0 (4, 17 + 2 * i), [(4, 59 + 2 * i), (4, 17 + 2 * i)], cup (cup g ((17 + 2 * i).toNat) 0 (g ((59 + 2 * i).toNat) 0)) ((17 + 2 * i).toNat) 1 (g ((59 + 2 * i).toNat) 1))) rfl
  dsimp only at h
  have h := zgf zy_61 h rfl rfl (dvf_59_2 hi0 hi6)
  have h : zr sv L n 61 21 (dset (dset lf 1 (4, 59 + 2 * i)) 0 (4, 17 + 2 * i)) [(0, g ((59 + 2 * i).toNat) 2), (4, 17 + 2 * i)] (cup (cup g ((17 + 2 * i).toNat) 0 (g ((59 + 2 * i).toNat) 0)) ((17 + 2 * i).toNat) 1 (g ((59 + 2 * i).toNat) 1)) o := by first | exact h | (rw [cup_at] at h; exact h) | ((repeat rw [cup_ne (by omega)] at h); exact h)
  have h := zm zy_61 h 3 (q := (26, dset (dset lf 1 (4, 59 + 2 * i)) 0 (4, 17 + 2 * i), [(4, 59 + 2 * i), (4, 17 + 2 * i)], cup (cup (cup g ((17 + 2 * i).toNat) 0 (g ((59 + 2 * i).toNat) 0)) ((17 + 2 * i).toNat) 1 (g ((59 + 2 * i).toNat) 1)) ((17 + 2 * i).toNat) 2 (g ((59 + 2 * i).toNat) 2))) rfl
  dsimp only at h
  have h := zgf zy_61 h rfl rfl (dvf_59_3 hi0 hi6)
  have h : zr sv L n 61 29 (dset (dset lf 1 (4, 59 + 2 * i)) 0 (4, 17 + 2 * i)) [(0, g ((59 + 2 * i).toNat) 3), (4, 17 + 2 * i)] (cup (cup (cup g ((17 + 2 * i).toNat) 0 (g ((59 + 2 * i).toNat) 0)) ((17 + 2 * i).toNat) 1 (g ((59 + 2 * i).toNat) 1)) ((17 + 2 * i).toNat) 2 (g ((59 + 2 * i).toNat) 2)) o := by first | exact h | (rw [cup_at] at h; exact h) | ((repeat rw [cup_ne (by omega)] at h); exact h)
  have h := zm zy_61 h 3 (q := (34, dset (dset lf 1 (4, 59 + 2 * i)) 0 (4, 17 + 2 * i), [(4, 59 + 2 * i), (4, 17 + 2 * i)], cup (cup (cup (cup g ((17 + 2 * i).toNat) 0 (g ((59 + 2 * i).toNat) 0)) ((17 + 2 * i).toNat) 1 (g ((59 + 2 * i).toNat) 1)) ((17 + 2 * i).toNat) 2 (g ((59 + 2 * i).toNat) 2)) ((17 + 2 * i).toNat) 3 (g ((59 + 2 * i).toNat) 3))) rfl
  dsimp only at h
  have h := zgf zy_61 h rfl rfl (dvf_59_4 hi0 hi6)
  have h : zr sv L n 61 37 (dset (dset lf 1 (4, 59 + 2 * i)) 0 (4, 17 + 2 * i)) [(0, g ((59 + 2 * i).toNat) 4), (4, 17 + 2 * i)] (cup (cup (cup (cup g ((17 + 2 * i).toNat) 0 (g ((59 + 2 * i).toNat) 0)) ((17 + 2 * i).toNat) 1 (g ((59 + 2 * i).toNat) 1)) ((17 + 2 * i).toNat) 2 (g ((59 + 2 * i).toNat) 2)) ((17 + 2 * i).toNat) 3 (g ((59 + 2 * i).toNat) 3)) o := by first | exact h | (rw [cup_at] at h; exact h) | ((repeat rw [cup_ne (by omega)] at h); exact h)
  have h := zm zy_61 h 3 (q := (42, dset (dset lf 1 (4, 59 + 2 * i)) 0 (4, 17 + 2 * i), [(4, 59 + 2 * i), (4, 17 + 2 * i)], cup (cup (cup (cup (cup g ((17 + 2 * i).toNat) 0 (g ((59 + 2 * i).toNat) 0)) ((17 + 2 * i).toNat) 1 (g ((59 + 2 * i).toNat) 1)) ((17 + 2 * i).toNat) 2 (g ((59 + 2 * i).toNat) 2)) ((17 + 2 * i).toNat) 3 (g ((59 + 2 * i).toNat) 3)) ((17 + 2 * i).toNat) 4 (g ((59 + 2 * i).toNat) 4))) rfl
  dsimp only at h
  have h := zgf zy_61 h rfl rfl (dvf_59_5 hi0 hi6)
  have h : zr sv L n 61 45 (dset (dset lf 1 (4, 59 + 2 * i)) 0 (4, 17 + 2 * i)) [(0, g ((59 + 2 * i).toNat) 5), (4, 17 + 2 * i)] (cup (cup (cup (cup (cup g ((17 + 2 * i).toNat) 0 (g ((59 + 2 * i).toNat) 0)) ((17 + 2 * i).toNat) 1 (g ((59 + 2 * i).toNat) 1)) ((17 + 2 * i).toNat) 2 (g ((59 + 2 * i).toNat) 2)) ((17 + 2 * i).toNat) 3 (g ((59 + 2 * i).toNat) 3)) ((17 + 2 * i).toNat) 4 (g ((59 + 2 * i).toNat) 4)) o := by first | exact h | (rw [cup_at] at h; exact h) | ((repeat rw [cup_ne (by omega)] at h); exact h)
  have h := zm zy_61 h 2 (q := (49, dset (dset lf 1 (4, 59 + 2 * i)) 0 (4, 17 + 2 * i), [(4, 59 + 2 * i)], cup (cup (cup (cup (cup (cup g ((17 + 2 * i).toNat) 0 (g ((59 + 2 * i).toNat) 0)) ((17 + 2 * i).toNat) 1 (g ((59 + 2 * i).toNat) 1)) ((17 + 2 * i).toNat) 2 (g ((59 + 2 * i).toNat) 2)) ((17 + 2 * i).toNat) 3 (g ((59 + 2 * i).toNat) 3)) ((17 + 2 * i).toNat) 4 (g ((59 + 2 * i).toNat) 4)) ((17 + 2 * i).toNat) 5 (g ((59 + 2 * i).toNat) 5))) rfl
  dsimp only at h
  have h := zgf zy_61 h rfl rfl (dvf_59_6 hi0 hi6)
  have h := zm zy_61 h 2 (q := (54, dset (dset lf 1 (4, 59 + 2 * i)) 0 (4, 17 + 2 * i), [(4, 17 + 2 * i), (0, 0), (4, 60 + 2 * i)], cup (cup (cup (cup (cup (cup g ((17 + 2 * i).toNat) 0 (g ((59 + 2 * i).toNat) 0)) ((17 + 2 * i).toNat) 1 (g ((59 + 2 * i).toNat) 1)) ((17 + 2 * i).toNat) 2 (g ((59 + 2 * i).toNat) 2)) ((17 + 2 * i).toNat) 3 (g ((59 + 2 * i).toNat) 3)) ((17 + 2 * i).toNat) 4 (g ((59 + 2 * i).toNat) 4)) ((17 + 2 * i).toNat) 5 (g ((59 + 2 * i).toNat) 5))) rfl
  dsimp only at h
  have h := zgf zy_61 h rfl rfl (dvf_17_6 hi0 hi6)
  have h := zm zy_61 h 3 (q := (63, dset (dset lf 1 (4, 59 + 2 * i)) 0 (4, 17 + 2 * i), [], ccp (cup (cup (cup (cup (cup (cup g ((17 + 2 * i).toNat) 0 (g ((59 + 2 * i).toNat) 0)) ((17 + 2 * i).toNat) 1 (g ((59 + 2 * i).toNat) 1)) ((17 + 2 * i).toNat) 2 (g ((59 + 2 * i).toNat) 2)) ((17 + 2 * i).toNat) 3 (g ((59 + 2 * i).toNat) 3)) ((17 + 2 * i).toNat) 4 (g ((59 + 2 * i).toNat) 4)) ((17 + 2 * i).toNat) 5 (g ((59 + 2 * i).toNat) 5)) ((60 + 2 * i).toNat) ((18 + 2 * i).toNat) 0 0 8)) rfl
  dsimp only at h
  exact zret zy_61 h rfl rfl
theorem t_cpTri {sv : Nat → Int32} {L n : Nat} {lf : dlf} {g : cg} {o : cg × Option cv} (h : zr sv L n 63 0 lf [] g o) (h0 : lf 0 = (4, 8)) (h1 : lf 1 = (4, 50)) : o = (ccp (ccp (ccp (ccp (ccp (ccp (ccp (ccp (cup (cup (cup g 8 0 (g 50 0)) 8 1 (g 50 1)) 8 2 (g 50 2)) 51 9 0 0 ((g 50 2).toNat)) 52 10 0 0 ((g 50 2).toNat)) 53 11 0 0 ((g 50 2).toNat)) 54 12 0 0 ((g 50 2).toNat)) 55 13 0 0 ((g 50 2).toNat)) 56 14 0 0 ((g 50 2).toNat)) 57 15 0 0 ((g 50 2).toNat)) 58 16 0 0 ((g 50 2).toNat), none) := by
  rw [zov h0, zov h1] at h
  have h := zm zy_63 h 84 (q := (160, dset (dset lf 1 (4, 50)) 0 (4, 8), [], ccp (ccp (ccp (ccp (ccp (ccp (ccp (ccp (cup (cup (cup g 8 0 (g 50 0)) 8 1 (g 50 1)) 8 2 (g 50 2)) 51 9 0 0 ((g 50 2).toNat)) 52 10 0 0 ((g 50 2).toNat)) 53 11 0 0 ((g 50 2).toNat)) 54 12 0 0 ((g 50 2).toNat)) 55 13 0 0 ((g 50 2).toNat)) 56 14 0 0 ((g 50 2).toNat)) 57 15 0 0 ((g 50 2).toNat)) 58 16 0 0 ((g 50 2).toNat))) rfl
  dsimp only at h
  exact zret zy_63 h rfl rfl
theorem m_plain2 {sv : Nat → Int32} {L n : Nat} {lf : dlf} {g : cg} {o : cg × Option cv} {a b : Int} (h : zr sv L (n + 1) 21 2 lf [] g o) (h0 : lf 0 = (4, 253)) (h1 : lf 1 = (0, a)) (h2 : lf 2 = (0, b)) : (744 ≤ b ∧ (∃ lf'2, lf'2 0 = (4, 253) ∧ lf'2 1 = (0, a) ∧ lf'2 2 = (0, 0) ∧ zr sv L n 21 26 lf'2 [] g o)) ∨ (b < 744 ∧ (∃ lf'3, lf'3 0 = (4, 253) ∧ lf'3 1 = (0, a) ∧ lf'3 2 = (0, w32 (b + 1)) ∧ zr sv L n 21 2 lf'3 [] (cup g 254 ((w32 (a + b)).toNat) 0) o)) := by
  rw [zov h0, zov h1, zov h2] at h
  have h := zm1 zy_21 h 2 (q := (cond (crel .ge b 744) 24 9, dset (dset (dset lf 2 (0, b)) 1 (0, a)) 0 (4, 253), [], g)) rfl
  dsimp only at h
  rcases zif_ge h with ⟨hc1, h⟩ | ⟨hc1, h⟩
  · refine Or.inl ⟨hc1, ?_⟩
    have h := zm zy_21 h 2 (q := (26, dset (dset (dset (dset lf 2 (0, b)) 1 (0, a)) 0 (4, 253)) 2 (0, 0), [], g)) rfl
    dsimp only at h
    exact ⟨_, rfl, rfl, rfl, h⟩
  · refine Or.inr ⟨hc1, ?_⟩
    have h := zm zy_21 h 9 (q := (2, dset (dset (dset (dset lf 2 (0, b)) 1 (0, a)) 0 (4, 253)) 2 (0, w32 (b + 1)), [], cup g 254 ((w32 (a + b)).toNat) 0)) rfl
    dsimp only at h
    exact ⟨_, rfl, rfl, rfl, h⟩
theorem m_plain26 {sv : Nat → Int32} {L n : Nat} {lf : dlf} {g : cg} {o : cg × Option cv} {a b : Int} (h : zr sv L (n + 1) 21 26 lf [] g o) (h0 : lf 0 = (4, 253)) (h1 : lf 1 = (0, a)) (h2 : lf 2 = (0, b)) : (48 ≤ b ∧ (o = (cup (cup (cup (cup g 254 ((w32 (a + 3)).toNat) 5) 254 ((w32 ((w32 (a + 3)) + 1)).toNat) 2) 254 ((w32 (a + 5)).toNat) 10) 254 ((w32 (a + 7)).toNat) ((-1)), none))) ∨ (b < 48 ∧ (∃ lf'2, lf'2 0 = (4, 253) ∧ lf'2 1 = (0, a) ∧ lf'2 2 = (0, w32 (b + 1)) ∧ zr sv L n 21 26 lf'2 [] (cup g 254 ((w32 ((w32 (a + 51)) + b)).toNat) ((-1))) o)) := by
  rw [zov h0, zov h1, zov h2] at h
  have h := zm1 zy_21 h 2 (q := (cond (crel .ge b 48) 50 32, dset (dset (dset lf 2 (0, b)) 1 (0, a)) 0 (4, 253), [], g)) rfl
  dsimp only at h
  rcases zif_ge h with ⟨hc1, h⟩ | ⟨hc1, h⟩
  · refine Or.inl ⟨hc1, ?_⟩
    have h := zm zy_21 h 30 (q := (90, dset (dset (dset lf 2 (0, b)) 1 (0, a)) 0 (4, 253), [], cup (cup (cup (cup g 254 ((w32 (a + 3)).toNat) 5) 254 ((w32 ((w32 (a + 3)) + 1)).toNat) 2) 254 ((w32 (a + 5)).toNat) 10) 254 ((w32 (a + 7)).toNat) ((-1)))) rfl
    dsimp only at h
    exact zret zy_21 h rfl rfl
  · refine Or.inr ⟨hc1, ?_⟩
    have h := zm zy_21 h 11 (q := (26, dset (dset (dset (dset lf 2 (0, b)) 1 (0, a)) 0 (4, 253)) 2 (0, w32 (b + 1)), [], cup g 254 ((w32 ((w32 (a + 51)) + b)).toNat) ((-1)))) rfl
    dsimp only at h
    exact ⟨_, rfl, rfl, rfl, h⟩
theorem m_court59 {sv : Nat → Int32} {L n : Nat} {lf : dlf} {g : cg} {o : cg × Option cv} {b : Int} (h : zr sv L (n + 1) 274 59 lf [] g o) (h0 : lf 0 = (4, 253)) (h3 : lf 3 = (0, b)) : (744 ≤ b ∧ (∃ lf'2, lf'2 0 = (4, 253) ∧ lf'2 3 = (0, 0) ∧ zr sv L n 274 90 lf'2 [] g o)) ∨ (b < 744 ∧ (0 ≤ w32 (2976 + b) → w32 (2976 + b) < 5208 → (∃ lf'5, lf'5 0 = (4, 253) ∧ lf'5 3 = (0, w32 (b + 1)) ∧ zr sv L n 274 59 lf'5 [] (cup g 254 ((b).toNat) (g 254 ((w32 (2976 + b)).toNat))) o))) := by
  rw [zov h0, zov h3] at h
  have h := zm1 zy_274 h 2 (q := (cond (crel .ge b 744) 88 66, dset (dset lf 3 (0, b)) 0 (4, 253), [], g)) rfl
  dsimp only at h
  rcases zif_ge h with ⟨hc1, h⟩ | ⟨hc1, h⟩
  · refine Or.inl ⟨hc1, ?_⟩
    have h := zm zy_274 h 2 (q := (90, dset (dset (dset lf 3 (0, b)) 0 (4, 253)) 3 (0, 0), [], g)) rfl
    dsimp only at h
    exact ⟨_, rfl, rfl, h⟩
  · refine Or.inr ⟨hc1, ?_⟩
    intro ha3 hb4
    have h := zm zy_274 h 8 (q := (80, dset (dset lf 3 (0, b)) 0 (4, 253), [(0, w32 (2976 + b)), (4, 254), (0, b), (4, 254)], g)) rfl
    dsimp only at h
    have h := zald zy_274 h rfl rfl (dvb_254 ha3 hb4)
    have h : zr sv L n 274 81 (dset (dset lf 3 (0, b)) 0 (4, 253)) [(0, g 254 ((w32 (2976 + b)).toNat)), (0, b), (4, 254)] (g) o := by first | exact h | (rw [cup_at] at h; exact h) | ((repeat rw [cup_ne (by omega)] at h); exact h)
    have h := zm zy_274 h 3 (q := (59, dset (dset (dset lf 3 (0, b)) 0 (4, 253)) 3 (0, w32 (b + 1)), [], cup g 254 ((b).toNat) (g 254 ((w32 (2976 + b)).toNat)))) rfl
    dsimp only at h
    exact ⟨_, rfl, rfl, h⟩
theorem m_court90 {sv : Nat → Int32} {L n : Nat} {lf : dlf} {g : cg} {o : cg × Option cv} {b : Int} (h : zr sv L (n + 1) 274 90 lf [] g o) (h0 : lf 0 = (4, 253)) (h3 : lf 3 = (0, b)) : (12 ≤ b ∧ (∃ lf'2, lf'2 0 = (4, 253) ∧ zr sv L n 274 117 lf'2 [] g o)) ∨ (b < 12 ∧ (0 ≤ w32 (48 + b) → w32 (48 + b) < 72 → (∃ lf'5, lf'5 0 = (4, 253) ∧ lf'5 3 = (0, w32 (b + 1)) ∧ zr sv L n 274 90 lf'5 [] (cup g 255 ((b).toNat) (g 255 ((w32 (48 + b)).toNat))) o))) := by
  rw [zov h0, zov h3] at h
  have h := zm1 zy_274 h 2 (q := (cond (crel .ge b 12) 117 96, dset (dset lf 3 (0, b)) 0 (4, 253), [], g)) rfl
  dsimp only at h
  rcases zif_ge h with ⟨hc1, h⟩ | ⟨hc1, h⟩
  · refine Or.inl ⟨hc1, ?_⟩
    exact ⟨_, rfl, h⟩
  · refine Or.inr ⟨hc1, ?_⟩
    intro ha3 hb4
    have h := zm zy_274 h 8 (q := (109, dset (dset lf 3 (0, b)) 0 (4, 253), [(0, w32 (48 + b)), (4, 255), (0, b), (4, 255)], g)) rfl
    dsimp only at h
    have h := zald zy_274 h rfl rfl (dvb_255 ha3 hb4)
    have h : zr sv L n 274 110 (dset (dset lf 3 (0, b)) 0 (4, 253)) [(2, g 255 ((w32 (48 + b)).toNat)), (0, b), (4, 255)] (g) o := by first | exact h | (rw [cup_at] at h; exact h) | ((repeat rw [cup_ne (by omega)] at h); exact h)
    have h := zm zy_274 h 3 (q := (90, dset (dset (dset lf 3 (0, b)) 0 (4, 253)) 3 (0, w32 (b + 1)), [], cup g 255 ((b).toNat) (g 255 ((w32 (48 + b)).toNat)))) rfl
    dsimp only at h
    exact ⟨_, rfl, rfl, h⟩
theorem m_court117 {sv : Nat → Int32} {L n : Nat} {lf : dlf} {g : cg} {o : cg × Option cv} (h : zr sv L n 274 117 lf [] g o) (h0 : lf 0 = (4, 253)) : ∃ g1 r2, zr sv L n 191 0 (darg 0 [(4, 253), (0, g 254 1)]) [] g (g1, some (0, r2)) ∧ (o = (g1, some (0, r2))) := by
  rw [zov h0] at h
  have h := zm zy_274 h 5 (q := (124, dset lf 0 (4, 253), [(0, g 254 1), (4, 253)], g)) rfl
  dsimp only at h
  obtain ⟨g1, r2, hk, h⟩ := zcallI zy_274 h rfl rfl zy_191 zk_191
  dsimp only at hk h
  refine ⟨g1, r2, hk, ?_⟩
  exact zret zy_274 h rfl rfl
end
end
section
/-! both readers of a court, from their beginning to their end -/
theorem ccp_ne {g : cg} {ka kb sp dp m k j : Nat} (h : k ≠ kb) : ccp g ka kb sp dp m k j = g k j := if_neg (fun e => h e.1)
theorem by8 : ∀ k : Nat, k < 256 → (i32 ((k : Int) - 128)).toInt8.toInt32.toInt = (k : Int) - 128 := by decide +kernel
theorem by8i {x : Int} (h0 : -128 ≤ x) (h1 : x ≤ 127) : (i32 x).toInt8.toInt32.toInt = x := by
  have h := by8 (x + 128).toNat (by omega)
  rw [show (((x + 128).toNat : Nat) : Int) - 128 = x by omega] at h
  exact h
theorem tq_end {c d : cg} {m : Nat} (hT : TQ c d m) (h : (m : Int) ≤ c 88 5) : c 88 4 = 0 := by
  obtain ⟨p, hp, hp', hpm, hT⟩ := hT
  rcases hT with ⟨a1, a2, a3⟩ | ⟨q, a1, a2, a3⟩ | ⟨q, a1, a2, a3⟩ | ⟨q, a1, a2, a3⟩ | ⟨a1, a2, a3⟩ <;> omega
section Ct
variable {sv : Nat → Int32} {L : Nat} {m : Nat}
theorem ct_l {c' : cg} {r : Int} {o' : cg × Option cv} : ∀ (n : Nat) {n' : Nat} {lf lf' : dlf} {c d : cg} {b np nq : Nat}, SY c d m np nq → lf 0 = (4, 90) → lf 2 = (0, (b : Int)) → (b : Int) ≤ c 88 5 → zr sv L n 32 22 lf [] c (c', some (0, r)) → lf' 0 = (4, 253) → lf' 2 = (0, 1) → zr sv L n' 274 31 lf' [] d o' → ∃ N d2 lf2, lf2 0 = (4, 253) ∧ zr sv L N 274 50 lf2 [] d2 o' ∧ ((r = 1 ∧ ∃ np nq, SY c' d2 m np nq) ∨ (r = 0 ∧ FLT c' d2))
  | 0, _, _, _, _, _, _, _, _, _, _, _, _, h, _, _, _ => (zr_0 h).elim
  | n + 1, n', lf, lf', c, d, b, np, nq, hS, h0, h2, hb, h, h0', h2', h' => by
    cases n' with
    | zero => exact (zr_0 h').elim
    | succ n' =>
      have hE := hS.1
      have hT := hS.2.1
      have hm9 := hE.1
      rcases m_court31 h' h0' h2' with ⟨y1, -⟩ | ⟨-, hm⟩
      · exact absurd y1 (by decide)
      · have stop : c 88 4 = 0 → (c', (some (0, r) : Option cv)) = (c, some (0, 1)) → ∃ N d2 lf2, lf2 0 = (4, 253) ∧ zr sv L N 274 50 lf2 [] d2 o' ∧ ((r = 1 ∧ ∃ np nq, SY c' d2 m np nq) ∨ (r = 0 ∧ FLT c' d2)) := by
          intro hz e
          obtain ⟨e1, e2⟩ := oI e
          have hz' := (tq_kinds hT).1.mp hz
          rcases hm with ⟨y2, lx, z0, hx⟩ | ⟨y2, -⟩
          · exact ⟨n', d, lx, z0, hx, Or.inl ⟨e2, np, nq, by rw [e1]; exact hS⟩⟩
          · exact absurd hz' y2
        rcases t_takeCt22 h h0 h2 with ⟨x1, h⟩ | ⟨x1, ⟨x2, h⟩ | ⟨x2, g3, r4, k1, h⟩⟩
        · exact stop (tq_end hT (by omega)) h
        · exact stop x2 h
        · have hz' : d 253 12 ≠ 0 := fun e => x2 ((tq_kinds hT).1.mpr e)
          rcases hm with ⟨y2, -⟩ | ⟨y2, d5, r6, k2, lx, z0, z2, hx⟩
          · exact absurd y2 hz'
          · rcases part_pr hS k1 rfl k2 rfl with ⟨w1, w2, ⟨np', nq', w3⟩, w4⟩ | ⟨w1, w2, w3⟩
            · rcases h with ⟨x3, ly, a0, a2, h⟩ | ⟨x3, h⟩
              · rw [w2] at z2
                exact ct_l n (b := b + 1) w3 a0 (by rw [a2, w32_id (by omega) (by omega)]; rfl) (by omega) h z0 z2 hx
              · omega
            · rcases h with ⟨x3, h⟩ | ⟨x3, h⟩
              · omega
              · obtain ⟨e1, e2⟩ := oI h
                cases n' with
                | zero => exact (zr_0 hx).elim
                | succ n' =>
                  rcases m_court31 hx z0 z2 with ⟨y3, ly, a0, hy⟩ | ⟨y3, -⟩
                  · exact ⟨n', d5, ly, a0, hy, Or.inr ⟨e2, by rw [e1]; exact w3⟩⟩
                  · exact absurd w2 y3
/-- the reference's text: its tape -/
theorem tx_l {o : cg × Option cv} (hm : m ≤ 900) : ∀ (n : Nat) {lf : dlf} {g : cg} {j : Nat}, lf 0 = (4, 253) → lf 1 = (0, (m : Int)) → lf 3 = (0, (j : Int)) → j ≤ m → (∀ i : Nat, i < m → -128 ≤ g 259 i ∧ g 259 i ≤ 127) → (∀ i : Nat, i < j → g 260 i = g 259 i) → zr sv L n 165 26 lf [] g o → ∃ N g1 lf1, lf1 0 = (4, 253) ∧ zr sv L N 165 49 lf1 [] g1 o ∧ (∀ k : Nat, k ≠ 260 → g1 k = g k) ∧ (∀ i : Nat, i < m → g1 260 i = g 259 i) ∧ ∀ i : Nat, m ≤ i → g1 260 i = g 260 i
  | 0, _, _, _, _, _, _, _, _, _, h => (zr_0 h).elim
  | n + 1, lf, g, j, h0, h1, h3, hj, hb, hc, h => by
    rcases m_begins26 h h0 h1 h3 with ⟨x1, lx, z0, h⟩ | ⟨x1, h⟩
    · exact ⟨n, g, lx, z0, h, fun _ _ => rfl, fun i hi => hc i (by omega), fun _ _ => rfl⟩
    · obtain ⟨lx, z0, z1, z3, h⟩ := h (by omega) (by omega)
      rw [show ((j : Int)).toNat = j from rfl, by8i (hb j (by omega)).1 (hb j (by omega)).2] at h
      have e9 : cup g 260 j (g 259 j) 259 = g 259 := cup_row g _ _ (by decide)
      obtain ⟨N, g1, lf1, y0, y1, y2, y3, y4⟩ := tx_l hm n (j := j + 1) z0 z1 (by rw [z3, w32_id (by omega) (by omega)]; rfl) (by omega) (by rw [e9]; exact hb) (fun i hi => by
        rw [e9]
        by_cases e : i = j
        · rw [e, cup_at]
        · rw [cup_ne (by omega)]; exact hc i (by omega)) h
      refine ⟨N, g1, lf1, y0, y1, fun k hk => (y2 k hk).trans (cup_row g _ _ hk), fun i hi => by rw [y3 i hi, e9], fun i hi => by rw [y4 i hi, cup_ne (by omega)]⟩
/-- plain(2976) -/
theorem pl_l {o : cg × Option cv} : ∀ (n : Nat) {lf : dlf} {g : cg} {b : Nat}, lf 0 = (4, 253) → lf 1 = (0, 2976) → lf 2 = (0, (b : Int)) → b ≤ 744 → (∀ j : Nat, j < b → g 254 (2976 + j) = 0) → zr sv L n 21 2 lf [] g o → ∃ N g1 lf1, lf1 0 = (4, 253) ∧ lf1 1 = (0, 2976) ∧ lf1 2 = (0, 0) ∧ zr sv L N 21 26 lf1 [] g1 o ∧ (∀ k : Nat, k ≠ 254 → g1 k = g k) ∧ ∀ j : Nat, j < 744 → g1 254 (2976 + j) = 0
  | 0, _, _, _, _, _, _, _, _, h => (zr_0 h).elim
  | n + 1, lf, g, b, h0, h1, h2, hb, hc, h => by
    rcases m_plain2 h h0 h1 h2 with ⟨x1, lx, z0, z1, z2, h⟩ | ⟨x1, lx, z0, z1, z2, h⟩
    · exact ⟨n, g, lx, z0, z1, z2, h, fun _ _ => rfl, fun j hj => hc j (by omega)⟩
    · rw [show (w32 (2976 + (b : Int))).toNat = 2976 + b by rw [w32_id (by omega) (by omega)]; omega] at h
      obtain ⟨N, g1, lf1, y0, y1, y2, y3, y4, y5⟩ := pl_l n (b := b + 1) z0 z1 (by rw [z2, w32_id (by omega) (by omega)]; rfl) (by omega) (fun j hj => by
        by_cases e : j = b
        · rw [e, cup_at]
        · rw [cup_ne (by omega)]; exact hc j (by omega)) h
      exact ⟨N, g1, lf1, y0, y1, y2, y3, fun k hk => (y4 k hk).trans (cup_row g _ _ hk), y5⟩
theorem pl_l2 {g' : cg} : ∀ (n : Nat) {lf : dlf} {g : cg} {b : Nat}, lf 0 = (4, 253) → lf 1 = (0, 2976) → lf 2 = (0, (b : Int)) → b ≤ 48 → (∀ j : Nat, j < b → g 254 (3027 + j) = -1) → zr sv L n 21 26 lf [] g (g', none) → ∃ g1, g' = cup (cup (cup (cup g1 254 2979 5) 254 2980 2) 254 2981 10) 254 2983 (-1) ∧ (∀ k : Nat, k ≠ 254 → g1 k = g k) ∧ (∀ j : Nat, j < 3027 → g1 254 j = g 254 j) ∧ ∀ j : Nat, j < 48 → g1 254 (3027 + j) = -1
  | 0, _, _, _, _, _, _, _, _, h => (zr_0 h).elim
  | n + 1, lf, g, b, h0, h1, h2, hb, hc, h => by
    rcases m_plain26 h h0 h1 h2 with ⟨x1, h⟩ | ⟨x1, lx, z0, z1, z2, h⟩
    · have e := oV h
      rw [show (w32 (2976 + 3)).toNat = 2979 from rfl, show (w32 (w32 (2976 + 3) + 1)).toNat = 2980 from rfl, show (w32 (2976 + 5)).toNat = 2981 from rfl, show (w32 (2976 + 7)).toNat = 2983 from rfl] at e
      exact ⟨g, e, fun _ _ => rfl, fun _ _ => rfl, fun j hj => hc j (by omega)⟩
    · rw [show w32 (2976 + 51) = 3027 from rfl, show (w32 (3027 + (b : Int))).toNat = 3027 + b by rw [w32_id (by omega) (by omega)]; omega] at h
      obtain ⟨g1, y1, y2, y3, y4⟩ := pl_l2 n (b := b + 1) z0 z1 (by rw [z2, w32_id (by omega) (by omega)]; rfl) (by omega) (fun j hj => by
        by_cases e : j = b
        · rw [e, cup_at]
        · rw [cup_ne (by omega)]; exact hc j (by omega)) h
      exact ⟨g1, y1, fun k hk => (y2 k hk).trans (cup_row g _ _ hk), fun j hj => by rw [y3 j hj, cup_ne (by omega)], y4⟩
theorem plain_ok {n : Nat} {lf : dlf} {g g' : cg} (h : zr sv L n 21 0 lf [] g (g', none)) (h0 : lf 0 = (4, 253)) (h1 : lf 1 = (0, 2976)) : (∀ k : Nat, k ≠ 254 → g' k = g k) ∧ (g' 254 2979 = 5 ∧ g' 254 2980 = 2 ∧ g' 254 2981 = 10 ∧ g' 254 2983 = -1) ∧ (∀ j : Nat, 2976 ≤ j → j < 3027 → j ≠ 2979 → j ≠ 2980 → j ≠ 2981 → j ≠ 2983 → g' 254 j = 0) ∧ ∀ j : Nat, j < 48 → g' 254 (3027 + j) = -1 := by
  obtain ⟨lx, z0, z1, z2, h⟩ := m_plain0 h h0 h1
  obtain ⟨N, g1, lf1, y0, y1, y2, h, y3, y4⟩ := pl_l n (b := 0) z0 z1 z2 (by decide) (fun j hj => absurd hj (Nat.not_lt_zero j)) h
  obtain ⟨g2, e, x1, x2, x3⟩ := pl_l2 N (b := 0) y0 y1 y2 (by decide) (fun j hj => absurd hj (Nat.not_lt_zero j)) h
  rw [e]
  refine ⟨fun k hk => ?_, ⟨?_, ?_, ?_, ?_⟩, fun j j1 j2 j3 j4 j5 j6 => ?_, fun j hj => ?_⟩
  · rw [cup_row _ _ _ hk, cup_row _ _ _ hk, cup_row _ _ _ hk, cup_row _ _ _ hk, x1 k hk, y3 k hk]
  · rw [cup_ne (by decide), cup_ne (by decide), cup_ne (by decide), cup_at]
  · rw [cup_ne (by decide), cup_ne (by decide), cup_at]
  · rw [cup_ne (by decide), cup_at]
  · rw [cup_at]
  · rw [cup_ne (by omega), cup_ne (by omega), cup_ne (by omega), cup_ne (by omega), x2 j (by omega)]
    have := y4 (j - 2976) (by omega)
    rw [show 2976 + (j - 2976) = j by omega] at this
    exact this
  · rw [cup_ne (by omega), cup_ne (by omega), cup_ne (by omega), cup_ne (by omega)]
    exact x3 j hj
/-- the court that is taken over -/
theorem cm_l {o : cg × Option cv} {X : Int} : ∀ (n : Nat) {lf : dlf} {g : cg} {b : Nat}, lf 0 = (4, 253) → lf 3 = (0, (b : Int)) → b ≤ 744 → g 254 2977 = X → (1 < b → g 254 1 = X) → zr sv L n 274 59 lf [] g o → ∃ N g1 lf1, lf1 0 = (4, 253) ∧ lf1 3 = (0, 0) ∧ zr sv L N 274 90 lf1 [] g1 o ∧ (∀ k : Nat, k ≠ 254 → g1 k = g k) ∧ g1 254 1 = X
  | 0, _, _, _, _, _, _, _, _, h => (zr_0 h).elim
  | n + 1, lf, g, b, h0, h3, hb, hX, h1, h => by
    rcases m_court59 h h0 h3 with ⟨x1, lx, z0, z3, h⟩ | ⟨x1, h⟩
    · exact ⟨n, g, lx, z0, z3, h, fun _ _ => rfl, h1 (by omega)⟩
    · have e : w32 (2976 + (b : Int)) = ((2976 + b : Nat) : Int) := by
        rw [w32_id (by omega) (by omega)]
        omega
      rw [e] at h
      obtain ⟨lx, z0, z3, h⟩ := h (by omega) (by omega)
      rw [show ((b : Int)).toNat = b from rfl, show (((2976 + b : Nat) : Int)).toNat = 2976 + b from rfl] at h
      obtain ⟨N, g1, lf1, y0, y1, y2, y3, y4⟩ := cm_l (X := X) n (b := b + 1) z0 (by rw [z3, w32_id (by omega) (by omega)]; rfl) (by omega) (by rw [cup_ne (by omega)]; exact hX) (fun hb1 => by
        by_cases e : b = 1
        · rw [e, cup_at]; exact hX
        · rw [cup_ne (by omega)]; exact h1 (by omega)) h
      exact ⟨N, g1, lf1, y0, y1, y2, fun k hk => (y3 k hk).trans (cup_row g _ _ hk), y4⟩
theorem cn_l {o : cg × Option cv} : ∀ (n : Nat) {lf : dlf} {g : cg} {b : Nat}, lf 0 = (4, 253) → lf 3 = (0, (b : Int)) → b ≤ 12 → zr sv L n 274 90 lf [] g o → ∃ N g1 lf1, lf1 0 = (4, 253) ∧ zr sv L N 274 117 lf1 [] g1 o ∧ ∀ k : Nat, k ≠ 255 → g1 k = g k
  | 0, _, _, _, _, _, _, h => (zr_0 h).elim
  | n + 1, lf, g, b, h0, h3, hb, h => by
    rcases m_court90 h h0 h3 with ⟨x1, lx, z0, h⟩ | ⟨x1, h⟩
    · exact ⟨n, g, lx, z0, h, fun _ _ => rfl⟩
    · have e : w32 (48 + (b : Int)) = ((48 + b : Nat) : Int) := by
        rw [w32_id (by omega) (by omega)]
        omega
      rw [e] at h
      obtain ⟨lx, z0, z3, h⟩ := h (by omega) (by omega)
      obtain ⟨N, g1, lf1, y0, y1, y2⟩ := cn_l n (b := b + 1) z0 (by rw [z3, w32_id (by omega) (by omega)]; rfl) (by omega) h
      exact ⟨N, g1, lf1, y0, y1, fun k hk => (y2 k hk).trans (cup_row g _ _ hk)⟩
theorem cp_l {g' : cg} {X : Int} : ∀ (n : Nat) {lf : dlf} {g : cg} {b : Nat}, lf 0 = (4, 3) → lf 1 = (4, 45) → lf 2 = (0, (b : Int)) → g 3 3 = X → g 3 9 = 0 → zr sv L n 60 86 lf [] g (g', none) → g' 3 3 = X
  | 0, _, _, _, _, _, _, _, _, h => (zr_0 h).elim
  | n + 1, lf, g, b, h0, h1, h2, hX, h9, h => by
    have fin : ∀ {lx : dlf}, lx 0 = (4, 3) → lx 1 = (4, 45) → lx 2 = (0, 0) → zr sv L n 60 123 lx [] g (g', none) → g' 3 3 = X := by
      intro lx z0 z1 z2 hx
      cases n with
      | zero => exact (zr_0 hx).elim
      | succ n =>
        rcases t_cpCase123 hx z0 z1 z2 with ⟨x1, hx⟩ | ⟨x1, -⟩
        · rw [oV hx]; exact hX
        · omega
    rcases t_cpCase86 h h0 h1 h2 with ⟨x1, lx, z0, z1, z2, h⟩ | ⟨x1, ⟨x2, lx, z0, z1, z2, h⟩ | ⟨x2, h⟩⟩
    · exact fin z0 z1 z2 h
    · exact fin z0 z1 z2 h
    · obtain ⟨g7, k1, lx, z0, z1, z2, h⟩ := h (by omega) (by omega)
      have e := oV (t_cpPer (i := (b : Int)) (by omega) (by omega) k1 rfl rfl)
      have f : ∀ j : Nat, g7 3 j = g 3 j := fun j => by
        rw [e, ccp_ne (by omega), cup_ne (by omega), cup_ne (by omega), cup_ne (by omega), cup_ne (by omega), cup_ne (by omega), cup_ne (by omega)]
      exact cp_l n (b := b + 1) z0 z1 (by rw [z2, w32_id (by omega) (by omega)]; rfl) (by rw [f]; exact hX) (by rw [f]; exact h9) h
theorem cp_ok {n : Nat} {lf : dlf} {g g' : cg} (h : zr sv L n 59 0 lf [] g (g', none)) (h0 : lf 0 = (4, 3)) (h1 : lf 1 = (4, 45)) (h9 : g 45 9 = 0) : g' 3 3 = g 45 3 := by
  obtain ⟨g1, k1, g2, k2, h⟩ := t_cpAll h h0 h1
  have e := oV (t_cpTri k2 rfl rfl)
  have e2 := oV h
  rw [e2, e, ccp_ne (by decide), ccp_ne (by decide), ccp_ne (by decide), ccp_ne (by decide), ccp_ne (by decide), ccp_ne (by decide), ccp_ne (by decide), ccp_ne (by decide), cup_ne (by decide), cup_ne (by decide), cup_ne (by decide)]
  obtain ⟨lx, z0, z1, z2, k1⟩ := t_cpCase0 k1 rfl rfl
  refine cp_l n (b := 0) (X := g 45 3) z0 z1 z2 ?_ ?_ k1
  · rw [ccp_ne (by decide), ccp_ne (by decide), cup_ne (by decide), cup_ne (by decide), cup_ne (by decide), cup_ne (by decide), cup_ne (by decide), cup_at]
  · rw [ccp_ne (by decide), ccp_ne (by decide), cup_at]
    exact h9
/-- what both sides have in common before: the tape, and how much of it is there -/
def PRE (c d : cg) : Prop := ∃ k : Nat, k ≤ 900 ∧ c 0 5 = (k : Int) ∧ d 253 10 = (k : Int) ∧ (∀ j : Nat, j < 900 → -128 ≤ c 2 j ∧ c 2 j ≤ 127) ∧ MBY d ∧ (∀ j : Nat, j < k → d 259 j = c 2 j) ∧ ∀ i : Nat, i < 25 → c 89 i = kv i
theorem court_eq {n n' : Nat} {lf lf' : dlf} {c d c' d' : cg} {a r r' : Int} (hP : PRE c d) (h : zr sv L n 273 0 lf [] c (c', some (0, r))) (h0 : lf 0 = (4, 0)) (h1 : lf 1 = (0, a)) (h' : zr sv L n' 274 0 lf' [] d (d', some (0, r'))) (h0' : lf' 0 = (4, 253)) (h1' : lf' 1 = (0, a)) : r = r' := by
  obtain ⟨k, hk9, hk, hk', hcb, hdb, htp, hks⟩ := hP
  obtain ⟨g1, r2, k1, h⟩ := t_court h h0 h1
  obtain ⟨d1, r2', k2, h'⟩ := m_court0 h' h0' h1'
  have refuse : r2 = 0 → r2' = 0 → r = r' := by
    intro z1 z2
    rcases h with ⟨y1, -⟩ | ⟨y1, g12, r13, k3, h⟩
    · exact absurd z1 y1
    · rcases h' with ⟨y2, -⟩ | ⟨y2, g6, r7, k4, h'⟩
      · exact absurd z2 y2
      · have e1 := (oI (t_refuse k3 rfl rfl)).2
        have e2 := (oI (m_refuse k4 rfl rfl)).2
        have e3 := (oI h).2
        have e4 := (oI h').2
        omega
  rcases t_within k1 rfl rfl rfl with ⟨x1, x2⟩ | ⟨x1, ⟨x2, x3⟩ | ⟨x2, x3⟩⟩
  · rcases m_begins0 k2 rfl rfl rfl with ⟨y1, y2⟩ | ⟨y1, y2⟩
    · exact refuse (oI x2).2 (oI y2).2
    · omega
  · rcases m_begins0 k2 rfl rfl rfl with ⟨y1, y2⟩ | ⟨y1, ⟨y2, y3⟩ | ⟨y2, y3⟩⟩
    · omega
    · exact refuse (oI x3).2 (oI y3).2
    · omega
  · rcases m_begins0 k2 rfl rfl rfl with ⟨y1, y2⟩ | ⟨y1, ⟨y2, y3⟩ | ⟨y2, ⟨y3, lx, z0, z1, z3, k3⟩ | ⟨y3, y4⟩⟩⟩
    · omega
    · omega
    · obtain ⟨ma, hma⟩ : ∃ ma : Nat, a = (ma : Int) := ⟨a.toNat, by omega⟩
      rw [hma] at z1 k3
      obtain ⟨e1, e2⟩ := oI x3
      rcases h with ⟨u1, g4, r5, k4, h⟩ | ⟨u1, h⟩
      · -- the text
        obtain ⟨N, d2, lf2, w0, k5, w1, w2, w3⟩ := tx_l (m := ma) (by omega) n' (j := 0) z0 z1 z3 (Nat.zero_le _) (fun i hi => by
          rw [cup_row d _ _ (by decide), htp i (by omega)]; exact hcb i (by omega)) (fun i hi => absurd hi (Nat.not_lt_zero i)) k3
        obtain ⟨d4, k6, he⟩ := m_begins49 k5 w0
        obtain ⟨e3, e4⟩ := oI he
        -- the class's draft
        obtain ⟨c1, k7, c2, k8, ly, v0, v2, k9⟩ := t_takeCt0 k4 rfl rfl
        obtain ⟨c0, k10, he1⟩ := t_clear k7 rfl
        have e5 := oV (t_tclear k10 rfl)
        have e6 := oV he1
        obtain ⟨g5, r6, k11, g7, k12, he2⟩ := t_tbegin k8 rfl rfl
        have e7 := oV he2
        have hmin : g5 = cup c1 90 4 0 ∧ r6 = (ma : Int) := by
          rcases t_min k11 rfl rfl with ⟨q1, q2⟩ | ⟨q1, q2⟩
          · omega
          · obtain ⟨q3, q4⟩ := oI q2
            exact ⟨q3, by omega⟩
        obtain ⟨e8, e9⟩ := hmin
        have C45 : ∀ j : Nat, c1 45 j = cup (cup (cup (cup (cup (cup (cup (cup g1 0 5 0) 45 0 0) 45 3 0) 45 5 5) 45 6 2) 45 7 10) 45 8 0) 45 9 0 45 j := fun j => by
          rw [e6, e5, cup_ne (by omega), cup_ne (by omega), cup_ne (by omega)]
        have Crow : ∀ k : Nat, k ≠ 0 → k ≠ 45 → k ≠ 50 → c1 k = c k := fun k q1 q2 q3 => by
          rw [e6, e5, cup_row _ _ _ q3, cup_row _ _ _ q3, cup_row _ _ _ q3, cup_row _ _ _ q2, cup_row _ _ _ q2, cup_row _ _ _ q2, cup_row _ _ _ q2, cup_row _ _ _ q2, cup_row _ _ _ q2, cup_row _ _ _ q2, cup_row _ _ _ q1, e1]
        rw [e8, e9] at k12
        have c3row : ∀ k : Nat, k ≠ 88 → cup (cup (cup (cup (cup c1 90 4 0) 88 2 (ma : Int)) 88 3 0) 88 10 0) 88 11 (-1) k = cup c1 90 4 0 k := fun k q => by
          rw [cup_row _ _ _ q, cup_row _ _ _ q, cup_row _ _ _ q, cup_row _ _ _ q]
        have d3row : ∀ k : Nat, k ≠ 253 → cup (cup (cup (cup (cup d2 253 10 0) 253 18 0) 253 17 (-1)) 253 14 0) 253 19 0 k = d2 k := fun k q => by
          rw [cup_row _ _ _ q, cup_row _ _ _ q, cup_row _ _ _ q, cup_row _ _ _ q, cup_row _ _ _ q]
        have hE3 : TE (cup (cup (cup (cup (cup c1 90 4 0) 88 2 (ma : Int)) 88 3 0) 88 10 0) 88 11 (-1)) (cup (cup (cup (cup (cup d2 253 10 0) 253 18 0) 253 17 (-1)) 253 14 0) 253 19 0) ma := by
          refine ⟨by omega, ?_, ?_, ?_, ?_, ?_, ?_, by rw [cup_ne (by decide), cup_at], by rw [cup_at], by rw [cup_ne (by decide), cup_ne (by decide), cup_at]⟩
          · rw [cup_ne (by decide), cup_ne (by decide), cup_ne (by decide), cup_at]
          · rw [cup_ne (by decide), cup_ne (by decide), cup_ne (by decide), cup_ne (by decide), cup_ne (by decide), w1 253 (by decide), cup_at]
          · rw [c3row 2 (by decide), cup_row _ _ _ (by decide), Crow 2 (by decide) (by decide) (by decide)]
            exact hcb
          · unfold MBY at hdb ⊢
            rw [d3row 260 (by decide)]
            intro j hj
            by_cases e : j < ma
            · rw [w2 j e, cup_row d _ _ (by decide), htp j (by omega)]; exact hcb j (by omega)
            · rw [w3 j (by omega), cup_row d _ _ (by decide)]; exact hdb j hj
          · intro j hj
            rw [d3row 260 (by decide), c3row 2 (by decide), cup_row _ _ _ (by decide), Crow 2 (by decide) (by decide) (by decide), w2 j hj, cup_row d _ _ (by decide)]
            exact htp j (by omega)
          · intro i hi
            rw [c3row 89 (by decide), cup_row _ _ _ (by decide), Crow 89 (by decide) (by decide) (by decide)]
            exact hks i hi
        obtain ⟨f1, f2, hE4, hT4⟩ := adv_ahd (a := 0) hE3 (Eq.trans (b := (0 : Int)) (by rw [cup_ne (by decide), cup_ne (by decide), cup_at]) rfl) (Eq.trans (b := (0 : Int)) (by rw [cup_ne (by decide), cup_at]) rfl) (Nat.zero_le _) k12 rfl k6 rfl
        rcases h' with ⟨u2, d5, k13, lz, v3, v4, k14⟩ | ⟨u2, h'⟩
        · obtain ⟨p1, p2, p3, p4⟩ := plain_ok k13 rfl rfl
          rw [e3] at p1
          have hE5 := ((hE4.up (c' := g7) (d' := d5) rfl rfl rfl (p1 253 (by decide)) (p1 260 (by decide))).told (g7 90 4) 0)
          have hT5 := ((hT4.up (c' := g7) (d' := d5) rfl (p1 253 (by decide)) (p1 260 (by decide))).told (g7 90 4) 0)
          rw [cup_id rfl] at hE5 hT5
          have d6 : ∀ j : Nat, cup d5 253 20 0 254 j = d5 254 j := fun j => cup_ne (by omega)
          have c7 : ∀ j : Nat, g7 45 j = c1 45 j := fun j => by
            rw [f1.row (k := 45) (by decide), c3row 45 (by decide), cup_row _ _ _ (by decide)]
          have hS : SY g7 (cup d5 253 20 0) ma 0 0 := by
            refine ⟨hE5, hT5, ⟨⟨by decide, by decide⟩, ⟨?_, ?_, ?_, ?_⟩, fun i hi => absurd hi (Nat.not_lt_zero i), fun i hi => absurd hi (Nat.not_lt_zero i), fun i hi => absurd hi (Nat.not_lt_zero i), fun i hi => absurd hi (Nat.not_lt_zero i), fun i _ hi => ⟨?_, fun h hh => ?_⟩, ⟨?_, ?_, ?_, ?_, ?_, ?_, ?_⟩, ?_⟩, ?_⟩
            · exact Eq.trans (b := (0 : Int)) (by rw [c7, C45, cup_ne (by decide), cup_ne (by decide), cup_ne (by decide), cup_ne (by decide), cup_ne (by decide), cup_ne (by decide), cup_at]) rfl
            · exact Eq.trans (b := (0 : Int)) (by rw [d6, p3 2976 (by decide) (by decide) (by decide) (by decide) (by decide) (by decide)]) rfl
            · exact Eq.trans (b := (0 : Int)) (by rw [c7, C45, cup_ne (by decide), cup_ne (by decide), cup_ne (by decide), cup_ne (by decide), cup_ne (by decide), cup_at]) rfl
            · exact Eq.trans (b := (0 : Int)) (by rw [d6, p3 2977 (by decide) (by decide) (by decide) (by decide) (by decide) (by decide)]) rfl
            · rw [d6, p3 _ (by omega) (by omega) (by omega) (by omega) (by omega) (by omega)]
            · rw [d6, show 3027 + 8 * i + h = 3027 + (8 * i + h) by omega, p4 _ (by omega)]
            · rw [c7, C45, d6, p2.1, cup_ne (by decide), cup_ne (by decide), cup_ne (by decide), cup_ne (by decide), cup_at]
            · rw [c7, C45, d6, p2.2.1, cup_ne (by decide), cup_ne (by decide), cup_ne (by decide), cup_at]
            · rw [c7, C45, d6, p2.2.2.1, cup_ne (by decide), cup_ne (by decide), cup_at]
            · rw [c7, C45, cup_ne (by decide), cup_at]
            · rw [d6, p3 2982 (by decide) (by decide) (by decide) (by decide) (by decide) (by decide)]
            · rw [c7, C45, cup_at]
            · rw [d6, p3 2978 (by decide) (by decide) (by decide) (by decide) (by decide) (by decide)]
            · refine ⟨?_, fun i hi => absurd hi (Nat.not_lt_zero i), ?_, ?_⟩
              · rw [cup_at, f1.row (k := 90) (by decide), c3row 90 (by decide), cup_at]
                exact ⟨0, 0, 0, by decide, by decide, by decide, rfl, rfl⟩
              · exact Eq.trans (b := (0 : Int)) (by rw [f1.row (k := 50) (by decide), c3row 50 (by decide), cup_row _ _ _ (by decide), e6, e5, cup_ne (by omega), cup_ne (by omega), cup_at]) rfl
              · rw [d6]; exact p2.2.2.2
            · rw [cup_ne (by decide), p1 253 (by decide), f2 253 18 (by omega), cup_ne (by decide), cup_ne (by decide), cup_ne (by decide), cup_at]
          have hb0 : ((0 : Nat) : Int) ≤ g7 88 5 := by
            obtain ⟨p, hp, -⟩ := hT5
            omega
          rw [e7] at k9
          obtain ⟨N2, d7, lw, q0, k15, hfin⟩ := ct_l (m := ma) n (b := 0) hS v0 v2 hb0 k9 v3 v4 k14
          rcases hfin with ⟨q1, np, nq, hS7⟩ | ⟨q1, hF⟩
          · have hD7 := hS7.2.2.1
            rcases h with ⟨q2, g8, k16, g9, r9, k17, h⟩ | ⟨q2, h⟩
            · have hcp := cp_ok k16 rfl rfl hD7.2.2.2.2.2.2.2.1.2.2.2.2.2.1
              have e10 := (oI (t_give k17 rfl rfl)).2
              have e11 := (oI h).2
              have hr : r = (nq : Int) := by
                rw [e11, e10, hcp]
                exact hD7.2.1.2.2.1
              rcases m_court50 k15 q0 with ⟨q3, -⟩ | ⟨q3, l1, l2, l3, k18⟩
              · exact absurd hS7.2.2.2 q3
              · obtain ⟨N3, d8, l4, l5, l6, k19, l7, l8⟩ := cm_l (X := (nq : Int)) N2 (b := 0) l2 l3 (by decide) hD7.2.1.2.2.2 (fun e => absurd e (by decide)) k18
                obtain ⟨N4, d9, l9, l10, k20, l11⟩ := cn_l N3 (b := 0) l5 l6 (by decide) k19
                obtain ⟨g10, r10, k21, he3⟩ := m_court117 k20 l10
                have e12 := (oI he3).2
                rw [l11 254 (by decide), l8] at k21
                rcases m_taken k21 rfl rfl with ⟨t1, g11, r11, k22, t2⟩ | ⟨t1, t2⟩
                · have e13 := (oI t2).2
                  have e14 := (oI (m_gives k22 rfl rfl)).2
                  omega
                · exfalso
                  have := hS7.2.2.2
                  rw [l11 253 (by decide), l7 253 (by decide)] at t1
                  omega
            · omega
          · rcases h with ⟨q2, h⟩ | ⟨q2, g10, r11, k16, h⟩
            · exact absurd q1 q2
            · have e10 := (oI (t_refuse k16 rfl rfl)).2
              have e11 := (oI h).2
              obtain ⟨hF1, hF2, hF3⟩ := hF
              rcases m_court50 k15 q0 with ⟨q3, l1, l2, k18⟩ | ⟨q3, -⟩
              · obtain ⟨g12, r12, k21, he3⟩ := m_court117 k18 l2
                have e12 := (oI he3).2
                rcases m_taken k21 rfl rfl with ⟨t1, t2⟩ | ⟨t1, g13, r13, k22, t2⟩
                · omega
                · have e13 := (oI t2).2
                  have e14 := (oI (m_refuse k22 rfl rfl)).2
                  omega
              · omega
        · omega
      · omega
    · omega
end Ct
end
section
/-! the tape fed: printed by program (wip/tools/zfd.py) -/
section
set_option maxRecDepth 100000
theorem zbst {sv : Nat → Int32} {L n y pc : Nat} {t : Lean.RArray (Nat × xins)} {lf : dlf} {st : List cv} {g : cg} {o : cg × Option cv} (hy : xg xcode y = some t) {nx tg r1 r2 : Nat} {v i k : Int} (h : zr sv L n y pc lf ((0, v) :: (0, i) :: (4, k) :: st) g o) (he : xg t pc = some (.bastore, nx, tg, r1, r2)) : zr sv L n y nx lf st (cup g k.toNat i.toNat ((i32 v).toInt8.toInt32.toInt)) o := zs hy he rfl h
theorem zy_31 : xg xcode 31 = some xt_31 := rfl
theorem zk_31 : zkc 0 xt_31 = true := by decide +kernel
theorem zy_164 : xg xcode 164 = some xt_164 := rfl
theorem zk_164 : zkc 0 xt_164 = true := by decide +kernel
theorem zy_271 : xg xcode 271 = some xt_271 := rfl
theorem zk_271 : zkc 1 xt_271 = true := by decide +kernel
theorem zy_272 : xg xcode 272 = some xt_272 := rfl
theorem zk_272 : zkc 1 xt_272 = true := by decide +kernel
theorem t_feed {sv : Nat → Int32} {L n : Nat} {lf : dlf} {g : cg} {o : cg × Option cv} {a b c d e : Int} (h : zr sv L n 271 0 lf [] g o) (h0 : lf 0 = (4, 0)) (h1 : lf 1 = (0, a)) (h2 : lf 2 = (0, b)) (h3 : lf 3 = (0, c)) (h4 : lf 4 = (0, d)) (h5 : lf 5 = (0, e)) : (w32 ((g 0 5) + 20) ≤ 900 ∧ (∃ g2, zr sv L n 31 0 (darg 0 [(4, 0), (0, a)]) [] g (g2, none) ∧ (∃ g3, zr sv L n 31 0 (darg 0 [(4, 0), (0, b)]) [] g2 (g3, none) ∧ (∃ g4, zr sv L n 31 0 (darg 0 [(4, 0), (0, c)]) [] g3 (g4, none) ∧ (∃ g5, zr sv L n 31 0 (darg 0 [(4, 0), (0, d)]) [] g4 (g5, none) ∧ (∃ g6, zr sv L n 31 0 (darg 0 [(4, 0), (0, e)]) [] g5 (g6, none) ∧ (o = (g6, some (0, g6 0 5))))))))) ∨ (900 < w32 ((g 0 5) + 20) ∧ (o = (g, some (0, (-1))))) := by
  rw [zov h0, zov h1, zov h2, zov h3, zov h4, zov h5] at h
  have h := zm zy_271 h 6 (q := (cond (crel .le (w32 ((g 0 5) + 20)) 900) 15 13, dset (dset (dset (dset (dset (dset lf 5 (0, e)) 4 (0, d)) 3 (0, c)) 2 (0, b)) 1 (0, a)) 0 (4, 0), [], g)) rfl
  dsimp only at h
  rcases zif_le h with ⟨hc1, h⟩ | ⟨hc1, h⟩
  · refine Or.inl ⟨hc1, ?_⟩
    have h := zm zy_271 h 2 (q := (17, dset (dset (dset (dset (dset (dset lf 5 (0, e)) 4 (0, d)) 3 (0, c)) 2 (0, b)) 1 (0, a)) 0 (4, 0), [(0, a), (4, 0)], g)) rfl
    dsimp only at h
    obtain ⟨g2, hk, h⟩ := zcallV zy_271 h rfl rfl zy_31 zk_31
    dsimp only at hk h
    refine ⟨g2, hk, ?_⟩
    have h := zm zy_271 h 2 (q := (22, dset (dset (dset (dset (dset (dset lf 5 (0, e)) 4 (0, d)) 3 (0, c)) 2 (0, b)) 1 (0, a)) 0 (4, 0), [(0, b), (4, 0)], g2)) rfl
    dsimp only at h
    obtain ⟨g3, hk, h⟩ := zcallV zy_271 h rfl rfl zy_31 zk_31
    dsimp only at hk h
    refine ⟨g3, hk, ?_⟩
    have h := zm zy_271 h 2 (q := (27, dset (dset (dset (dset (dset (dset lf 5 (0, e)) 4 (0, d)) 3 (0, c)) 2 (0, b)) 1 (0, a)) 0 (4, 0), [(0, c), (4, 0)], g3)) rfl
    dsimp only at h
    obtain ⟨g4, hk, h⟩ := zcallV zy_271 h rfl rfl zy_31 zk_31
    dsimp only at hk h
    refine ⟨g4, hk, ?_⟩
    have h := zm zy_271 h 2 (q := (33, dset (dset (dset (dset (dset (dset lf 5 (0, e)) 4 (0, d)) 3 (0, c)) 2 (0, b)) 1 (0, a)) 0 (4, 0), [(0, d), (4, 0)], g4)) rfl
    dsimp only at h
    obtain ⟨g5, hk, h⟩ := zcallV zy_271 h rfl rfl zy_31 zk_31
    dsimp only at hk h
    refine ⟨g5, hk, ?_⟩
    have h := zm zy_271 h 2 (q := (39, dset (dset (dset (dset (dset (dset lf 5 (0, e)) 4 (0, d)) 3 (0, c)) 2 (0, b)) 1 (0, a)) 0 (4, 0), [(0, e), (4, 0)], g5)) rfl
    dsimp only at h
    obtain ⟨g6, hk, h⟩ := zcallV zy_271 h rfl rfl zy_31 zk_31
    dsimp only at hk h
    refine ⟨g6, hk, ?_⟩
    have h := zm zy_271 h 2 (q := (46, dset (dset (dset (dset (dset (dset lf 5 (0, e)) 4 (0, d)) 3 (0, c)) 2 (0, b)) 1 (0, a)) 0 (4, 0), [(0, g6 0 5)], g6)) rfl
    dsimp only at h
    exact zret zy_271 h rfl rfl
  · refine Or.inr ⟨hc1, ?_⟩
    have h := zm zy_271 h 1 (q := (14, dset (dset (dset (dset (dset (dset lf 5 (0, e)) 4 (0, d)) 3 (0, c)) 2 (0, b)) 1 (0, a)) 0 (4, 0), [(0, (-1))], g)) rfl
    dsimp only at h
    exact zret zy_271 h rfl rfl
theorem t_word0 {sv : Nat → Int32} {L n : Nat} {lf : dlf} {g : cg} {o : cg × Option cv} {a : Int} (h : zr sv L n 31 0 lf [] g o) (h0 : lf 0 = (4, 0)) (h1 : lf 1 = (0, a)) : ∃ lf'1, lf'1 0 = (4, 0) ∧ lf'1 1 = (0, a) ∧ lf'1 2 = (0, 24) ∧ zr sv L n 31 3 lf'1 [] g o := by
  rw [zov h0, zov h1] at h
  have h := zm zy_31 h 2 (q := (3, dset (dset (dset lf 1 (0, a)) 0 (4, 0)) 2 (0, 24), [], g)) rfl
  dsimp only at h
  exact ⟨_, rfl, rfl, rfl, h⟩
theorem t_word3 {sv : Nat → Int32} {L n : Nat} {lf : dlf} {g : cg} {o : cg × Option cv} {a b : Int} (h : zr sv L (n + 1) 31 3 lf [] g o) (h0 : lf 0 = (4, 0)) (h1 : lf 1 = (0, a)) (h2 : lf 2 = (0, b)) : (b < 0 ∧ (o = (g, none))) ∨ (0 ≤ b ∧ ((900 ≤ g 0 5 ∧ (∃ lf'3, lf'3 0 = (4, 0) ∧ lf'3 1 = (0, a) ∧ lf'3 2 = (0, w32 (b + (-8))) ∧ zr sv L n 31 3 lf'3 [] g o)) ∨ (g 0 5 < 900 ∧ (∃ lf'4, lf'4 0 = (4, 0) ∧ lf'4 1 = (0, a) ∧ lf'4 2 = (0, w32 (b + (-8))) ∧ zr sv L n 31 3 lf'4 [] (cup (cup g 2 ((g 0 5).toNat) ((i32 ((i32 ((i32 a >>> (i32 b &&& 31)).toInt)).toInt8.toInt32.toInt)).toInt8.toInt32.toInt)) 0 5 (w32 ((g 0 5) + 1))) o)))) := by
  rw [zov h0, zov h1, zov h2] at h
  have h := zm1 zy_31 h 1 (q := (cond (crel .lt b 0) 46 7, dset (dset (dset lf 2 (0, b)) 1 (0, a)) 0 (4, 0), [], g)) rfl
  dsimp only at h
  rcases zif_lt h with ⟨hc1, h⟩ | ⟨hc1, h⟩
  · refine Or.inl ⟨hc1, ?_⟩
    exact zret zy_31 h rfl rfl
  · refine Or.inr ⟨hc1, ?_⟩
    have h := zm zy_31 h 4 (q := (cond (crel .ge (g 0 5) 900) 40 17, dset (dset (dset lf 2 (0, b)) 1 (0, a)) 0 (4, 0), [], g)) rfl
    dsimp only at h
    rcases zif_ge h with ⟨hc2, h⟩ | ⟨hc2, h⟩
    · refine Or.inl ⟨hc2, ?_⟩
      have h := zm zy_31 h 2 (q := (3, dset (dset (dset (dset lf 2 (0, b)) 1 (0, a)) 0 (4, 0)) 2 (0, w32 (b + (-8))), [], g)) rfl
      dsimp only at h
      exact ⟨_, rfl, rfl, rfl, h⟩
    · refine Or.inr ⟨hc2, ?_⟩
      have h := zm zy_31 h 8 (q := (29, dset (dset (dset lf 2 (0, b)) 1 (0, a)) 0 (4, 0), [(0, (i32 ((i32 a >>> (i32 b &&& 31)).toInt)).toInt8.toInt32.toInt), (0, g 0 5), (4, 2)], g)) rfl
      dsimp only at h
      have h := zbst zy_31 h rfl
      have h : zr sv L n 31 30 (dset (dset (dset lf 2 (0, b)) 1 (0, a)) 0 (4, 0)) [] (cup g 2 ((g 0 5).toNat) ((i32 ((i32 ((i32 a >>> (i32 b &&& 31)).toInt)).toInt8.toInt32.toInt)).toInt8.toInt32.toInt)) o := h
      have h := zm zy_31 h 8 (q := (3, dset (dset (dset (dset lf 2 (0, b)) 1 (0, a)) 0 (4, 0)) 2 (0, w32 (b + (-8))), [], cup (cup g 2 ((g 0 5).toNat) ((i32 ((i32 ((i32 a >>> (i32 b &&& 31)).toInt)).toInt8.toInt32.toInt)).toInt8.toInt32.toInt)) 0 5 (w32 ((g 0 5) + 1)))) rfl
      dsimp only at h
      exact ⟨_, rfl, rfl, rfl, h⟩
theorem m_feed {sv : Nat → Int32} {L n : Nat} {lf : dlf} {g : cg} {o : cg × Option cv} {a b c d e : Int} (h : zr sv L n 272 0 lf [] g o) (h0 : lf 0 = (4, 253)) (h1 : lf 1 = (0, a)) (h2 : lf 2 = (0, b)) (h3 : lf 3 = (0, c)) (h4 : lf 4 = (0, d)) (h5 : lf 5 = (0, e)) : (w32 ((g 253 10) + 20) ≤ 900 ∧ (∃ g2, zr sv L n 164 0 (darg 0 [(4, 253), (0, a)]) [] g (g2, none) ∧ (∃ g3, zr sv L n 164 0 (darg 0 [(4, 253), (0, b)]) [] g2 (g3, none) ∧ (∃ g4, zr sv L n 164 0 (darg 0 [(4, 253), (0, c)]) [] g3 (g4, none) ∧ (∃ g5, zr sv L n 164 0 (darg 0 [(4, 253), (0, d)]) [] g4 (g5, none) ∧ (∃ g6, zr sv L n 164 0 (darg 0 [(4, 253), (0, e)]) [] g5 (g6, none) ∧ (o = (g6, some (0, g6 253 10))))))))) ∨ (900 < w32 ((g 253 10) + 20) ∧ (o = (g, some (0, (-1))))) := by
  rw [zov h0, zov h1, zov h2, zov h3, zov h4, zov h5] at h
  have h := zm zy_272 h 6 (q := (cond (crel .le (w32 ((g 253 10) + 20)) 900) 15 13, dset (dset (dset (dset (dset (dset lf 5 (0, e)) 4 (0, d)) 3 (0, c)) 2 (0, b)) 1 (0, a)) 0 (4, 253), [], g)) rfl
  dsimp only at h
  rcases zif_le h with ⟨hc1, h⟩ | ⟨hc1, h⟩
  · refine Or.inl ⟨hc1, ?_⟩
    have h := zm zy_272 h 2 (q := (17, dset (dset (dset (dset (dset (dset lf 5 (0, e)) 4 (0, d)) 3 (0, c)) 2 (0, b)) 1 (0, a)) 0 (4, 253), [(0, a), (4, 253)], g)) rfl
    dsimp only at h
    obtain ⟨g2, hk, h⟩ := zcallV zy_272 h rfl rfl zy_164 zk_164
    dsimp only at hk h
    refine ⟨g2, hk, ?_⟩
    have h := zm zy_272 h 2 (q := (22, dset (dset (dset (dset (dset (dset lf 5 (0, e)) 4 (0, d)) 3 (0, c)) 2 (0, b)) 1 (0, a)) 0 (4, 253), [(0, b), (4, 253)], g2)) rfl
    dsimp only at h
    obtain ⟨g3, hk, h⟩ := zcallV zy_272 h rfl rfl zy_164 zk_164
    dsimp only at hk h
    refine ⟨g3, hk, ?_⟩
    have h := zm zy_272 h 2 (q := (27, dset (dset (dset (dset (dset (dset lf 5 (0, e)) 4 (0, d)) 3 (0, c)) 2 (0, b)) 1 (0, a)) 0 (4, 253), [(0, c), (4, 253)], g3)) rfl
    dsimp only at h
    obtain ⟨g4, hk, h⟩ := zcallV zy_272 h rfl rfl zy_164 zk_164
    dsimp only at hk h
    refine ⟨g4, hk, ?_⟩
    have h := zm zy_272 h 2 (q := (33, dset (dset (dset (dset (dset (dset lf 5 (0, e)) 4 (0, d)) 3 (0, c)) 2 (0, b)) 1 (0, a)) 0 (4, 253), [(0, d), (4, 253)], g4)) rfl
    dsimp only at h
    obtain ⟨g5, hk, h⟩ := zcallV zy_272 h rfl rfl zy_164 zk_164
    dsimp only at hk h
    refine ⟨g5, hk, ?_⟩
    have h := zm zy_272 h 2 (q := (39, dset (dset (dset (dset (dset (dset lf 5 (0, e)) 4 (0, d)) 3 (0, c)) 2 (0, b)) 1 (0, a)) 0 (4, 253), [(0, e), (4, 253)], g5)) rfl
    dsimp only at h
    obtain ⟨g6, hk, h⟩ := zcallV zy_272 h rfl rfl zy_164 zk_164
    dsimp only at hk h
    refine ⟨g6, hk, ?_⟩
    have h := zm zy_272 h 2 (q := (46, dset (dset (dset (dset (dset (dset lf 5 (0, e)) 4 (0, d)) 3 (0, c)) 2 (0, b)) 1 (0, a)) 0 (4, 253), [(0, g6 253 10)], g6)) rfl
    dsimp only at h
    exact zret zy_272 h rfl rfl
  · refine Or.inr ⟨hc1, ?_⟩
    have h := zm zy_272 h 1 (q := (14, dset (dset (dset (dset (dset (dset lf 5 (0, e)) 4 (0, d)) 3 (0, c)) 2 (0, b)) 1 (0, a)) 0 (4, 253), [(0, (-1))], g)) rfl
    dsimp only at h
    exact zret zy_272 h rfl rfl
theorem m_word0 {sv : Nat → Int32} {L n : Nat} {lf : dlf} {g : cg} {o : cg × Option cv} {a : Int} (h : zr sv L n 164 0 lf [] g o) (h0 : lf 0 = (4, 253)) (h1 : lf 1 = (0, a)) : ∃ lf'1, lf'1 0 = (4, 253) ∧ lf'1 1 = (0, a) ∧ lf'1 2 = (0, 24) ∧ zr sv L n 164 3 lf'1 [] g o := by
  rw [zov h0, zov h1] at h
  have h := zm zy_164 h 2 (q := (3, dset (dset (dset lf 1 (0, a)) 0 (4, 253)) 2 (0, 24), [], g)) rfl
  dsimp only at h
  exact ⟨_, rfl, rfl, rfl, h⟩
theorem m_word3 {sv : Nat → Int32} {L n : Nat} {lf : dlf} {g : cg} {o : cg × Option cv} {a b : Int} (h : zr sv L (n + 1) 164 3 lf [] g o) (h0 : lf 0 = (4, 253)) (h1 : lf 1 = (0, a)) (h2 : lf 2 = (0, b)) : (b < 0 ∧ (o = (g, none))) ∨ (0 ≤ b ∧ (∃ lf'2, lf'2 0 = (4, 253) ∧ lf'2 1 = (0, a) ∧ lf'2 2 = (0, w32 (b + (-8))) ∧ zr sv L n 164 3 lf'2 [] (cup (cup g 259 ((g 253 10).toNat) ((i32 ((i32 ((i32 a >>> (i32 b &&& 31)).toInt)).toInt8.toInt32.toInt)).toInt8.toInt32.toInt)) 253 10 (w32 ((g 253 10) + 1))) o)) := by
  rw [zov h0, zov h1, zov h2] at h
  have h := zm1 zy_164 h 1 (q := (cond (crel .lt b 0) 36 7, dset (dset (dset lf 2 (0, b)) 1 (0, a)) 0 (4, 253), [], g)) rfl
  dsimp only at h
  rcases zif_lt h with ⟨hc1, h⟩ | ⟨hc1, h⟩
  · refine Or.inl ⟨hc1, ?_⟩
    exact zret zy_164 h rfl rfl
  · refine Or.inr ⟨hc1, ?_⟩
    have h := zm zy_164 h 8 (q := (19, dset (dset (dset lf 2 (0, b)) 1 (0, a)) 0 (4, 253), [(0, (i32 ((i32 a >>> (i32 b &&& 31)).toInt)).toInt8.toInt32.toInt), (0, g 253 10), (4, 259)], g)) rfl
    dsimp only at h
    have h := zbst zy_164 h rfl
    have h : zr sv L n 164 20 (dset (dset (dset lf 2 (0, b)) 1 (0, a)) 0 (4, 253)) [] (cup g 259 ((g 253 10).toNat) ((i32 ((i32 ((i32 a >>> (i32 b &&& 31)).toInt)).toInt8.toInt32.toInt)).toInt8.toInt32.toInt)) o := h
    have h := zm zy_164 h 8 (q := (3, dset (dset (dset (dset lf 2 (0, b)) 1 (0, a)) 0 (4, 253)) 2 (0, w32 (b + (-8))), [], cup (cup g 259 ((g 253 10).toNat) ((i32 ((i32 ((i32 a >>> (i32 b &&& 31)).toInt)).toInt8.toInt32.toInt)).toInt8.toInt32.toInt)) 253 10 (w32 ((g 253 10) + 1)))) rfl
    dsimp only at h
    exact ⟨_, rfl, rfl, rfl, h⟩
end
end
