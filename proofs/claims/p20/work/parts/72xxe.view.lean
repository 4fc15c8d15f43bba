/-! all that both courts hold, wherever they lie: the class's at B, the reference's at a, its TRIALS' rows at s -/
def vc (B : Nat) (c : cg) : cg := fun k j => c (k + B - 3) j
def vd (a s : Nat) (d : cg) : cg := fun k j => if k = 254 then (if j < 260 then d 254 (a + j) else d 254 (s + (j - 260))) else d k j
theorem vd_lo {a s j : Nat} {d : cg} (h : j < 260) : vd a s d 254 j = d 254 (a + j) := by
  unfold vd
  rw [if_pos rfl, if_pos h]
theorem vd_hi {a s j : Nat} {d : cg} (h : 260 ≤ j) : vd a s d 254 j = d 254 (s + (j - 260)) := by
  unfold vd
  rw [if_pos rfl, if_neg (by omega)]
theorem vc_3 {c : cg} : vc 3 c = c := rfl
theorem vd_0 {d : cg} : vd 0 260 d = d := funext fun k => funext fun j => by
  unfold vd
  by_cases h : k = 254
  · rw [if_pos h, h]
    by_cases q : j < 260
    · rw [if_pos q, Nat.zero_add]
    · rw [if_neg q, show 260 + (j - 260) = j by omega]
  · rw [if_neg h]
theorem TROW.mvr {c d c2 d2 : cg} {np nq r : Nat} (h : TROW c d np nq r) (hc : ∀ k : Nat, 9 ≤ k → k ≤ 16 → c2 k r = c k r) (hd : ∀ j : Nat, 260 + 8 * r ≤ j → j < 268 + 8 * r → d2 254 j = d 254 j) : TROW c2 d2 np nq r := by
  unfold TROW at *
  rw [hc 9 (by decide) (by decide), hc 10 (by decide) (by decide), hc 11 (by decide) (by decide), hc 12 (by decide) (by decide), hc 13 (by decide) (by decide), hc 14 (by decide) (by decide), hc 15 (by decide) (by decide), hd (260 + 8 * r) (by omega) (by omega), hd (261 + 8 * r) (by omega) (by omega), hd (262 + 8 * r) (by omega) (by omega), hd (263 + 8 * r) (by omega) (by omega), hd (264 + 8 * r) (by omega) (by omega), hd (265 + 8 * r) (by omega) (by omega), hd (266 + 8 * r) (by omega) (by omega)]
  exact h
theorem PAI.mvr {c c2 : cg} {nn o e : Nat} (h : PAI c nn o e) (hc : ∀ k r : Nat, 9 ≤ k → k ≤ 16 → r < nn → c2 k r = c k r) : PAI c2 nn o e := by
  have h1 := h.1
  have h2 := h.2.1
  unfold PAI opn at *
  rw [hc 9 o (by decide) (by decide) (by omega), hc 15 o (by decide) (by decide) (by omega), hc 15 e (by decide) (by decide) (by omega), hc 9 e (by decide) (by decide) (by omega), hc 16 o (by decide) (by decide) (by omega), hc 16 e (by decide) (by decide) (by omega)]
  exact h
theorem NEST.mvr {c c2 : cg} {nn : Nat} (h : NEST c nn) (hc : ∀ k r : Nat, 9 ≤ k → k ≤ 16 → r < nn → c2 k r = c k r) : NEST c2 nn := by
  have hb : ∀ k r : Nat, 9 ≤ k → k ≤ 16 → r < nn → c k r = c2 k r := fun k r h1 h2 h3 => (hc k r h1 h2 h3).symm
  refine ⟨fun e he h9 => ?_, fun o ho h9 => ?_, fun o e o' e' p p' l1 l2 => ?_⟩
  · rw [hc 9 e (by decide) (by decide) he] at h9
    obtain ⟨o, p⟩ := h.1 e he h9
    exact ⟨o, p.mvr hc⟩
  · unfold opn at h9
    rw [hc 9 o (by decide) (by decide) ho] at h9
    obtain ⟨e, p⟩ := h.2.1 o ho h9
    exact ⟨e, p.mvr hc⟩
  · have h1 := p.1
    have h2 := p.2.1
    have h3 := p'.1
    have h4 := p'.2.1
    rw [hc 16 o (by decide) (by decide) (by omega), hc 16 o' (by decide) (by decide) (by omega)]
    exact h.2.2 o e o' e' (p.mvr hb) (p'.mvr hb) l1 l2
theorem TRS.mvr {c d c2 d2 : cg} {np nq : Nat} (h : TRS c d np nq) (e0 : c2 8 0 = c 8 0) (e7 : d2 254 7 = d 254 7) (hc : c 8 0 = 1 → c2 8 2 = c 8 2 ∧ ∀ k r : Nat, 9 ≤ k → k ≤ 16 → (r : Int) < c 8 2 → c2 k r = c k r) (hd : ∀ j : Nat, 260 ≤ j → j < 740 → d2 254 j = d 254 j) : TRS c2 d2 np nq := by
  rcases h with ⟨h1, h2⟩ | ⟨h1, nn, h2, h3, h4, h5, h6⟩
  · exact Or.inl ⟨e0.trans h1, e7.trans h2⟩
  · obtain ⟨c1, c2'⟩ := hc h1
    exact Or.inr ⟨e0.trans h1, nn, h2, c1.trans h3, e7.trans h4, fun r hr => (h5 r hr).mvr (fun k k1 k2 => c2' k r k1 k2 (by omega)) (fun j j1 j2 => hd j (by omega) (by omega)), h6.mvr (fun k r k1 k2 hr => c2' k r k1 k2 (by omega))⟩
/-- courts and TRIALS of both -/
def RDT (c d : cg) : Prop := ∃ np nq N : Nat, CT c d np nq N ∧ GD c np nq N ∧ TRS c d np nq
def RX (B a s : Nat) (g : cg) : Prop := RDT (vc B g) (vd a s g)
theorem RDT.mvr {c d c2 d2 : cg} (h : RDT c d) (e1 : ∀ np nq N : Nat, np ≤ 5 → nq ≤ 6 → N ≤ 16 → c 3 0 = (np : Int) → c 3 3 = (nq : Int) → c 3 9 = (N : Int) → SCL c c2 np nq N) (e2 : ∀ j : Nat, j < 260 → d2 254 j = d 254 j) (e0 : c2 8 0 = c 8 0) (hc : c 8 0 = 1 → c2 8 2 = c 8 2 ∧ ∀ k r : Nat, 9 ≤ k → k ≤ 16 → (r : Int) < c 8 2 → c2 k r = c k r) (hd : ∀ j : Nat, 260 ≤ j → j < 740 → d2 254 j = d 254 j) : RDT c2 d2 := by
  obtain ⟨np, nq, N, hC, hG, hT⟩ := h
  obtain ⟨⟨q5, q6, qN⟩, ⟨a1, a2, a3⟩, -⟩ := id hC
  have s := e1 np nq N q5 q6 qN a1 a2 a3
  exact ⟨np, nq, N, hC.mv s e2, hG.mv q5 q6 s, hT.mvr e0 (e2 7 (by decide)) hc hd⟩
/-- where all its cells are the same -/
theorem RX.upz {B a s : Nat} {g g' : cg} (h : RX B a s g) (h1 : ∀ k j : Nat, B ≤ k → k < B + 42 → g' k j = g k j) (h2 : ∀ j : Nat, a ≤ j → j < a + 260 → g' 254 j = g 254 j) (h3 : ∀ j : Nat, s ≤ j → j < s + 480 → g' 254 j = g 254 j) : RX B a s g' := by
  have C : ∀ k j : Nat, 3 ≤ k → k < 45 → vc B g' k j = vc B g k j := fun k j k1 k2 => h1 (k + B - 3) j (by omega) (by omega)
  exact RDT.mvr h (fun np nq N q5 q6 qN _ _ _ => SCL.of q5 q6 qN (fun k j k1 k2 => C k j k1 k2)) (fun j hj => by rw [vd_lo hj, vd_lo hj]; exact h2 _ (by omega) (by omega)) (C 8 0 (by decide) (by decide)) (fun _ => ⟨C 8 2 (by decide) (by decide), fun k r k1 k2 _ => C k r (by omega) (by omega)⟩) (fun j j1 j2 => by rw [vd_hi j1, vd_hi j1]; exact h3 _ (by omega) (by omega))
/-- the reference's court taken elsewhere -/
theorem RX.atz {B a s a' : Nat} {g : cg} (h : RX B a s g) (e : ∀ j : Nat, j < 260 → g 254 (a' + j) = g 254 (a + j)) : RX B a' s g :=
  RDT.mvr h (fun _ _ _ _ _ _ _ _ _ => scl_rf) (fun j hj => by rw [vd_lo hj, vd_lo hj]; exact e j hj) rfl (fun _ => ⟨rfl, fun _ _ _ _ _ => rfl⟩) (fun j j1 j2 => by rw [vd_hi j1, vd_hi j1])
