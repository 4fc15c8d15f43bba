/-! swear, find, recant, earn, meet, ride, live, and what only reads: the relation behind them -/
def OPF (c c' : cg) : Prop := (∀ k j : Nat, ¬ (k = 0 ∧ j ≠ 9) → ¬ (k = 3 ∧ 7 ≤ j ∧ j ≤ 9) → (k < 17 ∨ 127 ≤ k) → c' k j = c k j) ∧ ∀ i : Nat, i < 6 → c' (17 + 2 * i) 0 = c (17 + 2 * i) 0
def OPG (d d' : cg) : Prop := ((∀ j : Nat, d' 255 j = d 255 j) ∧ d' 253 39 = d 253 39) ∧ ∀ j : Nat, (j = 7 ∨ 260 ≤ j) → d' 254 j = d 254 j
theorem OPR.opz {c c' d d' : cg} {np nq : Nat} (h : OPR c' d' np nq c d) : (∃ N : Nat, CT c' d' np nq N ∧ GD c' np nq N) ∧ OPF c c' ∧ OPG d d' := by
  obtain ⟨N, a, b, ⟨f1, f2⟩, g1, g2⟩ := h
  exact ⟨⟨N, a, b⟩, ⟨fun k j i1 i2 i3 => f1 k j (by omega) i2 i3, f2⟩, ⟨fun j => g1 _ _ (by omega) (by omega), g1 _ _ (by omega) (by omega)⟩, g2⟩
theorem op_tt {c g g' : cg} {r r' : Int} (hR : yR 0 c) (hf : ∀ k : Nat, 253 ≤ k → k < 270 → g k = c k) (hf' : ∀ k : Nat, k < 253 → g' k = g k) (hop : ∀ np nq N : Nat, CT c g np nq N → GD c np nq N → TRS c g np nq → r = r' ∧ (∃ N : Nat, CT g g' np nq N ∧ GD g np nq N) ∧ OPF c g ∧ OPG g g') : yR 0 g' ∧ r = r' := by
  obtain ⟨⟨hC3, hX3⟩, m, m1, m2, m3, m4⟩ := hR
  have hX : RDT c c := by
    unfold RX at hX3
    rw [vc_3, vd_0] at hX3
    exact hX3
  obtain ⟨np, nq, N, hC, hG, hT⟩ := hX
  have G4 : ∀ j : Nat, g 254 j = c 254 j := fun j => by rw [hf 254 (by decide) (by decide)]
  obtain ⟨e, ⟨N2, hC2, hG2⟩, ⟨F1, F2⟩, ⟨G1, G3⟩, G2⟩ := hop np nq N (hC.mv scl_rf (fun j _ => G4 j)) hG (hT.mvr rfl (G4 7) (fun _ => ⟨rfl, fun _ _ _ _ _ => rfl⟩) (fun j _ _ => G4 j))
  obtain ⟨-, -, ⟨z0, z1, -⟩, -⟩ := id hC
  obtain ⟨⟨x5, x6, xN⟩, -, ⟨y0, y1, -⟩, -⟩ := id hC2
  have K : ∀ k j : Nat, k < 253 → g' k j = g k j := fun k j hk => by rw [hf' k hk]
  have KC : ∀ k j : Nat, ¬ (k = 0 ∧ j ≠ 9) → ¬ (k = 3 ∧ 7 ≤ j ∧ j ≤ 9) → (k < 17 ∨ 127 ≤ k) → k < 253 → g' k j = c k j := fun k j i1 i2 i3 i4 => by rw [K k j i4, F1 k j i1 i2 i3]
  have K4 : ∀ j : Nat, (j = 7 ∨ 260 ≤ j) → g' 254 j = c 254 j := fun j hj => by rw [G2 j hj, G4]
  have K5 : ∀ j : Nat, g' 255 j = c 255 j := fun j => by rw [G1 j, hf 255 (by decide) (by decide)]
  have sc : SCL g g' np nq N2 := SCL.of x5 x6 xN (fun k j k1 k2 => K k j (by omega))
  have hX2 : RX 3 0 260 g' := by
    unfold RX
    rw [vc_3, vd_0]
    exact ⟨np, nq, N2, hC2.mv sc (fun _ _ => rfl), hG2.mv x5 x6 sc, hT.mvr (KC 8 0 (by omega) (by omega) (by omega) (by omega)) (K4 7 (Or.inl rfl)) (fun _ => ⟨KC 8 2 (by omega) (by omega) (by omega) (by omega), fun k r k1 k2 _ => KC k r (by omega) (by omega) (by omega) (by omega)⟩) (fun j j1 _ => K4 j (Or.inr j1))⟩
  refine ⟨⟨⟨hC3.mv ⟨⟨KC 3 0 (by omega) (by omega) (by omega) (by omega), KC 3 3 (by omega) (by omega) (by omega) (by omega)⟩, fun i _ => KC _ _ (by omega) (by omega) (by omega) (by omega), fun i _ hi => ?_, ⟨y0.trans z0.symm, y1.trans z1.symm⟩, fun i _ => K5 _⟩, hX2⟩, m, m1, ?_, ?_, fun i hi => ?_⟩, e⟩
  · rw [show 3 + 14 + 2 * i = 17 + 2 * i by omega, K _ _ (by omega)]
    exact F2 i hi
  · rw [KC 0 9 (by omega) (by omega) (by omega) (by omega)]; exact m2
  · rw [G3, hf 253 (by decide) (by decide)]; exact m3
  · exact (m4 i hi).upx (fun k j k1 k2 => KC k j (by omega) (by omega) (by omega) (by omega)) (fun j j1 j2 => K4 j (by omega)) (fun j j1 j2 => K4 j (by omega)) (fun j _ _ => K5 j)
section Otp
variable {sv : Nat → Int32} {L : Nat}
theorem tt_swear (har0 : xar 303 xPR = some 4) : TT sv L 303 := by
  intro c g g' al r r' n n' lf lf' hP _ har _ h0 hl h h0' hl' h'
  obtain ⟨hR, -, -, hf, hf', -⟩ := hP
  obtain ⟨a, b, e, f, rfl⟩ := al4 (har0.symm.trans har)
  have q := op_tt hR hf hf' (fun np nq N hC hG _ => by
    obtain ⟨x, y⟩ := swear_op hC hG h h0 hl.1 hl.2.1 hl.2.2.1 hl.2.2.2.1 h' h0' hl'.1 hl'.2.1 hl'.2.2.1 hl'.2.2.2.1
    exact ⟨x, y.opz⟩)
  exact ⟨fun _ => q.1, q.2⟩
theorem tt_find (har0 : xar 305 xPR = some 3) : TT sv L 305 := by
  intro c g g' al r r' n n' lf lf' hP _ har _ h0 hl h h0' hl' h'
  obtain ⟨hR, -, -, hf, hf', -⟩ := hP
  obtain ⟨a, b, e, rfl⟩ := al3 (har0.symm.trans har)
  have q := op_tt hR hf hf' (fun np nq N hC hG _ => by
    obtain ⟨x, y⟩ := find_op hC hG h h0 hl.1 hl.2.1 hl.2.2.1 h' h0' hl'.1 hl'.2.1 hl'.2.2.1
    exact ⟨x, y.opz⟩)
  exact ⟨fun _ => q.1, q.2⟩
theorem tt_recant (har0 : xar 307 xPR = some 1) : TT sv L 307 := by
  intro c g g' al r r' n n' lf lf' hP _ har _ h0 hl h h0' hl' h'
  obtain ⟨hR, -, -, hf, hf', -⟩ := hP
  obtain ⟨a, rfl⟩ := al1 (har0.symm.trans har)
  have q := op_tt hR hf hf' (fun np nq N hC hG _ => by
    obtain ⟨x, y⟩ := recant_op hC hG h h0 hl.1 h' h0' hl'.1
    exact ⟨x, y.opz⟩)
  exact ⟨fun _ => q.1, q.2⟩
theorem tt_earn (har0 : xar 309 xPR = some 2) : TT sv L 309 := by
  intro c g g' al r r' n n' lf lf' hP _ har _ h0 hl h h0' hl' h'
  obtain ⟨hR, -, -, hf, hf', -⟩ := hP
  obtain ⟨a, b, rfl⟩ := al2 (har0.symm.trans har)
  have q := op_tt hR hf hf' (fun np nq N hC hG _ => by
    obtain ⟨x, y⟩ := earn_op hC hG h h0 hl.1 hl.2.1 h' h0' hl'.1 hl'.2.1
    exact ⟨x, y.opz⟩)
  exact ⟨fun _ => q.1, q.2⟩
theorem tt_meet (har0 : xar 311 xPR = some 2) : TT sv L 311 := by
  intro c g g' al r r' n n' lf lf' hP _ har _ h0 hl h h0' hl' h'
  obtain ⟨hR, -, -, hf, hf', -⟩ := hP
  obtain ⟨a, b, rfl⟩ := al2 (har0.symm.trans har)
  have q := op_tt hR hf hf' (fun np nq N hC hG _ => by
    obtain ⟨x, y⟩ := meet_op hC hG h h0 hl.1 hl.2.1 h' h0' hl'.1 hl'.2.1
    exact ⟨x, y.opz⟩)
  exact ⟨fun _ => q.1, q.2⟩
theorem tt_ride (har0 : xar 313 xPR = some 1) : TT sv L 313 := by
  intro c g g' al r r' n n' lf lf' hP _ har _ h0 hl h h0' hl' h'
  obtain ⟨hR, -, -, hf, hf', -⟩ := hP
  obtain ⟨a, rfl⟩ := al1 (har0.symm.trans har)
  have q := op_tt hR hf hf' (fun np nq N hC hG _ => by
    obtain ⟨x, y⟩ := ride_op hC hG h h0 hl.1 h' h0' hl'.1
    exact ⟨x, y.opz⟩)
  exact ⟨fun _ => q.1, q.2⟩
theorem tt_why (har0 : xar 293 xPR = some 4) : TT sv L 293 := by
  intro c g g' al r r' n n' lf lf' hP _ har _ h0 hl h h0' hl' h'
  obtain ⟨hR, -, -, hf, hf', -⟩ := hP
  obtain ⟨a, b, e, f, rfl⟩ := al4 (har0.symm.trans har)
  have q := op_tt hR hf hf' (fun np nq N hC hG _ => by
    obtain ⟨x, y⟩ := why_op hC hG h h0 hl.1 hl.2.1 hl.2.2.1 hl.2.2.2.1 h' h0' hl'.1 hl'.2.1 hl'.2.2.1 hl'.2.2.2.1
    exact ⟨x, y.opz⟩)
  exact ⟨fun _ => q.1, q.2⟩
theorem tt_fee (har0 : xar 295 xPR = some 4) : TT sv L 295 := by
  intro c g g' al r r' n n' lf lf' hP _ har _ h0 hl h h0' hl' h'
  obtain ⟨hR, -, -, hf, hf', -⟩ := hP
  obtain ⟨a, b, e, f, rfl⟩ := al4 (har0.symm.trans har)
  have q := op_tt hR hf hf' (fun np nq N hC hG _ => by
    obtain ⟨x, y⟩ := fee_op hC hG h h0 hl.1 hl.2.1 hl.2.2.1 hl.2.2.2.1 h' h0' hl'.1 hl'.2.1 hl'.2.2.1 hl'.2.2.2.1
    exact ⟨x, y.opz⟩)
  exact ⟨fun _ => q.1, q.2⟩
theorem tt_gainsaid (har0 : xar 297 xPR = some 4) : TT sv L 297 := by
  intro c g g' al r r' n n' lf lf' hP _ har _ h0 hl h h0' hl' h'
  obtain ⟨hR, -, -, hf, hf', -⟩ := hP
  obtain ⟨a, b, e, f, rfl⟩ := al4 (har0.symm.trans har)
  have q := op_tt hR hf hf' (fun np nq N hC hG _ => by
    obtain ⟨x, y⟩ := gns_op hC hG h h0 hl.1 hl.2.1 hl.2.2.1 hl.2.2.2.1 h' h0' hl'.1 hl'.2.1 hl'.2.2.1 hl'.2.2.2.1
    exact ⟨x, y.opz⟩)
  exact ⟨fun _ => q.1, q.2⟩
theorem tt_backed (har0 : xar 299 xPR = some 3) : TT sv L 299 := by
  intro c g g' al r r' n n' lf lf' hP _ har _ h0 hl h h0' hl' h'
  obtain ⟨hR, -, -, hf, hf', -⟩ := hP
  obtain ⟨a, b, e, rfl⟩ := al3 (har0.symm.trans har)
  have q := op_tt hR hf hf' (fun np nq N hC hG _ => by
    obtain ⟨x, y⟩ := bkd_op hC hG h h0 hl.1 hl.2.1 hl.2.2.1 h' h0' hl'.1 hl'.2.1 hl'.2.2.1
    exact ⟨x, y.opz⟩)
  exact ⟨fun _ => q.1, q.2⟩
theorem tt_doubt (har0 : xar 331 xPR = some 1) : TT sv L 331 := by
  intro c g g' al r r' n n' lf lf' hP _ har _ h0 hl h h0' hl' h'
  obtain ⟨hR, -, -, hf, hf', -⟩ := hP
  obtain ⟨a, rfl⟩ := al1 (har0.symm.trans har)
  have q := op_tt hR hf hf' (fun np nq N hC hG _ => by
    obtain ⟨x, y⟩ := dbt_op hC hG h h0 hl.1 h' h0' hl'.1
    exact ⟨x, y.opz⟩)
  exact ⟨fun _ => q.1, q.2⟩
theorem tt_knows (har0 : xar 285 xPR = some 2) : TT sv L 285 := by
  intro c g g' al r r' n n' lf lf' hP _ har _ h0 hl h h0' hl' h'
  obtain ⟨hR, -, -, hf, hf', -⟩ := hP
  obtain ⟨a, b, rfl⟩ := al2 (har0.symm.trans har)
  have q := op_tt hR hf hf' (fun np nq N hC hG _ => by
    obtain ⟨x, y⟩ := knw_op hC hG h h0 hl.1 hl.2.1 h' h0' hl'.1 hl'.2.1
    exact ⟨x, y.opz⟩)
  exact ⟨fun _ => q.1, q.2⟩
theorem tt_known (har0 : xar 289 xPR = some 2) : TT sv L 289 := by
  intro c g g' al r r' n n' lf lf' hP _ har _ h0 hl h h0' hl' h'
  obtain ⟨hR, -, -, hf, hf', -⟩ := hP
  obtain ⟨a, b, rfl⟩ := al2 (har0.symm.trans har)
  have q := op_tt hR hf hf' (fun np nq N hC hG _ => by
    obtain ⟨x, y⟩ := kwn_op hC hG h h0 hl.1 hl.2.1 h' h0' hl'.1 hl'.2.1
    exact ⟨x, y.opz⟩)
  exact ⟨fun _ => q.1, q.2⟩
theorem tt_liars (har0 : xar 355 xPR = some 1) : TT sv L 355 := by
  intro c g g' al r r' n n' lf lf' hP _ har _ h0 hl h h0' hl' h'
  obtain ⟨hR, -, -, hf, hf', -⟩ := hP
  obtain ⟨a, rfl⟩ := al1 (har0.symm.trans har)
  have q := op_tt hR hf hf' (fun np nq N hC hG _ => by
    obtain ⟨x, y⟩ := lia_op hC hG h h0 hl.1 h' h0' hl'.1
    exact ⟨x, y.opz⟩)
  exact ⟨fun _ => q.1, q.2⟩
theorem tt_word (har0 : xar 353 xPR = some 2) : TT sv L 353 := by
  intro c g g' al r r' n n' lf lf' hP _ har _ h0 hl h h0' hl' h'
  obtain ⟨hR, -, -, hf, hf', -⟩ := hP
  obtain ⟨a, b, rfl⟩ := al2 (har0.symm.trans har)
  have q := op_tt hR hf hf' (fun np nq N hC hG _ => by
    obtain ⟨x, y⟩ := wrd_op hC hG h h0 hl.1 hl.2.1 h' h0' hl'.1 hl'.2.1
    exact ⟨x, y.opz⟩)
  exact ⟨fun _ => q.1, q.2⟩
theorem tt_oath (har0 : xar 291 xPR = some 2) : TT sv L 291 := by
  intro c g g' al r r' n n' lf lf' hP _ har _ h0 hl h h0' hl' h'
  obtain ⟨hR, -, -, hf, hf', -⟩ := hP
  obtain ⟨a, b, rfl⟩ := al2 (har0.symm.trans har)
  have q := op_tt hR hf hf' (fun np nq N hC hG _ => by
    obtain ⟨x, y⟩ := oth_op hC hG h h0 hl.1 hl.2.1 h' h0' hl'.1 hl'.2.1
    exact ⟨x, y.opz⟩)
  exact ⟨fun _ => q.1, q.2⟩
theorem tt_kin (har0 : xar 287 xPR = some 1) : TT sv L 287 := by
  intro c g g' al r r' n n' lf lf' hP _ har _ h0 hl h h0' hl' h'
  obtain ⟨hR, -, -, hf, hf', -⟩ := hP
  obtain ⟨a, rfl⟩ := al1 (har0.symm.trans har)
  have q := op_tt hR hf hf' (fun np nq N hC hG _ => by
    obtain ⟨x, y⟩ := kin_op hC hG h h0 hl.1 h' h0' hl'.1
    exact ⟨x, y.opz⟩)
  exact ⟨fun _ => q.1, q.2⟩
theorem tt_person (har0 : xar 283 xPR = some 2) : TT sv L 283 := by
  intro c g g' al r r' n n' lf lf' hP _ har _ h0 hl h h0' hl' h'
  obtain ⟨hR, -, -, hf, hf', -⟩ := hP
  obtain ⟨a, b, rfl⟩ := al2 (har0.symm.trans har)
  have q := op_tt hR hf hf' (fun np nq N hC hG _ => by
    obtain ⟨x, y⟩ := prs_op hC hG h h0 hl.1 hl.2.1 h' h0' hl'.1 hl'.2.1
    exact ⟨x, y.opz⟩)
  exact ⟨fun _ => q.1, q.2⟩
theorem tt_told (har0 : xar 279 xPR = some 1) : TT sv L 279 := by
  intro c g g' al r r' n n' lf lf' hP _ har _ h0 hl h h0' hl' h'
  obtain ⟨hR, -, -, hf, hf', -⟩ := hP
  obtain ⟨a, rfl⟩ := al1 (har0.symm.trans har)
  have q := op_tt hR hf hf' (fun np nq N hC hG _ => by
    obtain ⟨x, y⟩ := tld_op hC hG h h0 hl.1 h' h0' hl'.1
    exact ⟨x, y.opz⟩)
  exact ⟨fun _ => q.1, q.2⟩
theorem tt_liar (har0 : xar 347 xPR = some 0) : TT sv L 347 := by
  intro c g g' al r r' n n' lf lf' hP _ har _ h0 hl h h0' hl' h'
  obtain ⟨hR, -, -, hf, hf', -⟩ := hP
  have ea := al0 (har0.symm.trans har)
  subst ea
  have q := op_tt hR hf hf' (fun np nq N hC hG _ => by
    obtain ⟨x, y⟩ := lir_op hC hG h h0  h' h0' 
    exact ⟨x, y.opz⟩)
  exact ⟨fun _ => q.1, q.2⟩
theorem tt_doubted (har0 : xar 349 xPR = some 0) : TT sv L 349 := by
  intro c g g' al r r' n n' lf lf' hP _ har _ h0 hl h h0' hl' h'
  obtain ⟨hR, -, -, hf, hf', -⟩ := hP
  have ea := al0 (har0.symm.trans har)
  subst ea
  have q := op_tt hR hf hf' (fun np nq N hC hG _ => by
    obtain ⟨x, y⟩ := dbd_op hC hG h h0  h' h0' 
    exact ⟨x, y.opz⟩)
  exact ⟨fun _ => q.1, q.2⟩
theorem tt_believed (har0 : xar 333 xPR = some 2) : TT sv L 333 := by
  intro c g g' al r r' n n' lf lf' hP _ har _ h0 hl h h0' hl' h'
  obtain ⟨hR, -, -, hf, hf', -⟩ := hP
  obtain ⟨a, b, rfl⟩ := al2 (har0.symm.trans har)
  have q := op_tt hR hf hf' (fun np nq N hC hG _ => by
    obtain ⟨x, y⟩ := blv_op hC hG h h0 hl.1 hl.2.1 h' h0' hl'.1 hl'.2.1
    exact ⟨x, y.opz⟩)
  exact ⟨fun _ => q.1, q.2⟩
theorem tt_sayable (har0 : xar 343 xPR = some 2) : TT sv L 343 := by
  intro c g g' al r r' n n' lf lf' hP _ har _ h0 hl h h0' hl' h'
  obtain ⟨hR, -, -, hf, hf', -⟩ := hP
  obtain ⟨a, b, rfl⟩ := al2 (har0.symm.trans har)
  have q := op_tt hR hf hf' (fun np nq N hC hG _ => by
    obtain ⟨x, y⟩ := syb_op hC hG h h0 hl.1 hl.2.1 h' h0' hl'.1 hl'.2.1
    exact ⟨x, y.opz⟩)
  exact ⟨fun _ => q.1, q.2⟩
theorem tt_dearest (har0 : xar 345 xPR = some 2) : TT sv L 345 := by
  intro c g g' al r r' n n' lf lf' hP _ har _ h0 hl h h0' hl' h'
  obtain ⟨hR, -, -, hf, hf', -⟩ := hP
  obtain ⟨a, b, rfl⟩ := al2 (har0.symm.trans har)
  have q := op_tt hR hf hf' (fun np nq N hC hG _ => by
    obtain ⟨x, y⟩ := dea_op hC hG h h0 hl.1 hl.2.1 h' h0' hl'.1 hl'.2.1
    exact ⟨x, y.opz⟩)
  exact ⟨fun _ => q.1, q.2⟩
theorem tt_fits (har0 : xar 315 xPR = some 2) : TT sv L 315 := by
  intro c g g' al r r' n n' lf lf' hP _ har _ h0 hl h h0' hl' h'
  obtain ⟨hR, -, -, hf, hf', -⟩ := hP
  obtain ⟨a, b, rfl⟩ := al2 (har0.symm.trans har)
  have q := op_tt hR hf hf' (fun np nq N hC hG _ => by
    obtain ⟨x, y⟩ := fts_op hC hG h h0 hl.1 hl.2.1 h' h0' hl'.1 hl'.2.1
    exact ⟨x, y.opz⟩)
  exact ⟨fun _ => q.1, q.2⟩
theorem tt_clashes (har0 : xar 329 xPR = some 1) : TT sv L 329 := by
  intro c g g' al r r' n n' lf lf' hP _ har _ h0 hl h h0' hl' h'
  obtain ⟨hR, -, -, hf, hf', -⟩ := hP
  obtain ⟨a, rfl⟩ := al1 (har0.symm.trans har)
  have q := op_tt hR hf hf' (fun np nq N hC hG _ => by
    obtain ⟨x, y⟩ := cla_op hC hG h h0 hl.1 h' h0' hl'.1
    exact ⟨x, y.opz⟩)
  exact ⟨fun _ => q.1, q.2⟩
theorem tt_canBe (har0 : xar 319 xPR = some 2) : TT sv L 319 := by
  intro c g g' al r r' n n' lf lf' hP _ har _ h0 hl h h0' hl' h'
  obtain ⟨hR, -, -, hf, hf', -⟩ := hP
  obtain ⟨a, b, rfl⟩ := al2 (har0.symm.trans har)
  have q := op_tt hR hf hf' (fun np nq N hC hG _ => by
    obtain ⟨x, y⟩ := cbe_op hC hG h h0 hl.1 hl.2.1 h' h0' hl'.1 hl'.2.1
    exact ⟨x, y.opz⟩)
  exact ⟨fun _ => q.1, q.2⟩
theorem tt_live (har0 : xar 361 xPR = some 1) : TT sv L 361 := by
  intro c g g' al r r' n n' lf lf' hP _ har _ h0 hl h h0' hl' h'
  obtain ⟨hR, -, -, hf, hf', -⟩ := hP
  obtain ⟨a, rfl⟩ := al1 (har0.symm.trans har)
  have q := op_tt hR hf hf' (fun np nq N hC hG hT => by
    obtain ⟨x, y, ⟨f1, f2⟩, g1, g2, g3⟩ := live_op hC hG hT h h0 hl.1 h' h0' hl'.1
    exact ⟨x, y, ⟨fun k j i1 i2 i3 => f1 k j (by omega) (by omega) i3, f2⟩, ⟨fun j => g1 _ _ (by omega) (by omega) (by omega), g3⟩, g2⟩)
  exact ⟨fun _ => q.1, q.2⟩
end Otp
