/-! fault: what both programs have kept of the latest text -/
section Flt
variable {sv : Nat → Int32} {L : Nat}
theorem RF.two {z : Nat} {c g g' : cg} (hP : PT z c g g') (h : RF c) : RF2 c g := by
  obtain ⟨-, -, -, hf, -, -⟩ := hP
  exact ⟨by rw [hf 253 (by omega) (by omega)]; exact h.1, by rw [hf 253 (by omega) (by omega)]; exact h.2⟩
theorem RF2.one {z : Nat} {c g g' : cg} (hP : PT z c g g') (h : RF2 g g') : RF g' := by
  obtain ⟨-, -, -, -, hf', -⟩ := hP
  exact ⟨by rw [hf' 88 (by omega)]; exact h.1, by rw [hf' 88 (by omega)]; exact h.2⟩
theorem tt_fault : TT sv L 277 := by
  intro c g g' al r r' n n' lf lf' hP hF har _ h0 hl h h0' hl' h'
  obtain ⟨hR, -, -, hf, hf', -⟩ := hP
  obtain ⟨a, rfl⟩ := al1 har
  obtain ⟨b1, b2⟩ := hF rfl
  have h := t_fault h h0 hl.1
  have h' := m_fault h' h0' hl'.1
  have q : ∀ j : Nat, g 253 j = c 253 j := fun j => by rw [hf 253 (by omega) (by omega)]
  rcases h with ⟨x, ⟨y, o⟩ | ⟨y, o⟩⟩ | ⟨x, o⟩
  · rcases h' with ⟨x', ⟨y', o'⟩ | ⟨y', o'⟩⟩ | ⟨x', o'⟩
    · obtain ⟨u1, u2⟩ := oI o
      obtain ⟨v1, v2⟩ := oI o'
      exact ⟨fun _ => by rw [v1, u1]; exact hR, by omega⟩
    · exact absurd y' y
    · exact absurd x' x
  · rcases h' with ⟨x', ⟨y', o'⟩ | ⟨y', o'⟩⟩ | ⟨x', o'⟩
    · exact absurd y y'
    · obtain ⟨u1, u2⟩ := oI o
      obtain ⟨v1, v2⟩ := oI o'
      exact ⟨fun _ => by rw [v1, u1]; exact hR, by rw [u2, v2, q]; exact b2⟩
    · exact absurd x' x
  · rcases h' with ⟨x', -⟩ | ⟨x', o'⟩
    · exact absurd x x'
    · obtain ⟨u1, u2⟩ := oI o
      obtain ⟨v1, v2⟩ := oI o'
      exact ⟨fun _ => by rw [v1, u1]; exact hR, by rw [u2, v2, q]; exact b1⟩
theorem tf_court : TF sv L 273 := by
  intro c g g' al r r' n n' lf lf' hP hF har _ h0 hl h h0' hl' h'
  have hT := hF.two hP
  have hPRE := hP.2.2.2.2.2.2.2 rfl
  refine RF2.one hP ?_
  obtain ⟨a, rfl⟩ := al1 har
  exact court_rf hPRE h h0 hl.1 h' h0' hl'.1 hT
theorem tf_trials : TF sv L 275 := by
  intro c g g' al r r' n n' lf lf' hP hF har _ h0 hl h h0' hl' h'
  have hT := hF.two hP
  have hPRE := hP.2.2.2.2.2.2.2 rfl
  refine RF2.one hP ?_
  obtain ⟨hR, -, -, hf, -⟩ := hP
  obtain ⟨a, rfl⟩ := al1 har
  obtain ⟨np, nq, w1, ⟨a1, a2, a3, a4⟩, w3, w4, w5⟩ := hR.1
  have hW : WN c g np nq := ⟨w1, ⟨a1, by rw [hf 254 (by omega) (by omega)]; exact a2, a3, by rw [hf 254 (by omega) (by omega)]; exact a4⟩, fun i hi => by rw [hf 255 (by omega) (by omega)]; exact w3 i hi, fun i hi => by
    have := w4 i hi
    rw [hf 255 (by omega) (by omega)]
    rw [show 3 + 14 + 2 * i = 17 + 2 * i by omega, show 0 + 5 + i = 5 + i by omega] at this
    exact this⟩
  exact trials_rf hPRE hW h h0 hl.1 h' h0' hl'.1 hT
theorem tf_fault : TF sv L 277 := by
  intro c g g' al r r' n n' lf lf' hP hF har _ h0 hl h h0' hl' h'
  obtain ⟨a, rfl⟩ := al1 har
  have e : g = c := by
    rcases t_fault h h0 hl.1 with ⟨x, ⟨y, o⟩ | ⟨y, o⟩⟩ | ⟨x, o⟩ <;> exact (oI o).1
  have e' : g' = g := by
    rcases m_fault h' h0' hl'.1 with ⟨x, ⟨y, o⟩ | ⟨y, o⟩⟩ | ⟨x, o⟩ <;> exact (oI o).1
  rw [e', e]
  exact hF
theorem tf_all {z : Nat} (h : xrf z = true) : TF sv L z := by
  rcases xcnt (show cond (xtr z) true (Nat.beq z 277) = true from h) with h | h
  · rcases xcnt (show cond (Nat.beq z 273) true (Nat.beq z 275) = true from h) with h | h
    · rw [xeqb h]; exact tf_court
    · rw [xeqb h]; exact tf_trials
  · rw [xeqb h]; exact tf_fault
end Flt
