section Rv
variable {sv : Nat → Int32} {L pc : Nat} {lf : dlf} {st : List cv} {g : cg}
/-! the kind of what a method answers -/
def zk (i : Instr) : Nat := match i with
  | .return_ => 0
  | .ireturn => 1
  | .lreturn => 2
  | _ => 3
noncomputable def zkc (k : Nat) (t : Lean.RArray (Nat × xins)) : Bool := xall t (fun _ e => cond (Nat.beq (zk e.1) k) true (Nat.beq (zk e.1) 3))
def zsh (k : Nat) (rv : Option cv) : Prop := match k with
  | 0 => rv = none
  | 1 => ∃ z, rv = some (0, z)
  | _ => ∃ z, rv = some (2, z)
set_option maxHeartbeats 40000000 in
theorem dnx_rv {i : Instr} {nx tg r1 r2 : Nat} {rv : Option cv} (h : dnx xh2 sv xmeth (xel L) xeb i nx tg r1 r2 pc lf st g = some (.inr (.inl rv))) : zk i ≠ 3 ∧ zsh (zk i) rv := by
  have nn : ∀ {w : dO}, (none : Option dO) ≠ some w := by intro w h; cases h
  have nxt : ∀ {a : Nat} {b : dlf} {s : List cv} {g' : cg}, dnxt a b s g' ≠ some (.inr (.inl rv)) := by
    intro a b s g' h
    unfold dnxt at h
    cases h
  have two : ∀ {f : List cv → Option dO} {s : List cv}, (f [] = none) → (∀ a, f [a] = none) → (∀ a b r, ∃ x y z w, f (a :: b :: r) = dnxt x y z w) → f s ≠ some (.inr (.inl rv)) := by
    intro f s h0 h1 h2 h
    match s, h with
    | [], h => rw [h0] at h; exact nn h
    | [a], h => rw [h1] at h; exact nn h
    | a :: b :: r, h =>
      obtain ⟨x, y, z, w, e⟩ := h2 a b r
      rw [e] at h
      exact nxt h
  have one : ∀ {f : List cv → Option dO} {s : List cv}, (f [] = none) → (∀ a r, ∃ x y z w, f (a :: r) = dnxt x y z w) → f s ≠ some (.inr (.inl rv)) := by
    intro f s h0 h2 h
    match s, h with
    | [], h => rw [h0] at h; exact nn h
    | a :: r, h =>
      obtain ⟨x, y, z, w, e⟩ := h2 a r
      rw [e] at h
      exact nxt h
  have sto : ∀ {a b : Nat} {s : List cv}, d_sto a b lf s g ≠ some (.inr (.inl rv)) := one (f := fun s => d_sto _ _ lf s g) rfl (fun a r => ⟨_, _, _, _, rfl⟩)
  have bi : ∀ {F : Int32 → Int32 → Int32} {a : Nat} {s : List cv}, d_bi F a lf s g ≠ some (.inr (.inl rv)) := two (f := fun s => d_bi _ _ lf s g) rfl (fun _ => rfl) (fun a b r => ⟨_, _, _, _, rfl⟩)
  have bl : ∀ {F : Int64 → Int64 → Int64} {a : Nat} {s : List cv}, d_bl F a lf s g ≠ some (.inr (.inl rv)) := two (f := fun s => d_bl _ _ lf s g) rfl (fun _ => rfl) (fun a b r => ⟨_, _, _, _, rfl⟩)
  have sl : ∀ {F : Int64 → Int32 → Int64} {a : Nat} {s : List cv}, d_sl F a lf s g ≠ some (.inr (.inl rv)) := two (f := fun s => d_sl _ _ lf s g) rfl (fun _ => rfl) (fun a b r => ⟨_, _, _, _, rfl⟩)
  have adi : ∀ {F : Int → Int → Int} {a : Nat} {s : List cv}, d_adi F a lf s g ≠ some (.inr (.inl rv)) := two (f := fun s => d_adi _ _ lf s g) rfl (fun _ => rfl) (fun a b r => ⟨_, _, _, _, rfl⟩)
  have adl : ∀ {F : Int → Int → Int} {a : Nat} {s : List cv}, d_adl F a lf s g ≠ some (.inr (.inl rv)) := two (f := fun s => d_adl _ _ lf s g) rfl (fun _ => rfl) (fun a b r => ⟨_, _, _, _, rfl⟩)
  have ui : ∀ {F : Int32 → Int32} {a : Nat} {s : List cv}, d_ui F a lf s g ≠ some (.inr (.inl rv)) := one (f := fun s => d_ui _ _ lf s g) rfl (fun a r => ⟨_, _, _, _, rfl⟩)
  have nul : ∀ {a b : Nat} {t : Bool} {s : List cv}, d_nul a b t lf s g ≠ some (.inr (.inl rv)) := one (f := fun s => d_nul _ _ _ lf s g) rfl (fun a r => ⟨_, _, _, _, rfl⟩)
  have ald : ∀ {a b : Nat} {s : List cv}, d_ald xh2 sv xeb a b lf s g ≠ some (.inr (.inl rv)) := two (f := fun s => d_ald xh2 sv xeb _ _ lf s g) rfl (fun _ => rfl) (fun a b r => ⟨_, _, _, _, rfl⟩)
  have ast : ∀ {a b : Nat} {s : List cv}, d_ast a b lf s g ≠ some (.inr (.inl rv)) := by
    intro a b s h
    match s, h with
    | [], h => exact nn h
    | [_], h => exact nn h
    | [_, _], h => exact nn h
    | _ :: _ :: _ :: _, h => exact nxt h
  have call : ∀ {a : Nat} {b : Bool} {s : List cv}, d_call xmeth a b s ≠ some (.inr (.inl rv)) := by
    intro a b s h
    unfold d_call at h
    split at h
    · exact nn h
    · split at h
      · exact nn h
      · cases h
  have rvq : ∀ {k : Nat} {s : List cv}, d_rv k s = some (.inr (.inl rv)) → ∃ z, rv = some (k, z) := by
    intro k s h
    match s, h with
    | [], h => exact (nn h).elim
    | [v], h =>
      have h : (some (.inr (.inl (some (k, v.2)))) : Option dO) = some (.inr (.inl rv)) := h
      exact ⟨v.2, (Sum.inl.inj (Sum.inr.inj (Option.some.inj h))).symm⟩
    | _ :: _ :: _, h => exact (nn h).elim
  have cpy : d_cpy nx lf st g ≠ some (.inr (.inl rv)) := by
    intro h
    match st, h with
    | [], h => exact nn h
    | [_], h => exact nn h
    | [_, _], h => exact nn h
    | [_, _, _], h => exact nn h
    | [_, _, _, _], h => exact nn h
    | _ :: _ :: _ :: _ :: _ :: _, h => exact nxt h
  cases i
  case return_ => exact ⟨by decide, by
    have h : (some (.inr (.inl none)) : Option dO) = some (.inr (.inl rv)) := h
    exact (Sum.inl.inj (Sum.inr.inj (Option.some.inj h))).symm⟩
  case ireturn => exact ⟨by decide, rvq h⟩
  case lreturn => exact ⟨by decide, rvq h⟩
  case dup2 =>
    match st, h with
    | [], h => exact (nn h).elim
    | [a], h =>
      have h : cond (Nat.beq (xkd a.1) 1) (dnxt nx lf [a, a] g) none = some (.inr (.inl rv)) := h
      cases hb : Nat.beq (xkd a.1) 1 with
      | true => rw [hb] at h; exact (nxt h).elim
      | false => rw [hb] at h; exact (nn h).elim
    | a :: b :: r, h =>
      have h : cond (Nat.beq (xkd a.1) 1) (dnxt nx lf (a :: a :: b :: r) g) (dnxt nx lf (a :: b :: a :: b :: r) g) = some (.inr (.inl rv)) := h
      cases hb : Nat.beq (xkd a.1) 1 with
      | true => rw [hb] at h; exact (nxt h).elim
      | false => rw [hb] at h; exact (nxt h).elim
  case ldc =>
    have h : cond (Nat.beq r2 0) (dnxt nx lf ((0, w32 (r1 : Int)) :: st) g) (cond (Nat.beq r2 1) (dnxt nx lf ((6, 1) :: st) g) (dnxt nx lf ((6, 3) :: st) g)) = some (.inr (.inl rv)) := h
    cases h1 : Nat.beq r2 0 with
    | true => rw [h1] at h; exact (nxt h).elim
    | false =>
      cases h2 : Nat.beq r2 1 with
      | true => rw [h1, h2] at h; exact (nxt h).elim
      | false => rw [h1, h2] at h; exact (nxt h).elim
  case getstatic =>
    have h : cond (Nat.beq r1 0) (dnxt nx lf ((0, 1) :: st) g) (dnxt nx lf ((10, 0) :: st) g) = some (.inr (.inl rv)) := h
    cases h1 : Nat.beq r1 0 with
    | true => rw [h1] at h; exact (nxt h).elim
    | false => rw [h1] at h; exact (nxt h).elim
  case invokestatic =>
    have h : cond (Nat.beq r2 8) (d_cpy nx lf st g) (d_call xmeth r1 false st) = some (.inr (.inl rv)) := h
    cases h1 : Nat.beq r2 8 with
    | true => rw [h1] at h; exact (cpy h).elim
    | false => rw [h1] at h; exact (call h).elim
  case tableswitch a b c f =>
    match st, h with
    | [], h => exact (nn h).elim
    | z :: r, h =>
      have h : (match xts a b c f pc z.2 with
        | none => none
        | some t => dnxt t lf r g) = some (.inr (.inl rv)) := h
      cases hx : xts a b c f pc z.2 with
      | none => rw [hx] at h; exact (nn h).elim
      | some t => rw [hx] at h; exact (nxt h).elim
  all_goals first
    | exact absurd h nxt
    | exact absurd h nn
    | exact absurd h sto
    | exact absurd h bi
    | exact absurd h bl
    | exact absurd h adi
    | exact absurd h adl
    | exact absurd h sl
    | exact absurd h ui
    | exact absurd h nul
    | exact absurd h ald
    | exact absurd h ast
    | exact absurd h call
    | (cases st with
      | nil => exact absurd h nn
      | cons a r => exact absurd h nxt)
    | (cases st with
      | nil => exact absurd h nn
      | cons a r => cases r with
        | nil => exact absurd h nn
        | cons b r => exact absurd h nxt)
end Rv
