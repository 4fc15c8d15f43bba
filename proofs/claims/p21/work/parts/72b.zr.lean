section
/-! What a run says, read off instruction by instruction -/
noncomputable def zr (sv : Nat → Int32) (L n y pc : Nat) (lf : dlf) (st : List cv) (g : cg) (o : cg × Option cv) : Prop := dv xcode xh2 sv xmeth (xel L) xeb n y pc lf st g = some o
noncomputable def dm (sv : Nat → Int32) (L : Nat) (t : Lean.RArray (Nat × xins)) : Nat → Nat → dlf → List cv → cg → Option (Nat × dlf × List cv × cg)
  | 0, pc, lf, st, g => some (pc, lf, st, g)
  | k + 1, pc, lf, st, g => match xg t pc with
    | none => none
    | some e => match dnx xh2 sv xmeth (xel L) xeb e.1 e.2.1 e.2.2.1 e.2.2.2.1 e.2.2.2.2 pc lf st g with
      | some (.inl q) => dm sv L t k q.1 q.2.1 q.2.2.1 q.2.2.2
      | _ => none
section Z
variable {sv : Nat → Int32} {L n y pc : Nat} {t tz : Lean.RArray (Nat × xins)} {lf : dlf} {st : List cv} {g : cg} {o : cg × Option cv} {e : xins}
theorem zr_0 (h : zr sv L 0 y pc lf st g o) : False := by cases h
theorem zr_m (h : zr sv L n y pc lf st g o) : zr sv L (n + 1) y pc lf st g o := dv_mono1 _ _ _ _ _ _ _ h
theorem zs1 (hy : xg xcode y = some t) (he : xg t pc = some e) {q : Nat × dlf × List cv × cg} (hd : dnx xh2 sv xmeth (xel L) xeb e.1 e.2.1 e.2.2.1 e.2.2.2.1 e.2.2.2.2 pc lf st g = some (.inl q)) (h : zr sv L (n + 1) y pc lf st g o) : zr sv L n y q.1 q.2.1 q.2.2.1 q.2.2.2 o := by
  unfold zr at h
  rw [dv_at ⟨t, hy, he⟩, hd] at h
  exact h
theorem zs (hy : xg xcode y = some t) (he : xg t pc = some e) {q : Nat × dlf × List cv × cg} (hd : dnx xh2 sv xmeth (xel L) xeb e.1 e.2.1 e.2.2.1 e.2.2.2.1 e.2.2.2.2 pc lf st g = some (.inl q)) (h : zr sv L n y pc lf st g o) : zr sv L n y q.1 q.2.1 q.2.2.1 q.2.2.2 o := by
  cases n with
  | zero => exact (zr_0 h).elim
  | succ n => exact zr_m (zs1 hy he hd h)
theorem zm0 (hy : xg xcode y = some t) : ∀ (k : Nat) {pc : Nat} {lf : dlf} {st : List cv} {g : cg} {q : Nat × dlf × List cv × cg}, dm sv L t k pc lf st g = some q → zr sv L n y pc lf st g o → zr sv L n y q.1 q.2.1 q.2.2.1 q.2.2.2 o
  | 0, pc, lf, st, g, q, hm, h => by
    have e : (pc, lf, st, g) = q := Option.some.inj hm
    rw [← e]
    exact h
  | k + 1, pc, lf, st, g, q, hm, h => by
    have hm : (match xg t pc with
      | none => none
      | some e => match dnx xh2 sv xmeth (xel L) xeb e.1 e.2.1 e.2.2.1 e.2.2.2.1 e.2.2.2.2 pc lf st g with
        | some (.inl q) => dm sv L t k q.1 q.2.1 q.2.2.1 q.2.2.2
        | _ => none) = some q := hm
    cases he : xg t pc with
    | none => rw [he] at hm; cases hm
    | some e =>
      rw [he] at hm
      dsimp only at hm
      cases hd : dnx xh2 sv xmeth (xel L) xeb e.1 e.2.1 e.2.2.1 e.2.2.2.1 e.2.2.2.2 pc lf st g with
      | none => rw [hd] at hm; cases hm
      | some w =>
        rw [hd] at hm
        cases w with
        | inr w => cases hm
        | inl w => exact zm0 hy k hm (zs hy he hd h)
theorem zm (hy : xg xcode y = some t) (h : zr sv L n y pc lf st g o) (k : Nat) {q : Nat × dlf × List cv × cg} (hm : dm sv L t k pc lf st g = some q) : zr sv L n y q.1 q.2.1 q.2.2.1 q.2.2.2 o := zm0 hy k hm h
/-- the same, one less left -/
theorem zm1 (hy : xg xcode y = some t) (h : zr sv L (n + 1) y pc lf st g o) (k : Nat) {q : Nat × dlf × List cv × cg} (hm : dm sv L t (k + 1) pc lf st g = some q) : zr sv L n y q.1 q.2.1 q.2.2.1 q.2.2.2 o := by
  have hm : (match xg t pc with
    | none => none
    | some e => match dnx xh2 sv xmeth (xel L) xeb e.1 e.2.1 e.2.2.1 e.2.2.2.1 e.2.2.2.2 pc lf st g with
      | some (.inl q) => dm sv L t k q.1 q.2.1 q.2.2.1 q.2.2.2
      | _ => none) = some q := hm
  cases he : xg t pc with
  | none => rw [he] at hm; cases hm
  | some e =>
    rw [he] at hm
    dsimp only at hm
    cases hd : dnx xh2 sv xmeth (xel L) xeb e.1 e.2.1 e.2.2.1 e.2.2.2.1 e.2.2.2.2 pc lf st g with
    | none => rw [hd] at hm; cases hm
    | some w =>
      rw [hd] at hm
      cases w with
      | inr w => cases hm
      | inl w => exact zm0 hy k hm (zs1 hy he hd h)
theorem zret (hy : xg xcode y = some t) (h : zr sv L n y pc lf st g o) (he : xg t pc = some e) {rv : Option cv} (hd : dnx xh2 sv xmeth (xel L) xeb e.1 e.2.1 e.2.2.1 e.2.2.2.1 e.2.2.2.2 pc lf st g = some (.inr (.inl rv))) : o = (g, rv) := by
  cases n with
  | zero => exact (zr_0 h).elim
  | succ n =>
    unfold zr at h
    rw [dv_at ⟨t, hy, he⟩, hd] at h
    exact (Option.some.inj h).symm
theorem zcall (hy : xg xcode y = some t) (h : zr sv L n y pc lf st g o) (he : xg t pc = some e) {q : List cv × List cv} (hd : dnx xh2 sv xmeth (xel L) xeb e.1 e.2.1 e.2.2.1 e.2.2.2.1 e.2.2.2.2 pc lf st g = some (.inr (.inr q))) : ∃ o1, zr sv L n e.2.2.2.1 0 (darg 0 q.1) [] g o1 ∧ zr sv L n y e.2.1 lf (cpsh o1.2 q.2) o1.1 o := by
  cases n with
  | zero => exact (zr_0 h).elim
  | succ n =>
    unfold zr at h
    rw [dv_at ⟨t, hy, he⟩, hd] at h
    have h : (match dv xcode xh2 sv xmeth (xel L) xeb n e.2.2.2.1 0 (darg 0 q.1) [] g with
      | none => none
      | some o => dv xcode xh2 sv xmeth (xel L) xeb n y e.2.1 lf (cpsh o.2 q.2) o.1) = some o := h
    cases h1 : dv xcode xh2 sv xmeth (xel L) xeb n e.2.2.2.1 0 (darg 0 q.1) [] g with
    | none => rw [h1] at h; cases h
    | some o1 =>
      rw [h1] at h
      exact ⟨o1, zr_m h1, zr_m h⟩
theorem zshape (hy : xg xcode y = some t) {k : Nat} (hk : zkc k t = true) : ∀ {n pc : Nat} {lf : dlf} {st : List cv} {g : cg} {o : cg × Option cv}, zr sv L n y pc lf st g o → zsh k o.2
  | 0, _, _, _, _, _, h => (zr_0 h).elim
  | n + 1, pc, lf, st, g, o, h => by
    have h0 : dstep xcode xh2 sv xmeth (xel L) xeb (dv xcode xh2 sv xmeth (xel L) xeb n) y pc lf st g = some o := h
    unfold dstep at h0
    rw [hy] at h0
    dsimp only at h0
    cases he : xg t pc with
    | none => rw [he] at h0; cases h0
    | some e =>
      rw [he] at h0
      dsimp only at h0
      cases hd : dnx xh2 sv xmeth (xel L) xeb e.1 e.2.1 e.2.2.1 e.2.2.2.1 e.2.2.2.2 pc lf st g with
      | none => rw [hd] at h0; cases h0
      | some w =>
        rw [hd] at h0
        match w, hd, h0 with
        | .inl q, hd, h0 => exact zshape hy hk h0
        | .inr (.inl rv), hd, h0 =>
          have e1 : (g, rv) = o := Option.some.inj h0
          rw [← e1]
          have hq := xall_get t _ hk pc e he
          obtain ⟨a1, a2⟩ := dnx_rv hd
          have : zk e.1 = k := by
            rcases xcnt hq with q | q
            · exact xeqb q
            · exact absurd (xeqb q) a1
          rw [← this]
          exact a2
        | .inr (.inr q), hd, h0 =>
          have h0 : (match dv xcode xh2 sv xmeth (xel L) xeb n e.2.2.2.1 0 (darg 0 q.1) [] g with
            | none => none
            | some o => dv xcode xh2 sv xmeth (xel L) xeb n y e.2.1 lf (cpsh o.2 q.2) o.1) = some o := h0
          cases h1 : dv xcode xh2 sv xmeth (xel L) xeb n e.2.2.2.1 0 (darg 0 q.1) [] g with
          | none => rw [h1] at h0; cases h0
          | some o1 =>
            rw [h1] at h0
            exact zshape hy hk h0
theorem zcallI (hy : xg xcode y = some t) (h : zr sv L n y pc lf st g o) (he : xg t pc = some e) {q : List cv × List cv} (hd : dnx xh2 sv xmeth (xel L) xeb e.1 e.2.1 e.2.2.1 e.2.2.2.1 e.2.2.2.2 pc lf st g = some (.inr (.inr q))) (hz : xg xcode e.2.2.2.1 = some tz) (hk : zkc 1 tz = true) : ∃ g1 r, zr sv L n e.2.2.2.1 0 (darg 0 q.1) [] g (g1, some (0, r)) ∧ zr sv L n y e.2.1 lf ((0, r) :: q.2) g1 o := by
  obtain ⟨⟨g1, rv⟩, h1, h2⟩ := zcall hy h he hd
  obtain ⟨z, hz⟩ := zshape hz hk h1
  have hz : rv = some (0, z) := hz
  subst hz
  exact ⟨g1, z, h1, h2⟩
theorem zcallL (hy : xg xcode y = some t) (h : zr sv L n y pc lf st g o) (he : xg t pc = some e) {q : List cv × List cv} (hd : dnx xh2 sv xmeth (xel L) xeb e.1 e.2.1 e.2.2.1 e.2.2.2.1 e.2.2.2.2 pc lf st g = some (.inr (.inr q))) (hz : xg xcode e.2.2.2.1 = some tz) (hk : zkc 2 tz = true) : ∃ g1 r, zr sv L n e.2.2.2.1 0 (darg 0 q.1) [] g (g1, some (2, r)) ∧ zr sv L n y e.2.1 lf ((2, r) :: q.2) g1 o := by
  obtain ⟨⟨g1, rv⟩, h1, h2⟩ := zcall hy h he hd
  obtain ⟨z, hz⟩ := zshape hz hk h1
  have hz : rv = some (2, z) := hz
  subst hz
  exact ⟨g1, z, h1, h2⟩
theorem zcallV (hy : xg xcode y = some t) (h : zr sv L n y pc lf st g o) (he : xg t pc = some e) {q : List cv × List cv} (hd : dnx xh2 sv xmeth (xel L) xeb e.1 e.2.1 e.2.2.1 e.2.2.2.1 e.2.2.2.2 pc lf st g = some (.inr (.inr q))) (hz : xg xcode e.2.2.2.1 = some tz) (hk : zkc 0 tz = true) : ∃ g1, zr sv L n e.2.2.2.1 0 (darg 0 q.1) [] g (g1, none) ∧ zr sv L n y e.2.1 lf q.2 g1 o := by
  obtain ⟨⟨g1, rv⟩, h1, h2⟩ := zcall hy h he hd
  have hz : rv = none := zshape hz hk h1
  subst hz
  exact ⟨g1, h1, h2⟩
theorem znone (hy : xg xcode y = some t) (h : zr sv L n y pc lf st g o) (he : xg t pc = none) : False := by
  cases n with
  | zero => exact zr_0 h
  | succ n =>
    have h0 : dstep xcode xh2 sv xmeth (xel L) xeb (dv xcode xh2 sv xmeth (xel L) xeb n) y pc lf st g = some o := h
    unfold dstep at h0
    rw [hy] at h0
    dsimp only at h0
    rw [he] at h0
    cases h0
/-! branches -/
theorem zif {b : Bool} {p q : Nat} (h : zr sv L n y (cond b p q) lf st g o) : (b = true ∧ zr sv L n y p lf st g o) ∨ (b = false ∧ zr sv L n y q lf st g o) := by
  cases b with
  | true => exact Or.inl ⟨rfl, h⟩
  | false => exact Or.inr ⟨rfl, h⟩
theorem zif_eq {a b : Int} {p q : Nat} (h : zr sv L n y (cond (crel .eq a b) p q) lf st g o) : (a = b ∧ zr sv L n y p lf st g o) ∨ (a ≠ b ∧ zr sv L n y q lf st g o) := (zif h).imp (fun x => ⟨of_decide_eq_true x.1, x.2⟩) (fun x => ⟨of_decide_eq_false x.1, x.2⟩)
theorem zif_ne {a b : Int} {p q : Nat} (h : zr sv L n y (cond (crel .ne a b) p q) lf st g o) : (a ≠ b ∧ zr sv L n y p lf st g o) ∨ (a = b ∧ zr sv L n y q lf st g o) := (zif h).imp (fun x => ⟨of_decide_eq_true x.1, x.2⟩) (fun x => ⟨Decidable.not_not.mp (of_decide_eq_false x.1), x.2⟩)
theorem zif_lt {a b : Int} {p q : Nat} (h : zr sv L n y (cond (crel .lt a b) p q) lf st g o) : (a < b ∧ zr sv L n y p lf st g o) ∨ (b ≤ a ∧ zr sv L n y q lf st g o) := (zif h).imp (fun x => ⟨of_decide_eq_true x.1, x.2⟩) (fun x => ⟨Int.not_lt.mp (of_decide_eq_false x.1), x.2⟩)
theorem zif_ge {a b : Int} {p q : Nat} (h : zr sv L n y (cond (crel .ge a b) p q) lf st g o) : (b ≤ a ∧ zr sv L n y p lf st g o) ∨ (a < b ∧ zr sv L n y q lf st g o) := (zif h).imp (fun x => ⟨of_decide_eq_true x.1, x.2⟩) (fun x => ⟨Int.not_le.mp (of_decide_eq_false x.1), x.2⟩)
theorem zif_gt {a b : Int} {p q : Nat} (h : zr sv L n y (cond (crel .gt a b) p q) lf st g o) : (b < a ∧ zr sv L n y p lf st g o) ∨ (a ≤ b ∧ zr sv L n y q lf st g o) := (zif h).imp (fun x => ⟨of_decide_eq_true x.1, x.2⟩) (fun x => ⟨Int.not_lt.mp (of_decide_eq_false x.1), x.2⟩)
theorem zif_le {a b : Int} {p q : Nat} (h : zr sv L n y (cond (crel .le a b) p q) lf st g o) : (a ≤ b ∧ zr sv L n y p lf st g o) ∨ (b < a ∧ zr sv L n y q lf st g o) := (zif h).imp (fun x => ⟨of_decide_eq_true x.1, x.2⟩) (fun x => ⟨Int.not_le.mp (of_decide_eq_false x.1), x.2⟩)
theorem zov {i : Nat} {v : cv} (h : lf i = v) : lf = dset lf i v := by
  funext j
  show lf j = cond (Nat.beq j i) v (lf j)
  cases hb : Nat.beq j i with
  | true => rw [xeqb hb]; exact h
  | false => rfl
end Z
/-! loads -/
noncomputable def zck (k kd m : Nat) : Bool := match xg xh2 k with
  | none => false
  | some q => cond (Nat.beq q.1 kd) (Nat.beq q.2.1 m) false
theorem dvb {k kd m : Nat} (hk : zck k kd m = true) (h2 : kd = 13 ∨ kd = 15) {g : cg} {i : Int} (h0 : 0 ≤ i) (h1 : i < (m : Int)) : dval xh2 g k i.toNat = (0, g k i.toNat) := by
  unfold zck at hk
  cases hq : xg xh2 k with
  | none => rw [hq] at hk; cases hk
  | some q =>
    rw [hq] at hk
    obtain ⟨e1, e2⟩ := xcnb hk
    have e1 := xeqb e1
    have e2 := xeqb e2
    obtain ⟨-, hj⟩ := yH0 k q hq
    obtain ⟨w, hw, a1, a2, a3⟩ := hj i.toNat (by omega)
    unfold dval
    rw [hq]
    dsimp only
    rw [hw]
    dsimp only
    have : w.1 = 0 := a1 (by rw [e1]; exact h2)
    unfold cval
    rw [this]
    rfl
theorem dvbL {k kd m : Nat} (hk : zck k kd m = true) (h2 : kd = 14) {g : cg} {i : Int} (h0 : 0 ≤ i) (h1 : i < (m : Int)) : dval xh2 g k i.toNat = (2, g k i.toNat) := by
  unfold zck at hk
  cases hq : xg xh2 k with
  | none => rw [hq] at hk; cases hk
  | some q =>
    rw [hq] at hk
    obtain ⟨e1, e2⟩ := xcnb hk
    have e1 := xeqb e1
    have e2 := xeqb e2
    obtain ⟨-, hj⟩ := yH0 k q hq
    obtain ⟨w, hw, a1, a2, a3⟩ := hj i.toNat (by omega)
    unfold dval
    rw [hq]
    dsimp only
    rw [hw]
    dsimp only
    have : w.1 = 2 := a2 (by rw [e1]; exact h2)
    unfold cval
    rw [this]
    rfl
section Z2
variable {sv : Nat → Int32} {L n y pc : Nat} {t tz : Lean.RArray (Nat × xins)} {lf : dlf} {st : List cv} {g : cg} {o : cg × Option cv} {e : xins}
theorem zald (hy : xg xcode y = some t) {i k : Int} {v : cv} (h : zr sv L n y pc lf ((0, i) :: (4, k) :: st) g o) (he : xg t pc = some e) (hd : dnx xh2 sv xmeth (xel L) xeb e.1 e.2.1 e.2.2.1 e.2.2.2.1 e.2.2.2.2 pc lf ((0, i) :: (4, k) :: st) g = dnxt e.2.1 lf (dval xh2 g k.toNat i.toNat :: st) g) (hv : dval xh2 g k.toNat i.toNat = v) : zr sv L n y e.2.1 lf (v :: st) g o := by
  rw [hv] at hd
  exact zs hy he hd h
theorem zald1 (hy : xg xcode y = some t) {i k : Int} {v : cv} (h : zr sv L (n + 1) y pc lf ((0, i) :: (4, k) :: st) g o) (he : xg t pc = some e) (hd : dnx xh2 sv xmeth (xel L) xeb e.1 e.2.1 e.2.2.1 e.2.2.2.1 e.2.2.2.2 pc lf ((0, i) :: (4, k) :: st) g = dnxt e.2.1 lf (dval xh2 g k.toNat i.toNat :: st) g) (hv : dval xh2 g k.toNat i.toNat = v) : zr sv L n y e.2.1 lf (v :: st) g o := by
  rw [hv] at hd
  exact zs1 hy he hd h
theorem zgf (hy : xg xcode y = some t) {c : Int} {v : cv} (h : zr sv L n y pc lf ((4, c) :: st) g o) (he : xg t pc = some e) (hd : dnx xh2 sv xmeth (xel L) xeb e.1 e.2.1 e.2.2.1 e.2.2.2.1 e.2.2.2.2 pc lf ((4, c) :: st) g = dnxt e.2.1 lf (dval xh2 g c.toNat e.2.2.2.2 :: st) g) (hv : dval xh2 g c.toNat e.2.2.2.2 = v) : zr sv L n y e.2.1 lf (v :: st) g o := by
  rw [hv] at hd
  exact zs hy he hd h
theorem ztabd {a b c : Int} {f : Array Int} {nx tg r1 r2 : Nat} {z : Int} (h : zr sv L n y pc lf ((0, z) :: st) g o) (hy : xg xcode y = some t) (he : xg t pc = some (.tableswitch a b c f, nx, tg, r1, r2)) (hz : z < b ∨ c < z) (ha : 0 ≤ (pc : Int) + a) : zr sv L n y ((pc : Int) + a).toNat lf st g o := by
  refine zs (q := (((pc : Int) + a).toNat, lf, st, g)) hy he ?_ h
  show (match xts a b c f pc z with
    | none => none
    | some t => dnxt t lf st g) = _
  unfold xts
  rw [if_pos hz, if_pos ha]
  rfl
end Z2
/-! numbers, cells -/
theorem w32_id {z : Int} (h0 : -2147483648 ≤ z) (h1 : z < 2147483648) : w32 z = z := by unfold w32; omega
theorem w64_id {z : Int} (h0 : -9223372036854775808 ≤ z) (h1 : z < 9223372036854775808) : w64 z = z := by unfold w64; omega
theorem cup_over (g : cg) (k j : Nat) (a b : Int) : cup (cup g k j a) k j b = cup g k j b := by
  funext k' j'
  unfold cup
  split <;> rfl
theorem cup_id {g : cg} {k j : Nat} {a : Int} (h : g k j = a) : cup g k j a = g := by
  funext k' j'
  unfold cup
  split
  · rename_i e
    rw [e.1, e.2, h]
  · rfl
theorem cup_comm (g : cg) {k j k' j' : Nat} (a b : Int) (h : k ≠ k' ∨ j ≠ j') : cup (cup g k j a) k' j' b = cup (cup g k' j' b) k j a := by
  funext x y
  unfold cup
  by_cases e1 : x = k' ∧ y = j'
  · rw [if_pos e1, if_pos e1]
    by_cases e2 : x = k ∧ y = j
    · exfalso
      rcases h with h | h
      · exact h (by rw [← e2.1, e1.1])
      · exact h (by rw [← e2.2, e1.2])
    · rw [if_neg e2]
  · rw [if_neg e1, if_neg e1]
theorem csgn_z {z : Int} : csgn z = 0 ↔ z = 0 := by
  unfold csgn
  split
  · omega
  · split <;> omega
end
section
/-! what the tokenizers say: printed by program (wip/tools/ztok.py) -/
section
set_option maxRecDepth 100000
theorem zy_36 : xg xcode 36 = some xt_36 := rfl
theorem zk_36 : zkc 1 xt_36 = true := by decide +kernel
theorem zy_37 : xg xcode 37 = some xt_37 := rfl
theorem zk_37 : zkc 0 xt_37 = true := by decide +kernel
theorem zy_166 : xg xcode 166 = some xt_166 := rfl
theorem zk_166 : zkc 0 xt_166 = true := by decide +kernel
theorem zy_167 : xg xcode 167 = some xt_167 := rfl
theorem zk_167 : zkc 1 xt_167 = true := by decide +kernel
theorem zy_168 : xg xcode 168 = some xt_168 := rfl
theorem zk_168 : zkc 1 xt_168 = true := by decide +kernel
theorem zy_169 : xg xcode 169 = some xt_169 := rfl
theorem zk_169 : zkc 1 xt_169 = true := by decide +kernel
theorem dvb_2 {g : cg} {i : Int} (h0 : 0 ≤ i) (h1 : i < 900) : dval xh2 g 2 i.toNat = (0, g 2 i.toNat) := dvb (show zck 2 15 900 = true by decide +kernel) (by decide) h0 h1
theorem dvb_89 {g : cg} {i : Int} (h0 : 0 ≤ i) (h1 : i < 25) : dval xh2 g 89 i.toNat = (2, g 89 i.toNat) := dvbL (show zck 89 14 25 = true by decide +kernel) (by decide) h0 h1
theorem dvb_260 {g : cg} {i : Int} (h0 : 0 ≤ i) (h1 : i < 900) : dval xh2 g 260 i.toNat = (0, g 260 i.toNat) := dvb (show zck 260 15 900 = true by decide +kernel) (by decide) h0 h1
theorem t_isSmall {sv : Nat → Int32} {L n : Nat} {lf : dlf} {g : cg} {o : cg × Option cv} {a : Int} (h : zr sv L n 168 0 lf [] g o) (h0 : lf 0 = (0, a)) : (a < 97 ∧ (o = (g, some (0, 0)))) ∨ (97 ≤ a ∧ ((122 < a ∧ (o = (g, some (0, 0)))) ∨ (a ≤ 122 ∧ (o = (g, some (0, 1)))))) := by
  rw [zov h0] at h
  have h := zm zy_168 h 3 (q := (cond (crel .lt a 97) 16 6, dset lf 0 (0, a), [], g)) rfl
  dsimp only at h
  rcases zif_lt h with ⟨hc1, h⟩ | ⟨hc1, h⟩
  · refine Or.inl ⟨hc1, ?_⟩
    have h := zm zy_168 h 1 (q := (17, dset lf 0 (0, a), [(0, 0)], g)) rfl
    dsimp only at h
    exact zret zy_168 h rfl rfl
  · refine Or.inr ⟨hc1, ?_⟩
    have h := zm zy_168 h 3 (q := (cond (crel .gt a 122) 16 12, dset lf 0 (0, a), [], g)) rfl
    dsimp only at h
    rcases zif_gt h with ⟨hc2, h⟩ | ⟨hc2, h⟩
    · refine Or.inl ⟨hc2, ?_⟩
      have h := zm zy_168 h 1 (q := (17, dset lf 0 (0, a), [(0, 0)], g)) rfl
      dsimp only at h
      exact zret zy_168 h rfl rfl
    · refine Or.inr ⟨hc2, ?_⟩
      have h := zm zy_168 h 2 (q := (17, dset lf 0 (0, a), [(0, 1)], g)) rfl
      dsimp only at h
      exact zret zy_168 h rfl rfl
theorem t_isDigit {sv : Nat → Int32} {L n : Nat} {lf : dlf} {g : cg} {o : cg × Option cv} {a : Int} (h : zr sv L n 169 0 lf [] g o) (h0 : lf 0 = (0, a)) : (a < 48 ∧ (o = (g, some (0, 0)))) ∨ (48 ≤ a ∧ ((57 < a ∧ (o = (g, some (0, 0)))) ∨ (a ≤ 57 ∧ (o = (g, some (0, 1)))))) := by
  rw [zov h0] at h
  have h := zm zy_169 h 3 (q := (cond (crel .lt a 48) 16 6, dset lf 0 (0, a), [], g)) rfl
  dsimp only at h
  rcases zif_lt h with ⟨hc1, h⟩ | ⟨hc1, h⟩
  · refine Or.inl ⟨hc1, ?_⟩
    have h := zm zy_169 h 1 (q := (17, dset lf 0 (0, a), [(0, 0)], g)) rfl
    dsimp only at h
    exact zret zy_169 h rfl rfl
  · refine Or.inr ⟨hc1, ?_⟩
    have h := zm zy_169 h 3 (q := (cond (crel .gt a 57) 16 12, dset lf 0 (0, a), [], g)) rfl
    dsimp only at h
    rcases zif_gt h with ⟨hc2, h⟩ | ⟨hc2, h⟩
    · refine Or.inl ⟨hc2, ?_⟩
      have h := zm zy_169 h 1 (q := (17, dset lf 0 (0, a), [(0, 0)], g)) rfl
      dsimp only at h
      exact zret zy_169 h rfl rfl
    · refine Or.inr ⟨hc2, ?_⟩
      have h := zm zy_169 h 2 (q := (17, dset lf 0 (0, a), [(0, 1)], g)) rfl
      dsimp only at h
      exact zret zy_169 h rfl rfl
theorem t_byteAt {sv : Nat → Int32} {L n : Nat} {lf : dlf} {g : cg} {o : cg × Option cv} {a : Int} (h : zr sv L n 167 0 lf [] g o) (h0 : lf 0 = (4, 253)) (h1 : lf 1 = (0, a)) : (g 253 11 ≤ a ∧ (o = (g, some (0, (-1))))) ∨ (a < g 253 11 ∧ (0 ≤ a → a < 900 → (o = (g, some (0, (i32 (g 260 ((a).toNat)) &&& i32 255).toInt))))) := by
  rw [zov h0, zov h1] at h
  have h := zm zy_167 h 4 (q := (cond (crel .ge a (g 253 11)) 21 8, dset (dset lf 1 (0, a)) 0 (4, 253), [], g)) rfl
  dsimp only at h
  rcases zif_ge h with ⟨hc1, h⟩ | ⟨hc1, h⟩
  · refine Or.inl ⟨hc1, ?_⟩
    have h := zm zy_167 h 1 (q := (22, dset (dset lf 1 (0, a)) 0 (4, 253), [(0, (-1))], g)) rfl
    dsimp only at h
    exact zret zy_167 h rfl rfl
  · refine Or.inr ⟨hc1, ?_⟩
    intro ha2 hb3
    have h := zm zy_167 h 3 (q := (13, dset (dset lf 1 (0, a)) 0 (4, 253), [(0, a), (4, 260)], g)) rfl
    dsimp only at h
    have h := zald zy_167 h rfl rfl (dvb_260 ha2 hb3)
    have h : zr sv L n 167 14 (dset (dset lf 1 (0, a)) 0 (4, 253)) [(0, g 260 ((a).toNat))] (g) o := h
    have h := zm zy_167 h 3 (q := (22, dset (dset lf 1 (0, a)) 0 (4, 253), [(0, (i32 (g 260 ((a).toNat)) &&& i32 255).toInt)], g)) rfl
    dsimp only at h
    exact zret zy_167 h rfl rfl
theorem t_min {sv : Nat → Int32} {L n : Nat} {lf : dlf} {g : cg} {o : cg × Option cv} {a b : Int} (h : zr sv L n 36 0 lf [] g o) (h0 : lf 0 = (0, a)) (h1 : lf 1 = (0, b)) : (b < a ∧ (o = (g, some (0, b)))) ∨ (a ≤ b ∧ (o = (g, some (0, a)))) := by
  rw [zov h0, zov h1] at h
  have h := zm zy_36 h 3 (q := (cond (crel .gt a b) 9 5, dset (dset lf 1 (0, b)) 0 (0, a), [], g)) rfl
  dsimp only at h
  rcases zif_gt h with ⟨hc1, h⟩ | ⟨hc1, h⟩
  · refine Or.inl ⟨hc1, ?_⟩
    have h := zm zy_36 h 1 (q := (10, dset (dset lf 1 (0, b)) 0 (0, a), [(0, b)], g)) rfl
    dsimp only at h
    exact zret zy_36 h rfl rfl
  · refine Or.inr ⟨hc1, ?_⟩
    have h := zm zy_36 h 2 (q := (10, dset (dset lf 1 (0, b)) 0 (0, a), [(0, a)], g)) rfl
    dsimp only at h
    exact zret zy_36 h rfl rfl
theorem t_adv0 {sv : Nat → Int32} {L n : Nat} {lf : dlf} {g : cg} {o : cg × Option cv} (h : zr sv L (n + 1) 37 0 lf [] g o) (h0 : lf 0 = (4, 88)) : (g 88 2 ≤ g 88 3 ∧ (∃ lf'2, lf'2 0 = (4, 88) ∧ zr sv L n 37 52 lf'2 [] g o)) ∨ (g 88 3 < g 88 2 ∧ (0 ≤ g 88 3 → g 88 3 < 900 → ((g 2 ((g 88 3).toNat) = 32 ∧ (∃ lf'6, lf'6 0 = (4, 88) ∧ zr sv L n 37 0 lf'6 [] (cup g 88 3 (w32 ((g 88 3) + 1))) o)) ∨ (g 2 ((g 88 3).toNat) ≠ 32 ∧ ((g 2 ((g 88 3).toNat) ≠ 10 ∧ (∃ lf'8, lf'8 0 = (4, 88) ∧ zr sv L n 37 52 lf'8 [] g o)) ∨ (g 2 ((g 88 3).toNat) = 10 ∧ (∃ lf'9, lf'9 0 = (4, 88) ∧ zr sv L n 37 0 lf'9 [] (cup g 88 3 (w32 ((g 88 3) + 1))) o))))))) := by
  rw [zov h0] at h
  have h := zm1 zy_37 h 4 (q := (cond (crel .ge (g 88 3) (g 88 2)) 52 11, dset lf 0 (4, 88), [], g)) rfl
  dsimp only at h
  rcases zif_ge h with ⟨hc1, h⟩ | ⟨hc1, h⟩
  · refine Or.inl ⟨hc1, ?_⟩
    exact ⟨_, rfl, h⟩
  · refine Or.inr ⟨hc1, ?_⟩
    intro ha3 hb4
    have h := zm zy_37 h 4 (q := (19, dset lf 0 (4, 88), [(0, g 88 3), (4, 2)], g)) rfl
    dsimp only at h
    have h := zald zy_37 h rfl rfl (dvb_2 ha3 hb4)
    have h : zr sv L n 37 20 (dset lf 0 (4, 88)) [(0, g 2 ((g 88 3).toNat))] (g) o := h
    have h := zm zy_37 h 2 (q := (cond (crel .eq (g 2 ((g 88 3).toNat)) 32) 39 25, dset lf 0 (4, 88), [], g)) rfl
    dsimp only at h
    rcases zif_eq h with ⟨hc5, h⟩ | ⟨hc5, h⟩
    · refine Or.inl ⟨hc5, ?_⟩
      have h := zm zy_37 h 7 (q := (0, dset lf 0 (4, 88), [], cup g 88 3 (w32 ((g 88 3) + 1)))) rfl
      dsimp only at h
      exact ⟨_, rfl, h⟩
    · refine Or.inr ⟨hc5, ?_⟩
      have h := zm zy_37 h 4 (q := (33, dset lf 0 (4, 88), [(0, g 88 3), (4, 2)], g)) rfl
      dsimp only at h
      have h := zald zy_37 h rfl rfl (dvb_2 ha3 hb4)
      have h : zr sv L n 37 34 (dset lf 0 (4, 88)) [(0, g 2 ((g 88 3).toNat))] (g) o := h
      have h := zm zy_37 h 2 (q := (cond (crel .ne (g 2 ((g 88 3).toNat)) 10) 52 39, dset lf 0 (4, 88), [], g)) rfl
      dsimp only at h
      rcases zif_ne h with ⟨hc7, h⟩ | ⟨hc7, h⟩
      · refine Or.inl ⟨hc7, ?_⟩
        exact ⟨_, rfl, h⟩
      · refine Or.inr ⟨hc7, ?_⟩
        have h := zm zy_37 h 7 (q := (0, dset lf 0 (4, 88), [], cup g 88 3 (w32 ((g 88 3) + 1)))) rfl
        dsimp only at h
        exact ⟨_, rfl, h⟩
theorem t_adv52 {sv : Nat → Int32} {L n : Nat} {lf : dlf} {g : cg} {o : cg × Option cv} (h : zr sv L n 37 52 lf [] g o) (h0 : lf 0 = (4, 88)) : (g 88 2 ≤ g 88 3 ∧ (o = (cup (cup (cup (cup (cup (cup g 88 5 (g 88 3)) 88 7 ((-1))) 88 6 0) 88 8 0) 88 9 0) 88 4 0, none))) ∨ (g 88 3 < g 88 2 ∧ (0 ≤ g 88 3 → g 88 3 < 900 → ((g 2 ((g 88 3).toNat) < 97 ∧ ((g 2 ((g 88 3).toNat) < 48 ∧ (∃ lf'8, lf'8 0 = (4, 88) ∧ zr sv L n 37 453 lf'8 [] (cup (cup (cup (cup (cup g 88 5 (g 88 3)) 88 7 ((-1))) 88 6 0) 88 8 0) 88 9 (g 2 ((g 88 3).toNat))) o)) ∨ (48 ≤ g 2 ((g 88 3).toNat) ∧ ((57 < g 2 ((g 88 3).toNat) ∧ (∃ lf'10, lf'10 0 = (4, 88) ∧ zr sv L n 37 453 lf'10 [] (cup (cup (cup (cup (cup g 88 5 (g 88 3)) 88 7 ((-1))) 88 6 0) 88 8 0) 88 9 (g 2 ((g 88 3).toNat))) o)) ∨ (g 2 ((g 88 3).toNat) ≤ 57 ∧ (∃ lf'11, lf'11 0 = (4, 88) ∧ zr sv L n 37 331 lf'11 [] (cup (cup (cup (cup (cup g 88 5 (g 88 3)) 88 7 ((-1))) 88 6 0) 88 8 0) 88 9 (g 2 ((g 88 3).toNat))) o)))))) ∨ (97 ≤ g 2 ((g 88 3).toNat) ∧ ((122 < g 2 ((g 88 3).toNat) ∧ (∃ lf'15, lf'15 0 = (4, 88) ∧ zr sv L n 37 453 lf'15 [] (cup (cup (cup (cup (cup g 88 5 (g 88 3)) 88 7 ((-1))) 88 6 0) 88 8 0) 88 9 (g 2 ((g 88 3).toNat))) o)) ∨ (g 2 ((g 88 3).toNat) ≤ 122 ∧ (∃ lf'16, lf'16 0 = (4, 88) ∧ zr sv L n 37 140 lf'16 [] (cup (cup (cup (cup (cup g 88 5 (g 88 3)) 88 7 ((-1))) 88 6 0) 88 8 0) 88 9 (g 2 ((g 88 3).toNat))) o))))))) := by
  rw [zov h0] at h
  have h := zm zy_37 h 19 (q := (cond (crel .ge (g 88 3) (g 88 2)) 99 87, dset lf 0 (4, 88), [(4, 88)], cup (cup (cup (cup g 88 5 (g 88 3)) 88 7 ((-1))) 88 6 0) 88 8 0)) rfl
  dsimp only at h
  rcases zif_ge h with ⟨hc1, h⟩ | ⟨hc1, h⟩
  · refine Or.inl ⟨hc1, ?_⟩
    have h := zm zy_37 h 7 (q := (cond (crel .lt (g 88 3) (g 88 2)) 122 114, dset lf 0 (4, 88), [], cup (cup (cup (cup (cup g 88 5 (g 88 3)) 88 7 ((-1))) 88 6 0) 88 8 0) 88 9 0)) rfl
    dsimp only at h
    rcases zif_lt h with ⟨hc2, h⟩ | ⟨hc2, h⟩
    · exact absurd hc2 (by omega)
    · have h := zm zy_37 h 4 (q := (513, dset lf 0 (4, 88), [], cup (cup (cup (cup (cup (cup g 88 5 (g 88 3)) 88 7 ((-1))) 88 6 0) 88 8 0) 88 9 0) 88 4 0)) rfl
      dsimp only at h
      exact zret zy_37 h rfl rfl
  · refine Or.inr ⟨hc1, ?_⟩
    intro ha3 hb4
    have h := zm zy_37 h 4 (q := (95, dset lf 0 (4, 88), [(0, g 88 3), (4, 2), (4, 88)], cup (cup (cup (cup g 88 5 (g 88 3)) 88 7 ((-1))) 88 6 0) 88 8 0)) rfl
    dsimp only at h
    have h := zald zy_37 h rfl rfl (dvb_2 ha3 hb4)
    have h : zr sv L n 37 96 (dset lf 0 (4, 88)) [(0, g 2 ((g 88 3).toNat)), (4, 88)] (cup (cup (cup (cup g 88 5 (g 88 3)) 88 7 ((-1))) 88 6 0) 88 8 0) o := h
    have h := zm zy_37 h 7 (q := (cond (crel .lt (g 88 3) (g 88 2)) 122 114, dset lf 0 (4, 88), [], cup (cup (cup (cup (cup g 88 5 (g 88 3)) 88 7 ((-1))) 88 6 0) 88 8 0) 88 9 (g 2 ((g 88 3).toNat)))) rfl
    dsimp only at h
    rcases zif_lt h with ⟨hc5, h⟩ | ⟨hc5, h⟩
    · have h := zm zy_37 h 4 (q := (cond (crel .lt (g 2 ((g 88 3).toNat)) 97) 313 131, dset lf 0 (4, 88), [], cup (cup (cup (cup (cup g 88 5 (g 88 3)) 88 7 ((-1))) 88 6 0) 88 8 0) 88 9 (g 2 ((g 88 3).toNat)))) rfl
      dsimp only at h
      rcases zif_lt h with ⟨hc6, h⟩ | ⟨hc6, h⟩
      · refine Or.inl ⟨hc6, ?_⟩
        have h := zm zy_37 h 4 (q := (cond (crel .lt (g 2 ((g 88 3).toNat)) 48) 453 322, dset lf 0 (4, 88), [], cup (cup (cup (cup (cup g 88 5 (g 88 3)) 88 7 ((-1))) 88 6 0) 88 8 0) 88 9 (g 2 ((g 88 3).toNat)))) rfl
        dsimp only at h
        rcases zif_lt h with ⟨hc7, h⟩ | ⟨hc7, h⟩
        · refine Or.inl ⟨hc7, ?_⟩
          exact ⟨_, rfl, h⟩
        · refine Or.inr ⟨hc7, ?_⟩
          have h := zm zy_37 h 4 (q := (cond (crel .gt (g 2 ((g 88 3).toNat)) 57) 453 331, dset lf 0 (4, 88), [], cup (cup (cup (cup (cup g 88 5 (g 88 3)) 88 7 ((-1))) 88 6 0) 88 8 0) 88 9 (g 2 ((g 88 3).toNat)))) rfl
          dsimp only at h
          rcases zif_gt h with ⟨hc9, h⟩ | ⟨hc9, h⟩
          · refine Or.inl ⟨hc9, ?_⟩
            exact ⟨_, rfl, h⟩
          · refine Or.inr ⟨hc9, ?_⟩
            exact ⟨_, rfl, h⟩
      · refine Or.inr ⟨hc6, ?_⟩
        have h := zm zy_37 h 4 (q := (cond (crel .gt (g 2 ((g 88 3).toNat)) 122) 313 140, dset lf 0 (4, 88), [], cup (cup (cup (cup (cup g 88 5 (g 88 3)) 88 7 ((-1))) 88 6 0) 88 8 0) 88 9 (g 2 ((g 88 3).toNat)))) rfl
        dsimp only at h
        rcases zif_gt h with ⟨hc12, h⟩ | ⟨hc12, h⟩
        · refine Or.inl ⟨hc12, ?_⟩
          have h := zm zy_37 h 4 (q := (cond (crel .lt (g 2 ((g 88 3).toNat)) 48) 453 322, dset lf 0 (4, 88), [], cup (cup (cup (cup (cup g 88 5 (g 88 3)) 88 7 ((-1))) 88 6 0) 88 8 0) 88 9 (g 2 ((g 88 3).toNat)))) rfl
          dsimp only at h
          rcases zif_lt h with ⟨hc13, h⟩ | ⟨hc13, h⟩
          · exact absurd hc13 (by omega)
          · have h := zm zy_37 h 4 (q := (cond (crel .gt (g 2 ((g 88 3).toNat)) 57) 453 331, dset lf 0 (4, 88), [], cup (cup (cup (cup (cup g 88 5 (g 88 3)) 88 7 ((-1))) 88 6 0) 88 8 0) 88 9 (g 2 ((g 88 3).toNat)))) rfl
            dsimp only at h
            rcases zif_gt h with ⟨hc14, h⟩ | ⟨hc14, h⟩
            · exact ⟨_, rfl, h⟩
            · exact absurd hc14 (by omega)
        · refine Or.inr ⟨hc12, ?_⟩
          exact ⟨_, rfl, h⟩
    · exact absurd hc5 (by omega)
theorem t_adv140 {sv : Nat → Int32} {L n : Nat} {lf : dlf} {g : cg} {o : cg × Option cv} (h : zr sv L (n + 1) 37 140 lf [] g o) (h0 : lf 0 = (4, 88)) : (g 88 2 ≤ g 88 3 ∧ (∃ lf'2, lf'2 0 = (4, 88) ∧ zr sv L n 37 241 lf'2 [] g o)) ∨ (g 88 3 < g 88 2 ∧ (0 ≤ g 88 3 → g 88 3 < 900 → ((g 2 ((g 88 3).toNat) < 97 ∧ (∃ lf'6, lf'6 0 = (4, 88) ∧ zr sv L n 37 241 lf'6 [] g o)) ∨ (97 ≤ g 2 ((g 88 3).toNat) ∧ ((122 < g 2 ((g 88 3).toNat) ∧ (∃ lf'8, lf'8 0 = (4, 88) ∧ zr sv L n 37 241 lf'8 [] g o)) ∨ (g 2 ((g 88 3).toNat) ≤ 122 ∧ ((8 ≤ w32 ((g 88 3) - (g 88 5)) ∧ (∃ lf'10, lf'10 0 = (4, 88) ∧ zr sv L n 37 140 lf'10 [] (cup (cup g 88 6 (g 88 6)) 88 3 (w32 ((g 88 3) + 1))) o)) ∨ (w32 ((g 88 3) - (g 88 5)) < 8 ∧ (∃ lf'11, lf'11 0 = (4, 88) ∧ zr sv L n 37 140 lf'11 [] (cup (cup g 88 6 (w64 ((w64 ((g 88 6) * 32)) + (w32 ((w32 ((g 2 ((g 88 3).toNat)) - 97)) + 1))))) 88 3 (w32 ((g 88 3) + 1))) o))))))))) := by
  rw [zov h0] at h
  have h := zm1 zy_37 h 4 (q := (cond (crel .ge (g 88 3) (g 88 2)) 241 151, dset lf 0 (4, 88), [], g)) rfl
  dsimp only at h
  rcases zif_ge h with ⟨hc1, h⟩ | ⟨hc1, h⟩
  · refine Or.inl ⟨hc1, ?_⟩
    exact ⟨_, rfl, h⟩
  · refine Or.inr ⟨hc1, ?_⟩
    intro ha3 hb4
    have h := zm zy_37 h 4 (q := (159, dset lf 0 (4, 88), [(0, g 88 3), (4, 2)], g)) rfl
    dsimp only at h
    have h := zald zy_37 h rfl rfl (dvb_2 ha3 hb4)
    have h : zr sv L n 37 160 (dset lf 0 (4, 88)) [(0, g 2 ((g 88 3).toNat))] (g) o := h
    have h := zm zy_37 h 2 (q := (cond (crel .lt (g 2 ((g 88 3).toNat)) 97) 241 165, dset lf 0 (4, 88), [], g)) rfl
    dsimp only at h
    rcases zif_lt h with ⟨hc5, h⟩ | ⟨hc5, h⟩
    · refine Or.inl ⟨hc5, ?_⟩
      exact ⟨_, rfl, h⟩
    · refine Or.inr ⟨hc5, ?_⟩
      have h := zm zy_37 h 4 (q := (173, dset lf 0 (4, 88), [(0, g 88 3), (4, 2)], g)) rfl
      dsimp only at h
      have h := zald zy_37 h rfl rfl (dvb_2 ha3 hb4)
      have h : zr sv L n 37 174 (dset lf 0 (4, 88)) [(0, g 2 ((g 88 3).toNat))] (g) o := h
      have h := zm zy_37 h 2 (q := (cond (crel .gt (g 2 ((g 88 3).toNat)) 122) 241 179, dset lf 0 (4, 88), [], g)) rfl
      dsimp only at h
      rcases zif_gt h with ⟨hc7, h⟩ | ⟨hc7, h⟩
      · refine Or.inl ⟨hc7, ?_⟩
        exact ⟨_, rfl, h⟩
      · refine Or.inr ⟨hc7, ?_⟩
        have h := zm zy_37 h 8 (q := (cond (crel .ge (w32 ((g 88 3) - (g 88 5))) 8) 221 194, dset lf 0 (4, 88), [(4, 88)], g)) rfl
        dsimp only at h
        rcases zif_ge h with ⟨hc9, h⟩ | ⟨hc9, h⟩
        · refine Or.inl ⟨hc9, ?_⟩
          have h := zm zy_37 h 10 (q := (140, dset lf 0 (4, 88), [], cup (cup g 88 6 (g 88 6)) 88 3 (w32 ((g 88 3) + 1)))) rfl
          dsimp only at h
          exact ⟨_, rfl, h⟩
        · refine Or.inr ⟨hc9, ?_⟩
          have h := zm zy_37 h 8 (q := (210, dset lf 0 (4, 88), [(0, g 88 3), (4, 2), (2, w64 ((g 88 6) * 32)), (4, 88)], g)) rfl
          dsimp only at h
          have h := zald zy_37 h rfl rfl (dvb_2 ha3 hb4)
          have h : zr sv L n 37 211 (dset lf 0 (4, 88)) [(0, g 2 ((g 88 3).toNat)), (2, w64 ((g 88 6) * 32)), (4, 88)] (g) o := h
          have h := zm zy_37 h 15 (q := (140, dset lf 0 (4, 88), [], cup (cup g 88 6 (w64 ((w64 ((g 88 6) * 32)) + (w32 ((w32 ((g 2 ((g 88 3).toNat)) - 97)) + 1))))) 88 3 (w32 ((g 88 3) + 1)))) rfl
          dsimp only at h
          exact ⟨_, rfl, h⟩
theorem t_adv241 {sv : Nat → Int32} {L n : Nat} {lf : dlf} {g : cg} {o : cg × Option cv} (h : zr sv L n 37 241 lf [] g o) (h0 : lf 0 = (4, 88)) : (w32 ((g 88 3) - (g 88 5)) ≤ 8 ∧ (∃ lf'2, lf'2 0 = (4, 88) ∧ lf'2 1 = (0, 0) ∧ zr sv L n 37 266 lf'2 [] (cup g 88 4 2) o)) ∨ (8 < w32 ((g 88 3) - (g 88 5)) ∧ (∃ lf'3, lf'3 0 = (4, 88) ∧ lf'3 1 = (0, 0) ∧ zr sv L n 37 266 lf'3 [] (cup g 88 4 3) o)) := by
  rw [zov h0] at h
  have h := zm zy_37 h 8 (q := (cond (crel .le (w32 ((g 88 3) - (g 88 5))) 8) 260 256, dset lf 0 (4, 88), [(4, 88)], g)) rfl
  dsimp only at h
  rcases zif_le h with ⟨hc1, h⟩ | ⟨hc1, h⟩
  · refine Or.inl ⟨hc1, ?_⟩
    have h := zm zy_37 h 4 (q := (266, dset (dset lf 0 (4, 88)) 1 (0, 0), [], cup g 88 4 2)) rfl
    dsimp only at h
    exact ⟨_, rfl, rfl, h⟩
  · refine Or.inr ⟨hc1, ?_⟩
    have h := zm zy_37 h 5 (q := (266, dset (dset lf 0 (4, 88)) 1 (0, 0), [], cup g 88 4 3)) rfl
    dsimp only at h
    exact ⟨_, rfl, rfl, h⟩
theorem t_adv266 {sv : Nat → Int32} {L n : Nat} {lf : dlf} {g : cg} {o : cg × Option cv} {a : Int} (h : zr sv L (n + 1) 37 266 lf [] g o) (h0 : lf 0 = (4, 88)) (h1 : lf 1 = (0, a)) : (25 ≤ a ∧ (o = (g, none))) ∨ (a < 25 ∧ ((g 88 4 ≠ 2 ∧ (o = (g, none))) ∨ (g 88 4 = 2 ∧ (0 ≤ a → a < 25 → ((csgn ((g 89 ((a).toNat)) - (g 88 6)) ≠ 0 ∧ (∃ lf'6, lf'6 0 = (4, 88) ∧ lf'6 1 = (0, w32 (a + 1)) ∧ zr sv L n 37 266 lf'6 [] g o)) ∨ (csgn ((g 89 ((a).toNat)) - (g 88 6)) = 0 ∧ (∃ lf'7, lf'7 0 = (4, 88) ∧ lf'7 1 = (0, w32 (a + 1)) ∧ zr sv L n 37 266 lf'7 [] (cup (cup g 88 4 1) 88 7 a) o))))))) := by
  rw [zov h0, zov h1] at h
  have h := zm1 zy_37 h 2 (q := (cond (crel .ge a 25) 310 272, dset (dset lf 1 (0, a)) 0 (4, 88), [], g)) rfl
  dsimp only at h
  rcases zif_ge h with ⟨hc1, h⟩ | ⟨hc1, h⟩
  · refine Or.inl ⟨hc1, ?_⟩
    have h := zm zy_37 h 1 (q := (513, dset (dset lf 1 (0, a)) 0 (4, 88), [], g)) rfl
    dsimp only at h
    exact zret zy_37 h rfl rfl
  · refine Or.inr ⟨hc1, ?_⟩
    have h := zm zy_37 h 4 (q := (cond (crel .ne (g 88 4) 2) 310 280, dset (dset lf 1 (0, a)) 0 (4, 88), [], g)) rfl
    dsimp only at h
    rcases zif_ne h with ⟨hc2, h⟩ | ⟨hc2, h⟩
    · refine Or.inl ⟨hc2, ?_⟩
      have h := zm zy_37 h 1 (q := (513, dset (dset lf 1 (0, a)) 0 (4, 88), [], g)) rfl
      dsimp only at h
      exact zret zy_37 h rfl rfl
    · refine Or.inr ⟨hc2, ?_⟩
      intro ha3 hb4
      have h := zm zy_37 h 3 (q := (285, dset (dset lf 1 (0, a)) 0 (4, 88), [(0, a), (4, 89)], g)) rfl
      dsimp only at h
      have h := zald zy_37 h rfl rfl (dvb_89 ha3 hb4)
      have h : zr sv L n 37 286 (dset (dset lf 1 (0, a)) 0 (4, 88)) [(2, g 89 ((a).toNat))] (g) o := h
      have h := zm zy_37 h 4 (q := (cond (crel .ne (csgn ((g 89 ((a).toNat)) - (g 88 6))) 0) 304 294, dset (dset lf 1 (0, a)) 0 (4, 88), [], g)) rfl
      dsimp only at h
      rcases zif_ne h with ⟨hc5, h⟩ | ⟨hc5, h⟩
      · refine Or.inl ⟨hc5, ?_⟩
        have h := zm zy_37 h 2 (q := (266, dset (dset (dset lf 1 (0, a)) 0 (4, 88)) 1 (0, w32 (a + 1)), [], g)) rfl
        dsimp only at h
        exact ⟨_, rfl, rfl, h⟩
      · refine Or.inr ⟨hc5, ?_⟩
        have h := zm zy_37 h 8 (q := (266, dset (dset (dset lf 1 (0, a)) 0 (4, 88)) 1 (0, w32 (a + 1)), [], cup (cup g 88 4 1) 88 7 a)) rfl
        dsimp only at h
        exact ⟨_, rfl, rfl, h⟩
theorem t_adv331 {sv : Nat → Int32} {L n : Nat} {lf : dlf} {g : cg} {o : cg × Option cv} (h : zr sv L (n + 1) 37 331 lf [] g o) (h0 : lf 0 = (4, 88)) : (g 88 2 ≤ g 88 3 ∧ (∃ lf'2, lf'2 0 = (4, 88) ∧ zr sv L n 37 427 lf'2 [] g o)) ∨ (g 88 3 < g 88 2 ∧ (0 ≤ g 88 3 → g 88 3 < 900 → ((g 2 ((g 88 3).toNat) < 48 ∧ (∃ lf'6, lf'6 0 = (4, 88) ∧ zr sv L n 37 427 lf'6 [] g o)) ∨ (48 ≤ g 2 ((g 88 3).toNat) ∧ ((57 < g 2 ((g 88 3).toNat) ∧ (∃ lf'8, lf'8 0 = (4, 88) ∧ zr sv L n 37 427 lf'8 [] g o)) ∨ (g 2 ((g 88 3).toNat) ≤ 57 ∧ ((4 ≤ w32 ((g 88 3) - (g 88 5)) ∧ (∃ lf'10, lf'10 0 = (4, 88) ∧ zr sv L n 37 331 lf'10 [] (cup (cup g 88 8 (g 88 8)) 88 3 (w32 ((g 88 3) + 1))) o)) ∨ (w32 ((g 88 3) - (g 88 5)) < 4 ∧ (∃ lf'11, lf'11 0 = (4, 88) ∧ zr sv L n 37 331 lf'11 [] (cup (cup g 88 8 (w32 ((w32 ((g 88 8) * 10)) + (w32 ((g 2 ((g 88 3).toNat)) - 48))))) 88 3 (w32 ((g 88 3) + 1))) o))))))))) := by
  rw [zov h0] at h
  have h := zm1 zy_37 h 4 (q := (cond (crel .ge (g 88 3) (g 88 2)) 427 342, dset lf 0 (4, 88), [], g)) rfl
  dsimp only at h
  rcases zif_ge h with ⟨hc1, h⟩ | ⟨hc1, h⟩
  · refine Or.inl ⟨hc1, ?_⟩
    exact ⟨_, rfl, h⟩
  · refine Or.inr ⟨hc1, ?_⟩
    intro ha3 hb4
    have h := zm zy_37 h 4 (q := (350, dset lf 0 (4, 88), [(0, g 88 3), (4, 2)], g)) rfl
    dsimp only at h
    have h := zald zy_37 h rfl rfl (dvb_2 ha3 hb4)
    have h : zr sv L n 37 351 (dset lf 0 (4, 88)) [(0, g 2 ((g 88 3).toNat))] (g) o := h
    have h := zm zy_37 h 2 (q := (cond (crel .lt (g 2 ((g 88 3).toNat)) 48) 427 356, dset lf 0 (4, 88), [], g)) rfl
    dsimp only at h
    rcases zif_lt h with ⟨hc5, h⟩ | ⟨hc5, h⟩
    · refine Or.inl ⟨hc5, ?_⟩
      exact ⟨_, rfl, h⟩
    · refine Or.inr ⟨hc5, ?_⟩
      have h := zm zy_37 h 4 (q := (364, dset lf 0 (4, 88), [(0, g 88 3), (4, 2)], g)) rfl
      dsimp only at h
      have h := zald zy_37 h rfl rfl (dvb_2 ha3 hb4)
      have h : zr sv L n 37 365 (dset lf 0 (4, 88)) [(0, g 2 ((g 88 3).toNat))] (g) o := h
      have h := zm zy_37 h 2 (q := (cond (crel .gt (g 2 ((g 88 3).toNat)) 57) 427 370, dset lf 0 (4, 88), [], g)) rfl
      dsimp only at h
      rcases zif_gt h with ⟨hc7, h⟩ | ⟨hc7, h⟩
      · refine Or.inl ⟨hc7, ?_⟩
        exact ⟨_, rfl, h⟩
      · refine Or.inr ⟨hc7, ?_⟩
        have h := zm zy_37 h 8 (q := (cond (crel .ge (w32 ((g 88 3) - (g 88 5))) 4) 407 384, dset lf 0 (4, 88), [(4, 88)], g)) rfl
        dsimp only at h
        rcases zif_ge h with ⟨hc9, h⟩ | ⟨hc9, h⟩
        · refine Or.inl ⟨hc9, ?_⟩
          have h := zm zy_37 h 10 (q := (331, dset lf 0 (4, 88), [], cup (cup g 88 8 (g 88 8)) 88 3 (w32 ((g 88 3) + 1)))) rfl
          dsimp only at h
          exact ⟨_, rfl, h⟩
        · refine Or.inr ⟨hc9, ?_⟩
          have h := zm zy_37 h 8 (q := (399, dset lf 0 (4, 88), [(0, g 88 3), (4, 2), (0, w32 ((g 88 8) * 10)), (4, 88)], g)) rfl
          dsimp only at h
          have h := zald zy_37 h rfl rfl (dvb_2 ha3 hb4)
          have h : zr sv L n 37 400 (dset lf 0 (4, 88)) [(0, g 2 ((g 88 3).toNat)), (0, w32 ((g 88 8) * 10)), (4, 88)] (g) o := h
          have h := zm zy_37 h 12 (q := (331, dset lf 0 (4, 88), [], cup (cup g 88 8 (w32 ((w32 ((g 88 8) * 10)) + (w32 ((g 2 ((g 88 3).toNat)) - 48))))) 88 3 (w32 ((g 88 3) + 1)))) rfl
          dsimp only at h
          exact ⟨_, rfl, h⟩
theorem t_adv427 {sv : Nat → Int32} {L n : Nat} {lf : dlf} {g : cg} {o : cg × Option cv} (h : zr sv L n 37 427 lf [] g o) (h0 : lf 0 = (4, 88)) : (w32 ((g 88 3) - (g 88 5)) ≤ 4 ∧ (o = (cup g 88 4 4, none))) ∨ (4 < w32 ((g 88 3) - (g 88 5)) ∧ (o = (cup g 88 4 6, none))) := by
  rw [zov h0] at h
  have h := zm zy_37 h 8 (q := (cond (crel .le (w32 ((g 88 3) - (g 88 5))) 4) 446 441, dset lf 0 (4, 88), [(4, 88)], g)) rfl
  dsimp only at h
  rcases zif_le h with ⟨hc1, h⟩ | ⟨hc1, h⟩
  · refine Or.inl ⟨hc1, ?_⟩
    have h := zm zy_37 h 3 (q := (513, dset lf 0 (4, 88), [], cup g 88 4 4)) rfl
    dsimp only at h
    exact zret zy_37 h rfl rfl
  · refine Or.inr ⟨hc1, ?_⟩
    have h := zm zy_37 h 4 (q := (513, dset lf 0 (4, 88), [], cup g 88 4 6)) rfl
    dsimp only at h
    exact zret zy_37 h rfl rfl
theorem t_adv453 {sv : Nat → Int32} {L n : Nat} {lf : dlf} {g : cg} {o : cg × Option cv} (h : zr sv L n 37 453 lf [] g o) (h0 : lf 0 = (4, 88)) : (g 88 9 = 59 ∧ (o = (cup (cup g 88 4 5) 88 3 (w32 ((g 88 3) + 1)), none))) ∨ (g 88 9 ≠ 59 ∧ ((g 88 9 = 60 ∧ (o = (cup (cup g 88 4 5) 88 3 (w32 ((g 88 3) + 1)), none))) ∨ (g 88 9 ≠ 60 ∧ ((g 88 9 = 62 ∧ (o = (cup (cup g 88 4 5) 88 3 (w32 ((g 88 3) + 1)), none))) ∨ (g 88 9 ≠ 62 ∧ ((g 88 9 ≠ 61 ∧ (o = (cup g 88 4 6, none))) ∨ (g 88 9 = 61 ∧ (o = (cup (cup g 88 4 5) 88 3 (w32 ((g 88 3) + 1)), none))))))))) := by
  rw [zov h0] at h
  have h := zm zy_37 h 4 (q := (cond (crel .eq (g 88 9) 59) 489 462, dset lf 0 (4, 88), [], g)) rfl
  dsimp only at h
  rcases zif_eq h with ⟨hc1, h⟩ | ⟨hc1, h⟩
  · refine Or.inl ⟨hc1, ?_⟩
    have h := zm zy_37 h 10 (q := (513, dset lf 0 (4, 88), [], cup (cup g 88 4 5) 88 3 (w32 ((g 88 3) + 1)))) rfl
    dsimp only at h
    exact zret zy_37 h rfl rfl
  · refine Or.inr ⟨hc1, ?_⟩
    have h := zm zy_37 h 4 (q := (cond (crel .eq (g 88 9) 60) 489 471, dset lf 0 (4, 88), [], g)) rfl
    dsimp only at h
    rcases zif_eq h with ⟨hc2, h⟩ | ⟨hc2, h⟩
    · refine Or.inl ⟨hc2, ?_⟩
      have h := zm zy_37 h 10 (q := (513, dset lf 0 (4, 88), [], cup (cup g 88 4 5) 88 3 (w32 ((g 88 3) + 1)))) rfl
      dsimp only at h
      exact zret zy_37 h rfl rfl
    · refine Or.inr ⟨hc2, ?_⟩
      have h := zm zy_37 h 4 (q := (cond (crel .eq (g 88 9) 62) 489 480, dset lf 0 (4, 88), [], g)) rfl
      dsimp only at h
      rcases zif_eq h with ⟨hc3, h⟩ | ⟨hc3, h⟩
      · refine Or.inl ⟨hc3, ?_⟩
        have h := zm zy_37 h 10 (q := (513, dset lf 0 (4, 88), [], cup (cup g 88 4 5) 88 3 (w32 ((g 88 3) + 1)))) rfl
        dsimp only at h
        exact zret zy_37 h rfl rfl
      · refine Or.inr ⟨hc3, ?_⟩
        have h := zm zy_37 h 4 (q := (cond (crel .ne (g 88 9) 61) 507 489, dset lf 0 (4, 88), [], g)) rfl
        dsimp only at h
        rcases zif_ne h with ⟨hc4, h⟩ | ⟨hc4, h⟩
        · refine Or.inl ⟨hc4, ?_⟩
          have h := zm zy_37 h 3 (q := (513, dset lf 0 (4, 88), [], cup g 88 4 6)) rfl
          dsimp only at h
          exact zret zy_37 h rfl rfl
        · refine Or.inr ⟨hc4, ?_⟩
          have h := zm zy_37 h 10 (q := (513, dset lf 0 (4, 88), [], cup (cup g 88 4 5) 88 3 (w32 ((g 88 3) + 1)))) rfl
          dsimp only at h
          exact zret zy_37 h rfl rfl
theorem t_ahd0 {sv : Nat → Int32} {L n : Nat} {lf : dlf} {g : cg} {o : cg × Option cv} (h : zr sv L (n + 1) 166 0 lf [] g o) (h0 : lf 0 = (4, 253)) : ∃ g1 r2, zr sv L n 167 0 (darg 0 [(4, 253), (0, g 253 14)]) [] g (g1, some (0, r2)) ∧ ((r2 = 32 ∧ (∃ lf'4, lf'4 0 = (4, 253) ∧ zr sv L n 166 0 lf'4 [] (cup g1 253 14 (w32 ((g1 253 14) + 1))) o)) ∨ (r2 ≠ 32 ∧ (∃ g5 r6, zr sv L n 167 0 (darg 0 [(4, 253), (0, g1 253 14)]) [] g1 (g5, some (0, r6)) ∧ ((r6 ≠ 10 ∧ (∃ lf'8, lf'8 0 = (4, 253) ∧ zr sv L n 166 39 lf'8 [] g5 o)) ∨ (r6 = 10 ∧ (∃ lf'9, lf'9 0 = (4, 253) ∧ zr sv L n 166 0 lf'9 [] (cup g5 253 14 (w32 ((g5 253 14) + 1))) o)))))) := by
  rw [zov h0] at h
  have h := zm1 zy_166 h 2 (q := (5, dset lf 0 (4, 253), [(0, g 253 14), (4, 253)], g)) rfl
  dsimp only at h
  obtain ⟨g1, r2, hk, h⟩ := zcallI zy_166 h rfl rfl zy_167 zk_167
  dsimp only at hk h
  refine ⟨g1, r2, hk, ?_⟩
  have h := zm zy_166 h 2 (q := (cond (crel .eq r2 32) 26 13, dset lf 0 (4, 253), [], g1)) rfl
  dsimp only at h
  rcases zif_eq h with ⟨hc3, h⟩ | ⟨hc3, h⟩
  · refine Or.inl ⟨hc3, ?_⟩
    have h := zm zy_166 h 7 (q := (0, dset lf 0 (4, 253), [], cup g1 253 14 (w32 ((g1 253 14) + 1)))) rfl
    dsimp only at h
    exact ⟨_, rfl, h⟩
  · refine Or.inr ⟨hc3, ?_⟩
    have h := zm zy_166 h 3 (q := (18, dset lf 0 (4, 253), [(0, g1 253 14), (4, 253)], g1)) rfl
    dsimp only at h
    obtain ⟨g5, r6, hk, h⟩ := zcallI zy_166 h rfl rfl zy_167 zk_167
    dsimp only at hk h
    refine ⟨g5, r6, hk, ?_⟩
    have h := zm zy_166 h 2 (q := (cond (crel .ne r6 10) 39 26, dset lf 0 (4, 253), [], g5)) rfl
    dsimp only at h
    rcases zif_ne h with ⟨hc7, h⟩ | ⟨hc7, h⟩
    · refine Or.inl ⟨hc7, ?_⟩
      exact ⟨_, rfl, h⟩
    · refine Or.inr ⟨hc7, ?_⟩
      have h := zm zy_166 h 7 (q := (0, dset lf 0 (4, 253), [], cup g5 253 14 (w32 ((g5 253 14) + 1)))) rfl
      dsimp only at h
      exact ⟨_, rfl, h⟩
theorem t_ahd39 {sv : Nat → Int32} {L n : Nat} {lf : dlf} {g : cg} {o : cg × Option cv} (h : zr sv L n 166 39 lf [] g o) (h0 : lf 0 = (4, 253)) : ∃ g1 r2, zr sv L n 167 0 (darg 0 [(4, 253), (0, g 253 14)]) [] (cup g 253 13 (g 253 14)) (g1, some (0, r2)) ∧ ((r2 ≠ (-1) ∧ (∃ g4 r5, zr sv L n 168 0 (darg 0 [(0, r2)]) [] (cup g1 253 15 r2) (g4, some (0, r5)) ∧ ((r5 = 0 ∧ (∃ g7 r8, zr sv L n 169 0 (darg 0 [(0, r2)]) [] g4 (g7, some (0, r8)) ∧ ((r8 = 0 ∧ ((r2 = 59 ∧ (o = (cup (cup g7 253 14 (w32 ((g7 253 14) + 1))) 253 12 4, none))) ∨ (r2 ≠ 59 ∧ ((r2 = 60 ∧ (o = (cup (cup g7 253 14 (w32 ((g7 253 14) + 1))) 253 12 4, none))) ∨ (r2 ≠ 60 ∧ ((r2 = 62 ∧ (o = (cup (cup g7 253 14 (w32 ((g7 253 14) + 1))) 253 12 4, none))) ∨ (r2 ≠ 62 ∧ ((r2 ≠ 61 ∧ (o = (cup (cup g7 253 14 (w32 ((g7 253 14) + 1))) 253 12 1, none))) ∨ (r2 = 61 ∧ (o = (cup (cup g7 253 14 (w32 ((g7 253 14) + 1))) 253 12 4, none))))))))))) ∨ (r8 ≠ 0 ∧ (∃ lf'14, lf'14 0 = (4, 253) ∧ zr sv L n 166 128 lf'14 [] (cup g7 253 15 0) o))))) ∨ (r5 ≠ 0 ∧ (∃ lf'15, lf'15 0 = (4, 253) ∧ zr sv L n 166 81 lf'15 [] g4 o))))) ∨ (r2 = (-1) ∧ (o = (cup (cup g1 253 15 r2) 253 12 0, none)))) := by
  rw [zov h0] at h
  have h := zm zy_166 h 7 (q := (52, dset lf 0 (4, 253), [(0, g 253 14), (4, 253)], cup g 253 13 (g 253 14))) rfl
  dsimp only at h
  obtain ⟨g1, r2, hk, h⟩ := zcallI zy_166 h rfl rfl zy_167 zk_167
  dsimp only at hk h
  refine ⟨g1, r2, hk, ?_⟩
  have h := zm zy_166 h 7 (q := (cond (crel .ne r2 ((-1))) 74 66, dset (dset lf 0 (4, 253)) 1 (0, r2), [], cup g1 253 15 r2)) rfl
  dsimp only at h
  rcases zif_ne h with ⟨hc3, h⟩ | ⟨hc3, h⟩
  · refine Or.inl ⟨hc3, ?_⟩
    have h := zm zy_166 h 1 (q := (75, dset (dset lf 0 (4, 253)) 1 (0, r2), [(0, r2)], cup g1 253 15 r2)) rfl
    dsimp only at h
    obtain ⟨g4, r5, hk, h⟩ := zcallI zy_166 h rfl rfl zy_168 zk_168
    dsimp only at hk h
    refine ⟨g4, r5, hk, ?_⟩
    have h := zm zy_166 h 1 (q := (cond (crel .eq r5 0) 116 81, dset (dset lf 0 (4, 253)) 1 (0, r2), [], g4)) rfl
    dsimp only at h
    rcases zif_eq h with ⟨hc6, h⟩ | ⟨hc6, h⟩
    · refine Or.inl ⟨hc6, ?_⟩
      have h := zm zy_166 h 1 (q := (117, dset (dset lf 0 (4, 253)) 1 (0, r2), [(0, r2)], g4)) rfl
      dsimp only at h
      obtain ⟨g7, r8, hk, h⟩ := zcallI zy_166 h rfl rfl zy_169 zk_169
      dsimp only at hk h
      refine ⟨g7, r8, hk, ?_⟩
      have h := zm zy_166 h 1 (q := (cond (crel .eq r8 0) 208 123, dset (dset lf 0 (4, 253)) 1 (0, r2), [], g7)) rfl
      dsimp only at h
      rcases zif_eq h with ⟨hc9, h⟩ | ⟨hc9, h⟩
      · refine Or.inl ⟨hc9, ?_⟩
        have h := zm zy_166 h 10 (q := (cond (crel .eq r2 59) 243 225, dset (dset lf 0 (4, 253)) 1 (0, r2), [(4, 253)], cup g7 253 14 (w32 ((g7 253 14) + 1)))) rfl
        dsimp only at h
        rcases zif_eq h with ⟨hc10, h⟩ | ⟨hc10, h⟩
        · refine Or.inl ⟨hc10, ?_⟩
          have h := zm zy_166 h 3 (q := (251, dset (dset lf 0 (4, 253)) 1 (0, r2), [], cup (cup g7 253 14 (w32 ((g7 253 14) + 1))) 253 12 4)) rfl
          dsimp only at h
          exact zret zy_166 h rfl rfl
        · refine Or.inr ⟨hc10, ?_⟩
          have h := zm zy_166 h 3 (q := (cond (crel .eq r2 60) 243 231, dset (dset lf 0 (4, 253)) 1 (0, r2), [(4, 253)], cup g7 253 14 (w32 ((g7 253 14) + 1)))) rfl
          dsimp only at h
          rcases zif_eq h with ⟨hc11, h⟩ | ⟨hc11, h⟩
          · refine Or.inl ⟨hc11, ?_⟩
            have h := zm zy_166 h 3 (q := (251, dset (dset lf 0 (4, 253)) 1 (0, r2), [], cup (cup g7 253 14 (w32 ((g7 253 14) + 1))) 253 12 4)) rfl
            dsimp only at h
            exact zret zy_166 h rfl rfl
          · refine Or.inr ⟨hc11, ?_⟩
            have h := zm zy_166 h 3 (q := (cond (crel .eq r2 62) 243 237, dset (dset lf 0 (4, 253)) 1 (0, r2), [(4, 253)], cup g7 253 14 (w32 ((g7 253 14) + 1)))) rfl
            dsimp only at h
            rcases zif_eq h with ⟨hc12, h⟩ | ⟨hc12, h⟩
            · refine Or.inl ⟨hc12, ?_⟩
              have h := zm zy_166 h 3 (q := (251, dset (dset lf 0 (4, 253)) 1 (0, r2), [], cup (cup g7 253 14 (w32 ((g7 253 14) + 1))) 253 12 4)) rfl
              dsimp only at h
              exact zret zy_166 h rfl rfl
            · refine Or.inr ⟨hc12, ?_⟩
              have h := zm zy_166 h 3 (q := (cond (crel .ne r2 61) 247 243, dset (dset lf 0 (4, 253)) 1 (0, r2), [(4, 253)], cup g7 253 14 (w32 ((g7 253 14) + 1)))) rfl
              dsimp only at h
              rcases zif_ne h with ⟨hc13, h⟩ | ⟨hc13, h⟩
              · refine Or.inl ⟨hc13, ?_⟩
                have h := zm zy_166 h 2 (q := (251, dset (dset lf 0 (4, 253)) 1 (0, r2), [], cup (cup g7 253 14 (w32 ((g7 253 14) + 1))) 253 12 1)) rfl
                dsimp only at h
                exact zret zy_166 h rfl rfl
              · refine Or.inr ⟨hc13, ?_⟩
                have h := zm zy_166 h 3 (q := (251, dset (dset lf 0 (4, 253)) 1 (0, r2), [], cup (cup g7 253 14 (w32 ((g7 253 14) + 1))) 253 12 4)) rfl
                dsimp only at h
                exact zret zy_166 h rfl rfl
      · refine Or.inr ⟨hc9, ?_⟩
        have h := zm zy_166 h 3 (q := (128, dset (dset lf 0 (4, 253)) 1 (0, r2), [], cup g7 253 15 0)) rfl
        dsimp only at h
        exact ⟨_, rfl, h⟩
    · refine Or.inr ⟨hc6, ?_⟩
      exact ⟨_, rfl, h⟩
  · refine Or.inr ⟨hc3, ?_⟩
    have h := zm zy_166 h 4 (q := (251, dset (dset lf 0 (4, 253)) 1 (0, r2), [], cup (cup g1 253 15 r2) 253 12 0)) rfl
    dsimp only at h
    exact zret zy_166 h rfl rfl
theorem t_ahd81 {sv : Nat → Int32} {L n : Nat} {lf : dlf} {g : cg} {o : cg × Option cv} (h : zr sv L (n + 1) 166 81 lf [] g o) (h0 : lf 0 = (4, 253)) : ∃ g1 r2, zr sv L n 167 0 (darg 0 [(4, 253), (0, g 253 14)]) [] g (g1, some (0, r2)) ∧ (∃ g3 r4, zr sv L n 168 0 (darg 0 [(0, r2)]) [] g1 (g3, some (0, r4)) ∧ ((r4 = 0 ∧ (∃ lf'6, lf'6 0 = (4, 253) ∧ zr sv L n 166 108 lf'6 [] g3 o)) ∨ (r4 ≠ 0 ∧ (∃ lf'7, lf'7 0 = (4, 253) ∧ zr sv L n 166 81 lf'7 [] (cup g3 253 14 (w32 ((g3 253 14) + 1))) o)))) := by
  rw [zov h0] at h
  have h := zm1 zy_166 h 2 (q := (86, dset lf 0 (4, 253), [(0, g 253 14), (4, 253)], g)) rfl
  dsimp only at h
  obtain ⟨g1, r2, hk, h⟩ := zcallI zy_166 h rfl rfl zy_167 zk_167
  dsimp only at hk h
  refine ⟨g1, r2, hk, ?_⟩
  obtain ⟨g3, r4, hk, h⟩ := zcallI zy_166 h rfl rfl zy_168 zk_168
  dsimp only at hk h
  refine ⟨g3, r4, hk, ?_⟩
  have h := zm zy_166 h 1 (q := (cond (crel .eq r4 0) 108 95, dset lf 0 (4, 253), [], g3)) rfl
  dsimp only at h
  rcases zif_eq h with ⟨hc5, h⟩ | ⟨hc5, h⟩
  · refine Or.inl ⟨hc5, ?_⟩
    exact ⟨_, rfl, h⟩
  · refine Or.inr ⟨hc5, ?_⟩
    have h := zm zy_166 h 7 (q := (81, dset lf 0 (4, 253), [], cup g3 253 14 (w32 ((g3 253 14) + 1)))) rfl
    dsimp only at h
    exact ⟨_, rfl, h⟩
theorem t_ahd108 {sv : Nat → Int32} {L n : Nat} {lf : dlf} {g : cg} {o : cg × Option cv} (h : zr sv L n 166 108 lf [] g o) (h0 : lf 0 = (4, 253)) : o = (cup g 253 12 2, none) := by
  rw [zov h0] at h
  have h := zm zy_166 h 4 (q := (251, dset lf 0 (4, 253), [], cup g 253 12 2)) rfl
  dsimp only at h
  exact zret zy_166 h rfl rfl
theorem t_ahd128 {sv : Nat → Int32} {L n : Nat} {lf : dlf} {g : cg} {o : cg × Option cv} (h : zr sv L (n + 1) 166 128 lf [] g o) (h0 : lf 0 = (4, 253)) : ∃ g1 r2, zr sv L n 167 0 (darg 0 [(4, 253), (0, g 253 14)]) [] g (g1, some (0, r2)) ∧ (∃ g3 r4, zr sv L n 169 0 (darg 0 [(0, r2)]) [] g1 (g3, some (0, r4)) ∧ ((r4 = 0 ∧ (∃ lf'6, lf'6 0 = (4, 253) ∧ zr sv L n 166 183 lf'6 [] g3 o)) ∨ (r4 ≠ 0 ∧ (∃ g7 r8, zr sv L n 167 0 (darg 0 [(4, 253), (0, g3 253 14)]) [] g3 (g7, some (0, r8)) ∧ (∃ g9 r10, zr sv L n 36 0 (darg 0 [(0, 100000), (0, w32 ((w32 ((w32 (10 * (g3 253 15))) + r8)) - 48))]) [] g7 (g9, some (0, r10)) ∧ (∃ lf'11, lf'11 0 = (4, 253) ∧ zr sv L n 166 128 lf'11 [] (cup (cup g9 253 15 r10) 253 14 (w32 ((g9 253 14) + 1))) o)))))) := by
  rw [zov h0] at h
  have h := zm1 zy_166 h 2 (q := (133, dset lf 0 (4, 253), [(0, g 253 14), (4, 253)], g)) rfl
  dsimp only at h
  obtain ⟨g1, r2, hk, h⟩ := zcallI zy_166 h rfl rfl zy_167 zk_167
  dsimp only at hk h
  refine ⟨g1, r2, hk, ?_⟩
  obtain ⟨g3, r4, hk, h⟩ := zcallI zy_166 h rfl rfl zy_169 zk_169
  dsimp only at hk h
  refine ⟨g3, r4, hk, ?_⟩
  have h := zm zy_166 h 1 (q := (cond (crel .eq r4 0) 183 142, dset lf 0 (4, 253), [], g3)) rfl
  dsimp only at h
  rcases zif_eq h with ⟨hc5, h⟩ | ⟨hc5, h⟩
  · refine Or.inl ⟨hc5, ?_⟩
    exact ⟨_, rfl, h⟩
  · refine Or.inr ⟨hc5, ?_⟩
    have h := zm zy_166 h 9 (q := (157, dset lf 0 (4, 253), [(0, g3 253 14), (4, 253), (0, w32 (10 * (g3 253 15))), (0, 100000), (4, 253)], g3)) rfl
    dsimp only at h
    obtain ⟨g7, r8, hk, h⟩ := zcallI zy_166 h rfl rfl zy_167 zk_167
    dsimp only at hk h
    refine ⟨g7, r8, hk, ?_⟩
    have h := zm zy_166 h 3 (q := (164, dset lf 0 (4, 253), [(0, w32 ((w32 ((w32 (10 * (g3 253 15))) + r8)) - 48)), (0, 100000), (4, 253)], g7)) rfl
    dsimp only at h
    obtain ⟨g9, r10, hk, h⟩ := zcallI zy_166 h rfl rfl zy_36 zk_36
    dsimp only at hk h
    refine ⟨g9, r10, hk, ?_⟩
    have h := zm zy_166 h 8 (q := (128, dset lf 0 (4, 253), [], cup (cup g9 253 15 r10) 253 14 (w32 ((g9 253 14) + 1)))) rfl
    dsimp only at h
    exact ⟨_, rfl, h⟩
theorem t_ahd183 {sv : Nat → Int32} {L n : Nat} {lf : dlf} {g : cg} {o : cg × Option cv} (h : zr sv L n 166 183 lf [] g o) (h0 : lf 0 = (4, 253)) : (w32 ((g 253 14) - (g 253 13)) ≤ 4 ∧ (o = (cup g 253 12 3, none))) ∨ (4 < w32 ((g 253 14) - (g 253 13)) ∧ (o = (cup g 253 12 1, none))) := by
  rw [zov h0] at h
  have h := zm zy_166 h 8 (q := (cond (crel .le (w32 ((g 253 14) - (g 253 13))) 4) 201 197, dset lf 0 (4, 253), [(4, 253)], g)) rfl
  dsimp only at h
  rcases zif_le h with ⟨hc1, h⟩ | ⟨hc1, h⟩
  · refine Or.inl ⟨hc1, ?_⟩
    have h := zm zy_166 h 3 (q := (251, dset lf 0 (4, 253), [], cup g 253 12 3)) rfl
    dsimp only at h
    exact zret zy_166 h rfl rfl
  · refine Or.inr ⟨hc1, ?_⟩
    have h := zm zy_166 h 4 (q := (251, dset lf 0 (4, 253), [], cup g 253 12 1)) rfl
    dsimp only at h
    exact zret zy_166 h rfl rfl
end
end
section
/-! tokens: what advance() and ahead() find -/
def blk (c : Int) : Prop := c = 32 ∨ c = 10
def sml (c : Int) : Prop := 97 ≤ c ∧ c ≤ 122
def dgt (c : Int) : Prop := 48 ≤ c ∧ c ≤ 57
def sgn (c : Int) : Prop := c = 59 ∨ c = 60 ∨ c = 61 ∨ c = 62
def RN (P : Int → Prop) (b : Nat → Int) (m p q : Nat) : Prop := p ≤ q ∧ q ≤ m ∧ (∀ j, p ≤ j → j < q → P (b j)) ∧ (q < m → ¬ P (b q))
theorem RN.un {P : Int → Prop} {b : Nat → Int} {m p q q' : Nat} (h : RN P b m p q) (h' : RN P b m p q') : q = q' := by
  obtain ⟨a1, a2, a3, a4⟩ := h
  obtain ⟨c1, c2, c3, c4⟩ := h'
  rcases Nat.lt_trichotomy q q' with e | e | e
  · exact absurd (c3 q a1 e) (a4 (by omega))
  · exact e
  · exact absurd (a3 q' c1 e) (c4 (by omega))
theorem RN.step {P : Int → Prop} {b : Nat → Int} {m p q : Nat} (hb : P (b p)) (h : RN P b m (p + 1) q) : RN P b m p q := by
  obtain ⟨a1, a2, a3, a4⟩ := h
  refine ⟨by omega, a2, fun j h1 h2 => ?_, a4⟩
  by_cases e : j = p
  · rw [e]; exact hb
  · exact a3 j (by omega) h2
theorem RN.stop {P : Int → Prop} {b : Nat → Int} {m p : Nat} (hm : p ≤ m) (hb : p < m → ¬ P (b p)) : RN P b m p p := ⟨Nat.le_refl _, hm, fun j h1 h2 => by omega, hb⟩
def P5 (b : Nat → Int) (p : Nat) : Nat → Int
  | 0 => 0
  | k + 1 => P5 b p k * 32 + (b (p + k) - 96)
def DC (b : Nat → Int) (p : Nat) : Nat → Int
  | 0 => 0
  | k + 1 => DC b p k * 10 + (b (p + k) - 48)
theorem P5_bd {b : Nat → Int} {p : Nat} : ∀ k : Nat, (∀ j, p ≤ j → j < p + k → sml (b j)) → 0 ≤ P5 b p k ∧ P5 b p k + 1 ≤ ((32 ^ k : Nat) : Int)
  | 0, _ => ⟨by show (0 : Int) ≤ 0; omega, by show (0 : Int) + 1 ≤ ((1 : Nat) : Int); omega⟩
  | k + 1, h => by
    obtain ⟨h1, h2⟩ := P5_bd k (fun j a c => h j a (by omega))
    have h3 := h (p + k) (by omega) (by omega)
    unfold sml at h3
    have e : (32 : Nat) ^ (k + 1) = 32 ^ k * 32 := Nat.pow_succ _ _
    have e2 : P5 b p (k + 1) = P5 b p k * 32 + (b (p + k) - 96) := rfl
    rw [e2, e]
    omega
theorem P5_40 {b : Nat → Int} {p k : Nat} (hk : k ≤ 8) (h : ∀ j, p ≤ j → j < p + k → sml (b j)) : 0 ≤ P5 b p k ∧ P5 b p k < 1099511627776 := by
  obtain ⟨h1, h2⟩ := P5_bd k h
  have h3 : (32 : Nat) ^ k ≤ 32 ^ 8 := Nat.pow_le_pow_right (by decide) hk
  have h4 : (32 : Nat) ^ 8 = 1099511627776 := by decide
  omega
theorem DC_bd {b : Nat → Int} {p : Nat} : ∀ k : Nat, (∀ j, p ≤ j → j < p + k → dgt (b j)) → 0 ≤ DC b p k ∧ DC b p k + 1 ≤ ((10 ^ k : Nat) : Int)
  | 0, _ => ⟨by show (0 : Int) ≤ 0; omega, by show (0 : Int) + 1 ≤ ((1 : Nat) : Int); omega⟩
  | k + 1, h => by
    obtain ⟨h1, h2⟩ := DC_bd k (fun j a c => h j a (by omega))
    have h3 := h (p + k) (by omega) (by omega)
    unfold dgt at h3
    have e : (10 : Nat) ^ (k + 1) = 10 ^ k * 10 := Nat.pow_succ _ _
    have e2 : DC b p (k + 1) = DC b p k * 10 + (b (p + k) - 48) := rfl
    rw [e2, e]
    omega
theorem DC_4 {b : Nat → Int} {p k : Nat} (hk : k ≤ 4) (h : ∀ j, p ≤ j → j < p + k → dgt (b j)) : 0 ≤ DC b p k ∧ DC b p k < 10000 := by
  obtain ⟨h1, h2⟩ := DC_bd k h
  have h3 : (10 : Nat) ^ k ≤ 10 ^ 4 := Nat.pow_le_pow_right (by decide) hk
  have h4 : (10 : Nat) ^ 4 = 10000 := by decide
  omega
theorem cup_row (g : cg) {k k' : Nat} (j : Nat) (z : Int) (h : k' ≠ k) : cup g k j z k' = g k' := by
  funext j'
  unfold cup
  rw [if_neg (fun e => h e.1)]
/-- nothing but the text's token is another -/
def FT (g' g : cg) : Prop := ∀ k j : Nat, ¬ (k = 88 ∧ 3 ≤ j ∧ j ≤ 9) → g' k j = g k j
theorem FT.rf (g : cg) : FT g g := fun _ _ _ => rfl
theorem FT.cup {g' g : cg} (h : FT g' g) {i : Nat} (z : Int) (hi : 3 ≤ i ∧ i ≤ 9) : FT (cup g' 88 i z) g := by
  intro k j hn
  rw [cup_ne (fun e => hn ⟨e.1, by rw [e.2]; exact hi⟩)]
  exact h k j hn
theorem FT.tr {a b c : cg} (h : FT a b) (h' : FT b c) : FT a c := fun k j hn => (h k j hn).trans (h' k j hn)
theorem FT.row {g' g : cg} (h : FT g' g) {k : Nat} (hk : k ≠ 88) : g' k = g k := by
  funext j
  exact h k j (fun e => hk e.1)
section Adv
variable {sv : Nat → Int32} {L : Nat} {o : cg × Option cv}
theorem adv_skip : ∀ (n : Nat) {lf : dlf} {g : cg} {p m : Nat}, lf 0 = (4, 88) → g 88 3 = (p : Int) → g 88 2 = (m : Int) → p ≤ m → m ≤ 900 → zr sv L n 37 0 lf [] g o → ∃ q lf', RN blk (g 2) m p q ∧ lf' 0 = (4, 88) ∧ zr sv L n 37 52 lf' [] (cup g 88 3 (q : Int)) o
  | 0, _, _, _, _, _, _, _, _, _, h => (zr_0 h).elim
  | n + 1, lf, g, p, m, h0, hp, hm, hpm, h9, h => by
    have go : blk (g 2 p) → p < m → ∀ lf', lf' 0 = (4, 88) → zr sv L n 37 0 lf' [] (cup g 88 3 ((p : Int) + 1)) o → ∃ q lf', RN blk (g 2) m p q ∧ lf' 0 = (4, 88) ∧ zr sv L (n + 1) 37 52 lf' [] (cup g 88 3 (q : Int)) o := by
      intro hb hlt lf' e1 h
      obtain ⟨q, lf2, a1, a2, a3⟩ := adv_skip n (p := p + 1) (m := m) e1 (by rw [cup_at]; omega) (by rw [cup_ne (by decide)]; exact hm) (by omega) h9 h
      rw [cup_over] at a3
      rw [cup_row g 3 _ (by decide)] at a1
      exact ⟨q, lf2, RN.step hb a1, a2, zr_m a3⟩
    rcases t_adv0 h h0 with ⟨hc, lf', e1, h⟩ | ⟨hc, h⟩
    · rw [hp, hm] at hc
      refine ⟨p, lf', RN.stop hpm (fun _ => by omega), e1, ?_⟩
      rw [cup_id hp]
      exact zr_m h
    · have h := h (by rw [hp]; omega) (by rw [hp]; omega)
      rw [hp, hm] at hc
      rw [hp] at h
      rw [show w32 ((p : Int) + 1) = (p : Int) + 1 from w32_id (by omega) (by omega)] at h
      rw [show ((p : Int)).toNat = p from rfl] at h
      rcases h with ⟨hb, lf', e1, h⟩ | ⟨hb, ⟨hb2, lf', e1, h⟩ | ⟨hb2, lf', e1, h⟩⟩
      · exact go (Or.inl hb) (by omega) lf' e1 h
      · refine ⟨p, lf', RN.stop hpm (fun _ e => ?_), e1, ?_⟩
        · rcases e with e | e
          · exact hb e
          · exact hb2 e
        · rw [cup_id hp]
          exact zr_m h
      · exact go (Or.inr hb2) (by omega) lf' e1 h
theorem min_le8 {a : Nat} (h : 8 ≤ a) : min a 8 = 8 := by omega
theorem adv_word : ∀ (n : Nat) {lf : dlf} {g : cg} {s p m : Nat}, lf 0 = (4, 88) → g 88 3 = (p : Int) → g 88 2 = (m : Int) → g 88 5 = (s : Int) → g 88 6 = P5 (g 2) s (min (p - s) 8) → s ≤ p → p ≤ m → m ≤ 900 → (∀ j, s ≤ j → j < p → sml (g 2 j)) → zr sv L n 37 140 lf [] g o → ∃ q lf', RN sml (g 2) m p q ∧ lf' 0 = (4, 88) ∧ zr sv L n 37 241 lf' [] (cup (cup g 88 6 (P5 (g 2) s (min (q - s) 8))) 88 3 (q : Int)) o
  | 0, _, _, _, _, _, _, _, _, _, _, _, _, _, _, h => (zr_0 h).elim
  | n + 1, lf, g, s, p, m, h0, hp, hm, hs, hw, hsp, hpm, h9, hl, h => by
    have stop : (p < m → ¬ sml (g 2 p)) → ∀ lf', lf' 0 = (4, 88) → zr sv L n 37 241 lf' [] g o → ∃ q lf', RN sml (g 2) m p q ∧ lf' 0 = (4, 88) ∧ zr sv L (n + 1) 37 241 lf' [] (cup (cup g 88 6 (P5 (g 2) s (min (q - s) 8))) 88 3 (q : Int)) o := by
      intro hb lf' e1 h
      refine ⟨p, lf', RN.stop hpm hb, e1, ?_⟩
      rw [cup_id hw, cup_id hp]
      exact zr_m h
    have go : sml (g 2 p) → p < m → ∀ (W : Int) lf', W = P5 (g 2) s (min (p + 1 - s) 8) → lf' 0 = (4, 88) → zr sv L n 37 140 lf' [] (cup (cup g 88 6 W) 88 3 ((p : Int) + 1)) o → ∃ q lf', RN sml (g 2) m p q ∧ lf' 0 = (4, 88) ∧ zr sv L (n + 1) 37 241 lf' [] (cup (cup g 88 6 (P5 (g 2) s (min (q - s) 8))) 88 3 (q : Int)) o := by
      intro hb hlt W lf' hW e1 h
      have er : cup (cup g 88 6 W) 88 3 ((p : Int) + 1) 2 = g 2 := by rw [cup_row _ 3 _ (by decide), cup_row _ 6 _ (by decide)]
      obtain ⟨q, lf2, a1, a2, a3⟩ := adv_word n (s := s) (p := p + 1) (m := m) e1 (by rw [cup_at]; omega) (by rw [cup_ne (by decide), cup_ne (by decide)]; exact hm) (by rw [cup_ne (by decide), cup_ne (by decide)]; exact hs) (by rw [er, cup_ne (by decide), cup_at]; exact hW) (by omega) (by omega) h9 (by
        rw [er]
        intro j c1 c2
        by_cases e : j = p
        · rw [e]; exact hb
        · exact hl j c1 (by omega)) h
      rw [er] at a1 a3
      refine ⟨q, lf2, RN.step hb a1, a2, ?_⟩
      rw [cup_comm (cup g 88 6 W) _ _ (Or.inr (by decide)), cup_over, cup_over] at a3
      exact zr_m a3
    rcases t_adv140 h h0 with ⟨hc, lf', e1, h⟩ | ⟨hc, h⟩
    · rw [hp, hm] at hc
      exact stop (fun _ => by omega) lf' e1 h
    · have h := h (by rw [hp]; omega) (by rw [hp]; omega)
      rw [hp, hm] at hc
      rw [hp, hs] at h
      rw [show w32 ((p : Int) + 1) = (p : Int) + 1 from w32_id (by omega) (by omega), show w32 ((p : Int) - (s : Int)) = (p : Int) - (s : Int) from w32_id (by omega) (by omega)] at h
      rw [show ((p : Int)).toNat = p from rfl] at h
      rcases h with ⟨hb, lf', e1, h⟩ | ⟨hb, ⟨hb2, lf', e1, h⟩ | ⟨hb2, ⟨hk, lf', e1, h⟩ | ⟨hk, lf', e1, h⟩⟩⟩
      · exact stop (fun _ e => by unfold sml at e; omega) lf' e1 h
      · exact stop (fun _ e => by unfold sml at e; omega) lf' e1 h
      · refine go ⟨hb, hb2⟩ (by omega) (g 88 6) lf' ?_ e1 h
        rw [hw, min_le8 (by omega), min_le8 (by omega)]
      · have hk8 : p - s < 8 := by omega
        have e2 : min (p - s) 8 = p - s := by omega
        have e3 : min (p + 1 - s) 8 = p - s + 1 := by omega
        have hbd := P5_40 (b := g 2) (p := s) (k := p - s) (by omega) (fun j c1 c2 => hl j c1 (by omega))
        rw [e2] at hw
        refine go ⟨hb, hb2⟩ (by omega) _ lf' ?_ e1 h
        rw [hw, e3]
        have e4 : P5 (g 2) s (p - s + 1) = P5 (g 2) s (p - s) * 32 + (g 2 (s + (p - s)) - 96) := rfl
        rw [e4, show s + (p - s) = p by omega]
        rw [w64_id (z := P5 (g 2) s (p - s) * 32) (by omega) (by omega), w32_id (z := g 2 p - 97) (by omega) (by omega), w32_id (by omega) (by omega), w64_id (by omega) (by omega)]
        omega
theorem adv_digs : ∀ (n : Nat) {lf : dlf} {g : cg} {s p m : Nat}, lf 0 = (4, 88) → g 88 3 = (p : Int) → g 88 2 = (m : Int) → g 88 5 = (s : Int) → g 88 8 = DC (g 2) s (min (p - s) 4) → s ≤ p → p ≤ m → m ≤ 900 → (∀ j, s ≤ j → j < p → dgt (g 2 j)) → zr sv L n 37 331 lf [] g o → ∃ q lf', RN dgt (g 2) m p q ∧ lf' 0 = (4, 88) ∧ zr sv L n 37 427 lf' [] (cup (cup g 88 8 (DC (g 2) s (min (q - s) 4))) 88 3 (q : Int)) o
  | 0, _, _, _, _, _, _, _, _, _, _, _, _, _, _, h => (zr_0 h).elim
  | n + 1, lf, g, s, p, m, h0, hp, hm, hs, hw, hsp, hpm, h9, hl, h => by
    have stop : (p < m → ¬ dgt (g 2 p)) → ∀ lf', lf' 0 = (4, 88) → zr sv L n 37 427 lf' [] g o → ∃ q lf', RN dgt (g 2) m p q ∧ lf' 0 = (4, 88) ∧ zr sv L (n + 1) 37 427 lf' [] (cup (cup g 88 8 (DC (g 2) s (min (q - s) 4))) 88 3 (q : Int)) o := by
      intro hb lf' e1 h
      refine ⟨p, lf', RN.stop hpm hb, e1, ?_⟩
      rw [cup_id hw, cup_id hp]
      exact zr_m h
    have go : dgt (g 2 p) → p < m → ∀ (W : Int) lf', W = DC (g 2) s (min (p + 1 - s) 4) → lf' 0 = (4, 88) → zr sv L n 37 331 lf' [] (cup (cup g 88 8 W) 88 3 ((p : Int) + 1)) o → ∃ q lf', RN dgt (g 2) m p q ∧ lf' 0 = (4, 88) ∧ zr sv L (n + 1) 37 427 lf' [] (cup (cup g 88 8 (DC (g 2) s (min (q - s) 4))) 88 3 (q : Int)) o := by
      intro hb hlt W lf' hW e1 h
      have er : cup (cup g 88 8 W) 88 3 ((p : Int) + 1) 2 = g 2 := by rw [cup_row _ 3 _ (by decide), cup_row _ 8 _ (by decide)]
      obtain ⟨q, lf2, a1, a2, a3⟩ := adv_digs n (s := s) (p := p + 1) (m := m) e1 (by rw [cup_at]; omega) (by rw [cup_ne (by decide), cup_ne (by decide)]; exact hm) (by rw [cup_ne (by decide), cup_ne (by decide)]; exact hs) (by rw [er, cup_ne (by decide), cup_at]; exact hW) (by omega) (by omega) h9 (by
        rw [er]
        intro j c1 c2
        by_cases e : j = p
        · rw [e]; exact hb
        · exact hl j c1 (by omega)) h
      rw [er] at a1 a3
      refine ⟨q, lf2, RN.step hb a1, a2, ?_⟩
      rw [cup_comm (cup g 88 8 W) _ _ (Or.inr (by decide)), cup_over, cup_over] at a3
      exact zr_m a3
    rcases t_adv331 h h0 with ⟨hc, lf', e1, h⟩ | ⟨hc, h⟩
    · rw [hp, hm] at hc
      exact stop (fun _ => by omega) lf' e1 h
    · have h := h (by rw [hp]; omega) (by rw [hp]; omega)
      rw [hp, hm] at hc
      rw [hp, hs] at h
      rw [show w32 ((p : Int) + 1) = (p : Int) + 1 from w32_id (by omega) (by omega), show w32 ((p : Int) - (s : Int)) = (p : Int) - (s : Int) from w32_id (by omega) (by omega)] at h
      rw [show ((p : Int)).toNat = p from rfl] at h
      rcases h with ⟨hb, lf', e1, h⟩ | ⟨hb, ⟨hb2, lf', e1, h⟩ | ⟨hb2, ⟨hk, lf', e1, h⟩ | ⟨hk, lf', e1, h⟩⟩⟩
      · exact stop (fun _ e => by unfold dgt at e; omega) lf' e1 h
      · exact stop (fun _ e => by unfold dgt at e; omega) lf' e1 h
      · refine go ⟨hb, hb2⟩ (by omega) (g 88 8) lf' ?_ e1 h
        rw [hw, show min (p - s) 4 = 4 by omega, show min (p + 1 - s) 4 = 4 by omega]
      · have e2 : min (p - s) 4 = p - s := by omega
        have e3 : min (p + 1 - s) 4 = p - s + 1 := by omega
        have hbd := DC_4 (b := g 2) (p := s) (k := p - s) (by omega) (fun j c1 c2 => hl j c1 (by omega))
        rw [e2] at hw
        refine go ⟨hb, hb2⟩ (by omega) _ lf' ?_ e1 h
        rw [hw, e3]
        have e4 : DC (g 2) s (p - s + 1) = DC (g 2) s (p - s) * 10 + (g 2 (s + (p - s)) - 48) := rfl
        rw [e4, show s + (p - s) = p by omega]
        rw [w32_id (z := DC (g 2) s (p - s) * 10) (by omega) (by omega), w32_id (z := g 2 p - 48) (by omega) (by omega), w32_id (by omega) (by omega)]
theorem adv_keys : ∀ (n : Nat) {lf : dlf} {g : cg} {i : Nat}, lf 0 = (4, 88) → lf 1 = (0, (i : Int)) → i ≤ 25 → g 88 4 = 2 → (∀ j, j < i → g 89 j ≠ g 88 6) → zr sv L n 37 266 lf [] g o → (∃ j, j < 25 ∧ g 89 j = g 88 6 ∧ o = (cup (cup g 88 4 1) 88 7 (j : Int), none)) ∨ ((∀ j, j < 25 → g 89 j ≠ g 88 6) ∧ o = (g, none))
  | 0, _, _, _, _, _, _, _, _, h => (zr_0 h).elim
  | n + 1, lf, g, i, h0, h1, hi, h2, hn, h => by
    rcases t_adv266 h h0 h1 with ⟨hc, h⟩ | ⟨hc, ⟨hd, h⟩ | ⟨hd, h⟩⟩
    · exact Or.inr ⟨fun j hj => hn j (by omega), h⟩
    · exact absurd h2 hd
    · have h := h (by omega) (by omega)
      rw [show ((i : Int)).toNat = i from rfl, show w32 ((i : Int) + 1) = ((i + 1 : Nat) : Int) from w32_id (z := (i : Int) + 1) (by omega) (by omega)] at h
      rcases h with ⟨he, lf', e1, e2, h⟩ | ⟨he, lf', e1, e2, h⟩
      · refine adv_keys n e1 e2 (by omega) h2 (fun j hj => ?_) h
        by_cases e : j = i
        · intro z
          exact he (csgn_z.mpr (by rw [← e, z]; omega))
        · exact hn j (by omega)
      · have he := csgn_z.mp he
        refine Or.inl ⟨i, by omega, by omega, ?_⟩
        cases n with
        | zero => exact (zr_0 h).elim
        | succ n =>
          rcases t_adv266 h e1 e2 with ⟨hc, h⟩ | ⟨hc, ⟨hd, h⟩ | ⟨hd, h⟩⟩
          · exact h
          · exact h
          · rw [cup_ne (by decide), cup_at] at hd
            exact absurd hd (by decide)
def TKC (b ks : Nat → Int) (m p : Nat) (g : cg) : Prop :=
  (p = m ∧ g 88 4 = 0 ∧ g 88 7 = -1 ∧ g 88 3 = (p : Int)) ∨
  (p < m ∧ sml (b p) ∧ ∃ q : Nat, RN sml b m p q ∧ g 88 3 = (q : Int) ∧ ((8 < q - p ∧ g 88 4 = 3 ∧ g 88 7 = -1) ∨ (q - p ≤ 8 ∧ g 88 6 = P5 b p (q - p) ∧ ((∃ i : Nat, i < 25 ∧ ks i = P5 b p (q - p) ∧ g 88 7 = (i : Int) ∧ g 88 4 = 1) ∨ ((∀ i, i < 25 → ks i ≠ P5 b p (q - p)) ∧ g 88 7 = -1 ∧ g 88 4 = 2))))) ∨
  (p < m ∧ dgt (b p) ∧ ∃ q : Nat, RN dgt b m p q ∧ g 88 3 = (q : Int) ∧ g 88 7 = -1 ∧ ((4 < q - p ∧ g 88 4 = 6) ∨ (q - p ≤ 4 ∧ g 88 4 = 4 ∧ g 88 8 = DC b p (q - p)))) ∨
  (p < m ∧ sgn (b p) ∧ g 88 3 = (p : Int) + 1 ∧ g 88 4 = 5 ∧ g 88 9 = b p ∧ g 88 7 = -1) ∨
  (p < m ∧ ¬ sml (b p) ∧ ¬ dgt (b p) ∧ ¬ sgn (b p) ∧ g 88 4 = 6 ∧ g 88 7 = -1)
/-- letters, from where the token begins -/
theorem adv_w {n : Nat} {lf : dlf} {g : cg} {p m : Nat} (h0 : lf 0 = (4, 88)) (hp : g 88 3 = (p : Int)) (hm : g 88 2 = (m : Int)) (hs : g 88 5 = (p : Int)) (hw : g 88 6 = 0) (hk : g 88 7 = -1) (hpm : p < m) (h9 : m ≤ 900) (hb : sml (g 2 p)) (h : zr sv L n 37 140 lf [] g o) : FT o.1 g ∧ o.1 88 5 = (p : Int) ∧ TKC (g 2) (g 89) m p o.1 := by
  obtain ⟨q, lf1, hR, e0, h⟩ := adv_word n (s := p) h0 hp hm hs (by rw [hw, Nat.sub_self]; rfl) (Nat.le_refl _) (by omega) h9 (fun j a c => by omega) h
  have hq : p < q := by
    rcases Nat.lt_or_ge p q with e | e
    · exact e
    · exact absurd hb (by
        have e2 : q = p := by have := hR.1; omega
        rw [e2] at hR
        exact hR.2.2.2 hpm)
  have hq9 : q ≤ 900 := by have := hR.2.1; omega
  generalize hG : cup (cup g 88 6 (P5 (g 2) p (min (q - p) 8))) 88 3 (q : Int) = G at h
  have f1 : FT G g := by rw [← hG]; exact ((FT.rf g).cup _ (by decide)).cup _ (by decide)
  have g3 : G 88 3 = (q : Int) := by rw [← hG, cup_at]
  have g6 : G 88 6 = P5 (g 2) p (min (q - p) 8) := by rw [← hG, cup_ne (by decide), cup_at]
  have g5 : G 88 5 = (p : Int) := by rw [← hG, cup_ne (by decide), cup_ne (by decide)]; exact hs
  have g7 : G 88 7 = -1 := by rw [← hG, cup_ne (by decide), cup_ne (by decide)]; exact hk
  have gk : G 89 = g 89 := f1.row (by decide)
  rcases t_adv241 h e0 with ⟨hc, lf2, e1, e2, h⟩ | ⟨hc, lf2, e1, e2, h⟩
  · rw [g3, g5, w32_id (by omega) (by omega)] at hc
    have e8 : min (q - p) 8 = q - p := by omega
    rw [e8] at g6
    have c6 : cup G 88 4 2 88 6 = P5 (g 2) p (q - p) := by rw [cup_ne (by decide)]; exact g6
    have ck : cup G 88 4 2 89 = g 89 := by rw [cup_row _ 4 _ (by decide)]; exact gk
    rcases adv_keys n (i := 0) e1 e2 (by decide) (by rw [cup_at]) (fun j hj => absurd hj (Nat.not_lt_zero j)) h with ⟨j, hj, he, ho⟩ | ⟨hn, ho⟩
    · rw [c6, ck] at he
      rw [ho]
      refine ⟨((f1.cup _ (by decide)).cup _ (by decide)).cup _ (by decide), ?_, Or.inr (Or.inl ⟨hpm, hb, q, hR, ?_, Or.inr ⟨by omega, ?_, Or.inl ⟨j, hj, he, ?_, ?_⟩⟩⟩)⟩
      · show cup (cup (cup G 88 4 2) 88 4 1) 88 7 (j : Int) 88 5 = _
        rw [cup_ne (by decide), cup_ne (by decide), cup_ne (by decide)]; exact g5
      · show cup (cup (cup G 88 4 2) 88 4 1) 88 7 (j : Int) 88 3 = _
        rw [cup_ne (by decide), cup_ne (by decide), cup_ne (by decide)]; exact g3
      · show cup (cup (cup G 88 4 2) 88 4 1) 88 7 (j : Int) 88 6 = _
        rw [cup_ne (by decide), cup_ne (by decide), cup_ne (by decide)]; exact g6
      · show cup (cup (cup G 88 4 2) 88 4 1) 88 7 (j : Int) 88 7 = (j : Int)
        rw [cup_at]
      · show cup (cup (cup G 88 4 2) 88 4 1) 88 7 (j : Int) 88 4 = _
        rw [cup_ne (by decide), cup_at]
    · rw [c6, ck] at hn
      rw [ho]
      refine ⟨f1.cup _ (by decide), ?_, Or.inr (Or.inl ⟨hpm, hb, q, hR, ?_, Or.inr ⟨by omega, ?_, Or.inr ⟨hn, ?_, ?_⟩⟩⟩)⟩
      · show cup G 88 4 2 88 5 = _
        rw [cup_ne (by decide)]; exact g5
      · show cup G 88 4 2 88 3 = _
        rw [cup_ne (by decide)]; exact g3
      · exact c6
      · show cup G 88 4 2 88 7 = _
        rw [cup_ne (by decide)]; exact g7
      · show cup G 88 4 2 88 4 = _
        rw [cup_at]
  · rw [g3, g5, w32_id (by omega) (by omega)] at hc
    have ho : o = (cup G 88 4 3, none) := by
      cases n with
      | zero => exact (zr_0 h).elim
      | succ n =>
        rcases t_adv266 h e1 e2 with ⟨hd, h⟩ | ⟨hd, ⟨hd, h⟩ | ⟨hd, h⟩⟩
        · exact h
        · exact h
        · rw [cup_at] at hd
          exact absurd hd (by decide)
    rw [ho]
    refine ⟨f1.cup _ (by decide), ?_, Or.inr (Or.inl ⟨hpm, hb, q, hR, ?_, Or.inl ⟨by omega, ?_, ?_⟩⟩)⟩
    · show cup G 88 4 3 88 5 = _
      rw [cup_ne (by decide)]; exact g5
    · show cup G 88 4 3 88 3 = _
      rw [cup_ne (by decide)]; exact g3
    · show cup G 88 4 3 88 4 = _
      rw [cup_at]
    · show cup G 88 4 3 88 7 = _
      rw [cup_ne (by decide)]; exact g7
/-- digits -/
theorem adv_d {n : Nat} {lf : dlf} {g : cg} {p m : Nat} (h0 : lf 0 = (4, 88)) (hp : g 88 3 = (p : Int)) (hm : g 88 2 = (m : Int)) (hs : g 88 5 = (p : Int)) (hw : g 88 8 = 0) (hk : g 88 7 = -1) (hpm : p < m) (h9 : m ≤ 900) (hb : dgt (g 2 p)) (h : zr sv L n 37 331 lf [] g o) : FT o.1 g ∧ o.1 88 5 = (p : Int) ∧ TKC (g 2) (g 89) m p o.1 := by
  obtain ⟨q, lf1, hR, e0, h⟩ := adv_digs n (s := p) h0 hp hm hs (by rw [hw, Nat.sub_self]; rfl) (Nat.le_refl _) (by omega) h9 (fun j a c => by omega) h
  have hq9 : q ≤ 900 := by have := hR.2.1; omega
  have hq1 := hR.1
  generalize hG : cup (cup g 88 8 (DC (g 2) p (min (q - p) 4))) 88 3 (q : Int) = G at h
  have f1 : FT G g := by rw [← hG]; exact ((FT.rf g).cup _ (by decide)).cup _ (by decide)
  have g3 : G 88 3 = (q : Int) := by rw [← hG, cup_at]
  have g8 : G 88 8 = DC (g 2) p (min (q - p) 4) := by rw [← hG, cup_ne (by decide), cup_at]
  have g5 : G 88 5 = (p : Int) := by rw [← hG, cup_ne (by decide), cup_ne (by decide)]; exact hs
  have g7 : G 88 7 = -1 := by rw [← hG, cup_ne (by decide), cup_ne (by decide)]; exact hk
  rcases t_adv427 h e0 with ⟨hc, ho⟩ | ⟨hc, ho⟩
  · rw [g3, g5, w32_id (by omega) (by omega)] at hc
    rw [show min (q - p) 4 = q - p by omega] at g8
    rw [ho]
    refine ⟨f1.cup _ (by decide), ?_, Or.inr (Or.inr (Or.inl ⟨hpm, hb, q, hR, ?_, ?_, Or.inr ⟨by omega, ?_, ?_⟩⟩))⟩
    · show cup G 88 4 4 88 5 = _
      rw [cup_ne (by decide)]; exact g5
    · show cup G 88 4 4 88 3 = _
      rw [cup_ne (by decide)]; exact g3
    · show cup G 88 4 4 88 7 = _
      rw [cup_ne (by decide)]; exact g7
    · show cup G 88 4 4 88 4 = _
      rw [cup_at]
    · show cup G 88 4 4 88 8 = _
      rw [cup_ne (by decide)]; exact g8
  · rw [g3, g5, w32_id (by omega) (by omega)] at hc
    rw [ho]
    refine ⟨f1.cup _ (by decide), ?_, Or.inr (Or.inr (Or.inl ⟨hpm, hb, q, hR, ?_, ?_, Or.inl ⟨by omega, ?_⟩⟩))⟩
    · show cup G 88 4 6 88 5 = _
      rw [cup_ne (by decide)]; exact g5
    · show cup G 88 4 6 88 3 = _
      rw [cup_ne (by decide)]; exact g3
    · show cup G 88 4 6 88 7 = _
      rw [cup_ne (by decide)]; exact g7
    · show cup G 88 4 6 88 4 = _
      rw [cup_at]
end Adv
end
section
/-! advance() and ahead() as a whole -/
section Adv2
variable {sv : Nat → Int32} {L : Nat} {o : cg × Option cv}
theorem adv_sg {n : Nat} {lf : dlf} {g : cg} {p m : Nat} (h0 : lf 0 = (4, 88)) (hp : g 88 3 = (p : Int)) (hs : g 88 5 = (p : Int)) (h9' : g 88 9 = g 2 p) (hk : g 88 7 = -1) (hpm : p < m) (h9 : m ≤ 900) (hb1 : ¬ sml (g 2 p)) (hb2 : ¬ dgt (g 2 p)) (h : zr sv L n 37 453 lf [] g o) : FT o.1 g ∧ o.1 88 5 = (p : Int) ∧ TKC (g 2) (g 89) m p o.1 := by
  have yes : sgn (g 2 p) → o = (cup (cup g 88 4 5) 88 3 (w32 ((g 88 3) + 1)), none) → FT o.1 g ∧ o.1 88 5 = (p : Int) ∧ TKC (g 2) (g 89) m p o.1 := by
    intro hsg ho
    rw [hp, w32_id (by omega) (by omega)] at ho
    rw [ho]
    refine ⟨((FT.rf g).cup _ (by decide)).cup _ (by decide), ?_, Or.inr (Or.inr (Or.inr (Or.inl ⟨hpm, hsg, ?_, ?_, ?_, ?_⟩)))⟩
    · show cup (cup g 88 4 5) 88 3 ((p : Int) + 1) 88 5 = _
      rw [cup_ne (by decide), cup_ne (by decide)]; exact hs
    · show cup (cup g 88 4 5) 88 3 ((p : Int) + 1) 88 3 = (p : Int) + 1
      rw [cup_at]
    · show cup (cup g 88 4 5) 88 3 ((p : Int) + 1) 88 4 = _
      rw [cup_ne (by decide), cup_at]
    · show cup (cup g 88 4 5) 88 3 ((p : Int) + 1) 88 9 = _
      rw [cup_ne (by decide), cup_ne (by decide)]; exact h9'
    · show cup (cup g 88 4 5) 88 3 ((p : Int) + 1) 88 7 = _
      rw [cup_ne (by decide), cup_ne (by decide)]; exact hk
  have h := t_adv453 h h0
  rw [h9'] at h
  rcases h with ⟨hc, h⟩ | ⟨hc, ⟨hd, h⟩ | ⟨hd, ⟨he, h⟩ | ⟨he, ⟨hf, h⟩ | ⟨hf, h⟩⟩⟩⟩
  · exact yes (Or.inl hc) h
  · exact yes (Or.inr (Or.inl hd)) h
  · exact yes (Or.inr (Or.inr (Or.inr he))) h
  · rw [h]
    refine ⟨(FT.rf g).cup _ (by decide), ?_, Or.inr (Or.inr (Or.inr (Or.inr ⟨hpm, hb1, hb2, ?_, ?_, ?_⟩)))⟩
    · show cup g 88 4 6 88 5 = _
      rw [cup_ne (by decide)]; exact hs
    · intro e
      unfold sgn at e
      omega
    · show cup g 88 4 6 88 4 = _
      rw [cup_at]
    · show cup g 88 4 6 88 7 = _
      rw [cup_ne (by decide)]; exact hk
  · exact yes (Or.inr (Or.inr (Or.inl hf))) h
theorem adv_tok {n : Nat} {lf : dlf} {g : cg} {p m : Nat} (h0 : lf 0 = (4, 88)) (hp : g 88 3 = (p : Int)) (hm : g 88 2 = (m : Int)) (hpm : p ≤ m) (h9 : m ≤ 900) (h : zr sv L n 37 52 lf [] g o) : FT o.1 g ∧ o.1 88 5 = (p : Int) ∧ TKC (g 2) (g 89) m p o.1 := by
  rcases t_adv52 h h0 with ⟨hc, h⟩ | ⟨hc, h⟩
  · rw [hp, hm] at hc
    rw [h]
    refine ⟨((((((FT.rf g).cup _ (by decide)).cup _ (by decide)).cup _ (by decide)).cup _ (by decide)).cup _ (by decide)).cup _ (by decide), ?_, Or.inl ⟨by omega, ?_, ?_, ?_⟩⟩
    · show cup (cup (cup (cup (cup (cup g 88 5 (g 88 3)) 88 7 (-1)) 88 6 0) 88 8 0) 88 9 0) 88 4 0 88 5 = _
      rw [cup_ne (by decide), cup_ne (by decide), cup_ne (by decide), cup_ne (by decide), cup_ne (by decide), cup_at]; exact hp
    · show cup (cup (cup (cup (cup (cup g 88 5 (g 88 3)) 88 7 (-1)) 88 6 0) 88 8 0) 88 9 0) 88 4 0 88 4 = _
      rw [cup_at]
    · show cup (cup (cup (cup (cup (cup g 88 5 (g 88 3)) 88 7 (-1)) 88 6 0) 88 8 0) 88 9 0) 88 4 0 88 7 = _
      rw [cup_ne (by decide), cup_ne (by decide), cup_ne (by decide), cup_ne (by decide), cup_at]
    · show cup (cup (cup (cup (cup (cup g 88 5 (g 88 3)) 88 7 (-1)) 88 6 0) 88 8 0) 88 9 0) 88 4 0 88 3 = _
      rw [cup_ne (by decide), cup_ne (by decide), cup_ne (by decide), cup_ne (by decide), cup_ne (by decide), cup_ne (by decide)]; exact hp
  · have h := h (by rw [hp]; omega) (by rw [hp, hm] at hc; rw [hp]; omega)
    rw [hp, hm] at hc
    have hpm' : p < m := by omega
    have ec : g 2 ((g 88 3).toNat) = g 2 p := by rw [hp]; rfl
    rw [ec] at h
    have eh : ∀ lf', lf' 0 = (4, 88) → ∀ pc, zr sv L n 37 pc lf' [] (cup (cup (cup (cup (cup g 88 5 (g 88 3)) 88 7 (-1)) 88 6 0) 88 8 0) 88 9 (g 2 p)) o → ∃ G : cg, FT G g ∧ G 88 3 = (p : Int) ∧ G 88 2 = (m : Int) ∧ G 88 5 = (p : Int) ∧ G 88 7 = -1 ∧ G 88 6 = 0 ∧ G 88 8 = 0 ∧ G 88 9 = G 2 p ∧ G 2 = g 2 ∧ G 89 = g 89 ∧ zr sv L n 37 pc lf' [] G o := by
      intro lf' e1 pc h
      have f : FT (cup (cup (cup (cup (cup g 88 5 (g 88 3)) 88 7 (-1)) 88 6 0) 88 8 0) 88 9 (g 2 p)) g := (((((FT.rf g).cup _ (by decide)).cup _ (by decide)).cup _ (by decide)).cup _ (by decide)).cup _ (by decide)
      refine ⟨_, f, ?_, ?_, ?_, ?_, ?_, ?_, ?_, f.row (by decide), f.row (by decide), h⟩
      · rw [cup_ne (by decide), cup_ne (by decide), cup_ne (by decide), cup_ne (by decide), cup_ne (by decide)]; exact hp
      · rw [cup_ne (by decide), cup_ne (by decide), cup_ne (by decide), cup_ne (by decide), cup_ne (by decide)]; exact hm
      · rw [cup_ne (by decide), cup_ne (by decide), cup_ne (by decide), cup_ne (by decide), cup_at]; exact hp
      · rw [cup_ne (by decide), cup_ne (by decide), cup_ne (by decide), cup_at]
      · rw [cup_ne (by decide), cup_ne (by decide), cup_at]
      · rw [cup_ne (by decide), cup_at]
      · rw [f.row (k := 2) (by decide), cup_at]
    have fin : ∀ {G : cg}, FT G g → G 2 = g 2 → G 89 = g 89 → FT o.1 G ∧ o.1 88 5 = (p : Int) ∧ TKC (G 2) (G 89) m p o.1 → FT o.1 g ∧ o.1 88 5 = (p : Int) ∧ TKC (g 2) (g 89) m p o.1 := by
      intro G f e1 e2 h
      rw [e1, e2] at h
      exact ⟨h.1.tr f, h.2⟩
    rcases h with ⟨hb, ⟨hb2, lf', e1, h⟩ | ⟨hb2, ⟨hb3, lf', e1, h⟩ | ⟨hb3, lf', e1, h⟩⟩⟩ | ⟨hb, ⟨hb2, lf', e1, h⟩ | ⟨hb2, lf', e1, h⟩⟩
    · obtain ⟨G, f, a3, a2, a5, a7, a6, a8, a9, ab, ak, h⟩ := eh lf' e1 _ h
      exact fin f ab ak (adv_sg e1 a3 a5 a9 a7 hpm' h9 (by rw [ab]; unfold sml; omega) (by rw [ab]; unfold dgt; omega) h)
    · obtain ⟨G, f, a3, a2, a5, a7, a6, a8, a9, ab, ak, h⟩ := eh lf' e1 _ h
      exact fin f ab ak (adv_sg e1 a3 a5 a9 a7 hpm' h9 (by rw [ab]; unfold sml; omega) (by rw [ab]; unfold dgt; omega) h)
    · obtain ⟨G, f, a3, a2, a5, a7, a6, a8, a9, ab, ak, h⟩ := eh lf' e1 _ h
      exact fin f ab ak (adv_d e1 a3 a2 a5 a8 a7 hpm' h9 (by rw [ab]; unfold dgt; omega) h)
    · obtain ⟨G, f, a3, a2, a5, a7, a6, a8, a9, ab, ak, h⟩ := eh lf' e1 _ h
      exact fin f ab ak (adv_sg e1 a3 a5 a9 a7 hpm' h9 (by rw [ab]; unfold sml; omega) (by rw [ab]; unfold dgt; omega) h)
    · obtain ⟨G, f, a3, a2, a5, a7, a6, a8, a9, ab, ak, h⟩ := eh lf' e1 _ h
      exact fin f ab ak (adv_w e1 a3 a2 a5 a6 a7 hpm' h9 (by rw [ab]; unfold sml; omega) h)
/-- advance(): the class's next token -/
theorem adv_ok {n : Nat} {lf : dlf} {g : cg} {a m : Nat} (h0 : lf 0 = (4, 88)) (hp : g 88 3 = (a : Int)) (hm : g 88 2 = (m : Int)) (hpm : a ≤ m) (h9 : m ≤ 900) (h : zr sv L n 37 0 lf [] g o) : FT o.1 g ∧ ∃ p, RN blk (g 2) m a p ∧ o.1 88 5 = (p : Int) ∧ TKC (g 2) (g 89) m p o.1 := by
  obtain ⟨p, lf', hR, e1, h⟩ := adv_skip n h0 hp hm hpm h9 h
  have f : FT (cup g 88 3 (p : Int)) g := (FT.rf g).cup _ (by decide)
  obtain ⟨b1, b2, b3⟩ := adv_tok e1 (m := m) (p := p) (by rw [cup_at]) (by rw [cup_ne (by decide)]; exact hm) hR.2.1 h9 h
  rw [f.row (k := 2) (by decide), f.row (k := 89) (by decide)] at b3
  exact ⟨b1.tr f, p, hR, b2, b3⟩
end Adv2
/-! the reference -/
/-- nothing but the reference's token is another -/
def FM (g' g : cg) : Prop := ∀ k j : Nat, ¬ (k = 253 ∧ 12 ≤ j ∧ j ≤ 15) → g' k j = g k j
theorem FM.rf (g : cg) : FM g g := fun _ _ _ => rfl
theorem FM.cup {g' g : cg} (h : FM g' g) {i : Nat} (z : Int) (hi : 12 ≤ i ∧ i ≤ 15) : FM (cup g' 253 i z) g := by
  intro k j hn
  rw [cup_ne (fun e => hn ⟨e.1, by rw [e.2]; exact hi⟩)]
  exact h k j hn
theorem FM.tr {a b c : cg} (h : FM a b) (h' : FM b c) : FM a c := fun k j hn => (h k j hn).trans (h' k j hn)
theorem FM.row {g' g : cg} (h : FM g' g) {k : Nat} (hk : k ≠ 253) : g' k = g k := by
  funext j
  exact h k j (fun e => hk e.1)
theorem and255 : ∀ k : Nat, k < 256 → (i32 ((k : Int) - 128) &&& i32 255).toInt = ((k : Int) - 128) % 256 := by decide +kernel
theorem and255' {x : Int} (h0 : -128 ≤ x) (h1 : x ≤ 127) : (i32 x &&& i32 255).toInt = x % 256 := by
  have h := and255 (x + 128).toNat (by omega)
  rw [show (((x + 128).toNat : Nat) : Int) - 128 = x by omega] at h
  exact h
/-- the reference's bytes -/
def mb (g : cg) (j : Nat) : Int := g 260 j % 256
def MBY (g : cg) : Prop := ∀ j : Nat, j < 900 → -128 ≤ g 260 j ∧ g 260 j ≤ 127
theorem FM.mb {g' g : cg} (h : FM g' g) : mb g' = mb g := by
  funext j
  show g' 260 j % 256 = g 260 j % 256
  rw [h.row (k := 260) (by decide)]
section Ahd
variable {sv : Nat → Int32} {L : Nat} {o : cg × Option cv}
theorem byt_ok {n : Nat} {lf : dlf} {g g1 : cg} {r : Int} {p m : Nat} (h : zr sv L n 167 0 lf [] g (g1, some (0, r))) (h0 : lf 0 = (4, 253)) (h1 : lf 1 = (0, (p : Int))) (hm : g 253 11 = (m : Int)) (h9 : m ≤ 900) (hB : MBY g) : g1 = g ∧ ((m ≤ p ∧ r = -1) ∨ (p < m ∧ r = mb g p)) := by
  rcases t_byteAt h h0 h1 with ⟨hc, h⟩ | ⟨hc, h⟩
  · rw [hm] at hc
    have h := Prod.mk.inj h
    have h2 := (Prod.mk.inj (Option.some.inj h.2)).2
    exact ⟨h.1, Or.inl ⟨by omega, h2⟩⟩
  · rw [hm] at hc
    have h := h (by omega) (by omega)
    have h := Prod.mk.inj h
    have h2 := (Prod.mk.inj (Option.some.inj h.2)).2
    rw [show ((p : Int)).toNat = p from rfl] at h2
    have hb := hB p (by omega)
    rw [and255' hb.1 hb.2] at h2
    exact ⟨h.1, Or.inr ⟨by omega, h2⟩⟩
theorem sml_ok {n : Nat} {lf : dlf} {g g1 : cg} {a r : Int} (h : zr sv L n 168 0 lf [] g (g1, some (0, r))) (h0 : lf 0 = (0, a))  : g1 = g ∧ ((sml a ∧ r = 1) ∨ (¬ sml a ∧ r = 0)) := by
  unfold sml
  rcases t_isSmall h h0 with ⟨hc, h⟩ | ⟨hc, ⟨hd, h⟩ | ⟨hd, h⟩⟩ <;> have h := Prod.mk.inj h <;> have h2 := (Prod.mk.inj (Option.some.inj h.2)).2 <;> refine ⟨h.1, ?_⟩ <;> omega
theorem dgt_ok {n : Nat} {lf : dlf} {g g1 : cg} {a r : Int} (h : zr sv L n 169 0 lf [] g (g1, some (0, r))) (h0 : lf 0 = (0, a))  : g1 = g ∧ ((dgt a ∧ r = 1) ∨ (¬ dgt a ∧ r = 0)) := by
  unfold dgt
  rcases t_isDigit h h0 with ⟨hc, h⟩ | ⟨hc, ⟨hd, h⟩ | ⟨hd, h⟩⟩ <;> have h := Prod.mk.inj h <;> have h2 := (Prod.mk.inj (Option.some.inj h.2)).2 <;> refine ⟨h.1, ?_⟩ <;> omega
theorem min_ok {n : Nat} {lf : dlf} {g g1 : cg} {a b r : Int} (h : zr sv L n 36 0 lf [] g (g1, some (0, r))) (h0 : lf 0 = (0, a)) (h1 : lf 1 = (0, b))  : g1 = g ∧ ((b < a ∧ r = b) ∨ (a ≤ b ∧ r = a)) := by
  rcases t_min h h0 h1 with ⟨hc, h⟩ | ⟨hc, h⟩ <;> have h := Prod.mk.inj h <;> have h2 := (Prod.mk.inj (Option.some.inj h.2)).2 <;> refine ⟨h.1, ?_⟩ <;> omega
theorem ahd_skip : ∀ (n : Nat) {lf : dlf} {g : cg} {p m : Nat}, lf 0 = (4, 253) → g 253 14 = (p : Int) → g 253 11 = (m : Int) → MBY g → p ≤ m → m ≤ 900 → zr sv L n 166 0 lf [] g o → ∃ q lf', RN blk (mb g) m p q ∧ lf' 0 = (4, 253) ∧ zr sv L n 166 39 lf' [] (cup g 253 14 (q : Int)) o
  | 0, _, _, _, _, _, _, _, _, _, _, h => (zr_0 h).elim
  | n + 1, lf, g, p, m, h0, hp, hm, hB, hpm, h9, h => by
    have go : blk (mb g p) → p < m → ∀ lf', lf' 0 = (4, 253) → zr sv L n 166 0 lf' [] (cup g 253 14 ((p : Int) + 1)) o → ∃ q lf', RN blk (mb g) m p q ∧ lf' 0 = (4, 253) ∧ zr sv L (n + 1) 166 39 lf' [] (cup g 253 14 (q : Int)) o := by
      intro hb hlt lf' e1 h
      have f : FM (cup g 253 14 ((p : Int) + 1)) g := (FM.rf g).cup _ (by decide)
      obtain ⟨q, lf2, a1, a2, a3⟩ := ahd_skip n (p := p + 1) (m := m) e1 (by rw [cup_at]; omega) (by rw [cup_ne (by decide)]; exact hm) (by unfold MBY; rw [f.row (by decide)]; exact hB) (by omega) h9 h
      rw [cup_over] at a3
      rw [f.mb] at a1
      exact ⟨q, lf2, RN.step hb a1, a2, zr_m a3⟩
    obtain ⟨g1, r2, k1, h⟩ := t_ahd0 h h0
    rw [hp] at k1
    obtain ⟨e1, k1⟩ := byt_ok (p := p) k1 rfl rfl hm h9 hB
    rw [e1] at h
    rw [hp, show w32 ((p : Int) + 1) = (p : Int) + 1 from w32_id (by omega) (by omega)] at h
    rcases h with ⟨hb, lf', e1, h⟩ | ⟨hb, g5, r6, k2, h⟩
    · rcases k1 with ⟨c1, c2⟩ | ⟨c1, c2⟩
      · omega
      · exact go (Or.inl (by omega)) c1 lf' e1 h
    · obtain ⟨e2, k2⟩ := byt_ok (p := p) k2 rfl rfl hm h9 hB
      rw [e2] at h
      rw [hp, show w32 ((p : Int) + 1) = (p : Int) + 1 from w32_id (by omega) (by omega)] at h
      rcases h with ⟨hb2, lf', e1, h⟩ | ⟨hb2, lf', e1, h⟩
      · refine ⟨p, lf', RN.stop hpm (fun c e => ?_), e1, ?_⟩
        · unfold blk at e
          omega
        · rw [cup_id hp]
          exact zr_m h
      · rcases k2 with ⟨c1, c2⟩ | ⟨c1, c2⟩
        · omega
        · exact go (Or.inr (by omega)) c1 lf' e1 h
theorem ahd_word : ∀ (n : Nat) {lf : dlf} {g : cg} {p m : Nat}, lf 0 = (4, 253) → g 253 14 = (p : Int) → g 253 11 = (m : Int) → MBY g → p ≤ m → m ≤ 900 → zr sv L n 166 81 lf [] g o → ∃ q lf', RN sml (mb g) m p q ∧ lf' 0 = (4, 253) ∧ zr sv L n 166 108 lf' [] (cup g 253 14 (q : Int)) o
  | 0, _, _, _, _, _, _, _, _, _, _, h => (zr_0 h).elim
  | n + 1, lf, g, p, m, h0, hp, hm, hB, hpm, h9, h => by
    obtain ⟨g1, r2, k1, g3, r4, k2, h⟩ := t_ahd81 h h0
    rw [hp] at k1
    obtain ⟨e1, k1⟩ := byt_ok (p := p) k1 rfl rfl hm h9 hB
    rw [e1] at k2
    obtain ⟨e2, k2⟩ := sml_ok k2 rfl
    rw [e2] at h
    rw [hp, show w32 ((p : Int) + 1) = (p : Int) + 1 from w32_id (by omega) (by omega)] at h
    rcases h with ⟨hb, lf', e1, h⟩ | ⟨hb, lf', e1, h⟩
    · refine ⟨p, lf', RN.stop hpm (fun c e => ?_), e1, ?_⟩
      · rcases k1 with ⟨c1, c2⟩ | ⟨c1, c2⟩
        · omega
        · rw [← c2] at e
          rcases k2 with ⟨d1, d2⟩ | ⟨d1, d2⟩
          · omega
          · exact d1 e
      · rw [cup_id hp]
        exact zr_m h
    · have hs : sml r2 := by
        rcases k2 with ⟨d1, d2⟩ | ⟨d1, d2⟩
        · exact d1
        · omega
      have hlt : p < m ∧ r2 = mb g p := by
        rcases k1 with ⟨c1, c2⟩ | c
        · unfold sml at hs; omega
        · exact c
      have f : FM (cup g 253 14 ((p : Int) + 1)) g := (FM.rf g).cup _ (by decide)
      obtain ⟨q, lf2, a1, a2, a3⟩ := ahd_word n (p := p + 1) (m := m) e1 (by rw [cup_at]; omega) (by rw [cup_ne (by decide)]; exact hm) (by unfold MBY; rw [f.row (by decide)]; exact hB) (by omega) h9 h
      rw [cup_over] at a3
      rw [f.mb] at a1
      exact ⟨q, lf2, RN.step (by rw [← hlt.2]; exact hs) a1, a2, zr_m a3⟩
theorem ahd_digs : ∀ (n : Nat) {lf : dlf} {g : cg} {s p m : Nat}, lf 0 = (4, 253) → g 253 14 = (p : Int) → g 253 11 = (m : Int) → MBY g → s ≤ p → p ≤ m → m ≤ 900 → (∀ j, s ≤ j → j < p → dgt (mb g j)) → 0 ≤ g 253 15 → g 253 15 ≤ 100000 → (p - s ≤ 4 → g 253 15 = DC (mb g) s (p - s)) → zr sv L n 166 128 lf [] g o → ∃ q lf' V, RN dgt (mb g) m p q ∧ lf' 0 = (4, 253) ∧ (q - s ≤ 4 → V = DC (mb g) s (q - s)) ∧ zr sv L n 166 183 lf' [] (cup (cup g 253 15 V) 253 14 (q : Int)) o
  | 0, _, _, _, _, _, _, _, _, _, _, _, _, _, _, _, _, h => (zr_0 h).elim
  | n + 1, lf, g, s, p, m, h0, hp, hm, hB, hsp, hpm, h9, hl, hv0, hv1, hv, h => by
    obtain ⟨g1, r2, k1, g3, r4, k2, h⟩ := t_ahd128 h h0
    rw [hp] at k1
    obtain ⟨e1, k1⟩ := byt_ok (p := p) k1 rfl rfl hm h9 hB
    rw [e1] at k2
    obtain ⟨e2, k2⟩ := dgt_ok k2 rfl
    rw [e2] at h
    rcases h with ⟨hb, lf', e1, h⟩ | ⟨hb, g7, r8, k3, g9, r10, k4, lf', e1, h⟩
    · refine ⟨p, lf', g 253 15, RN.stop hpm (fun c e => ?_), e1, hv, ?_⟩
      · rcases k1 with ⟨c1, c2⟩ | ⟨c1, c2⟩
        · omega
        · rw [← c2] at e
          rcases k2 with ⟨d1, d2⟩ | ⟨d1, d2⟩
          · omega
          · exact d1 e
      · rw [cup_id rfl, cup_id hp]
        exact zr_m h
    · rw [hp] at k3
      obtain ⟨e3, k3⟩ := byt_ok (p := p) k3 rfl rfl hm h9 hB
      rw [e3] at k4
      obtain ⟨e4, k4⟩ := min_ok k4 rfl rfl
      rw [e4] at h
      have hs : dgt r2 := by
        rcases k2 with ⟨d1, d2⟩ | ⟨d1, d2⟩
        · exact d1
        · omega
      have hlt : p < m ∧ r2 = mb g p := by
        rcases k1 with ⟨c1, c2⟩ | c
        · unfold dgt at hs; omega
        · exact c
      have h8 : r8 = mb g p := by
        rcases k3 with ⟨c1, c2⟩ | c
        · omega
        · exact c.2
      rw [hp, show w32 ((p : Int) + 1) = (p : Int) + 1 from w32_id (by omega) (by omega)] at h
      have hd := hs
      unfold dgt at hd
      have ew : w32 (w32 (w32 (10 * g 253 15) + r8) - 48) = 10 * g 253 15 + r8 - 48 := by
        rw [w32_id (z := 10 * g 253 15) (by omega) (by omega), w32_id (z := 10 * g 253 15 + r8) (by omega) (by omega), w32_id (by omega) (by omega)]
      rw [ew] at k4
      have f : FM (cup (cup g 253 15 r10) 253 14 ((p : Int) + 1)) g := ((FM.rf g).cup _ (by decide)).cup _ (by decide)
      obtain ⟨q, lf2, V, a1, a2, a4, a3⟩ := ahd_digs n (s := s) (p := p + 1) (m := m) e1 (by rw [cup_at]; omega) (by rw [cup_ne (by decide), cup_ne (by decide)]; exact hm) (by unfold MBY; rw [f.row (by decide)]; exact hB) (by omega) (by omega) h9 (by
        rw [f.mb]
        intro j c1 c2
        by_cases e : j = p
        · rw [e, ← hlt.2]; exact hs
        · exact hl j c1 (by omega)) (by rw [cup_ne (by decide), cup_at]; omega) (by rw [cup_ne (by decide), cup_at]; omega) (by
        rw [cup_ne (by decide), cup_at, f.mb]
        intro c
        have e3 : p + 1 - s = p - s + 1 := by omega
        rw [e3]
        have e4 : DC (mb g) s (p - s + 1) = DC (mb g) s (p - s) * 10 + (mb g (s + (p - s)) - 48) := rfl
        have hbd := DC_4 (b := mb g) (p := s) (k := p - s) (by omega) (fun j c1 c2 => hl j c1 (by omega))
        have hv := hv (by omega)
        rw [e4, show s + (p - s) = p by omega]
        omega) h
      rw [f.mb] at a1 a4
      refine ⟨q, lf2, V, RN.step (by rw [← hlt.2]; exact hs) a1, a2, a4, ?_⟩
      rw [cup_comm (cup g 253 15 r10) _ _ (Or.inr (by decide)), cup_over, cup_over] at a3
      exact zr_m a3
def TKM (b : Nat → Int) (m p : Nat) (g : cg) : Prop :=
  (p = m ∧ g 253 12 = 0) ∨
  (p < m ∧ sml (b p) ∧ ∃ q : Nat, RN sml b m p q ∧ g 253 14 = (q : Int) ∧ g 253 12 = 2) ∨
  (p < m ∧ dgt (b p) ∧ ∃ q : Nat, RN dgt b m p q ∧ g 253 14 = (q : Int) ∧ ((4 < q - p ∧ g 253 12 = 1) ∨ (q - p ≤ 4 ∧ g 253 12 = 3 ∧ g 253 15 = DC b p (q - p)))) ∨
  (p < m ∧ sgn (b p) ∧ g 253 14 = (p : Int) + 1 ∧ g 253 12 = 4 ∧ g 253 15 = b p) ∨
  (p < m ∧ ¬ sml (b p) ∧ ¬ dgt (b p) ∧ ¬ sgn (b p) ∧ g 253 12 = 1)
/-- ahead(): the reference's next token -/
theorem ahd_ok {n : Nat} {lf : dlf} {g : cg} {a m : Nat} (h0 : lf 0 = (4, 253)) (hp : g 253 14 = (a : Int)) (hm : g 253 11 = (m : Int)) (hB : MBY g) (hpm : a ≤ m) (h9 : m ≤ 900) (h : zr sv L n 166 0 lf [] g o) : FM o.1 g ∧ ∃ p, RN blk (mb g) m a p ∧ o.1 253 13 = (p : Int) ∧ TKM (mb g) m p o.1 := by
  obtain ⟨p, lf', hR, e1, h⟩ := ahd_skip n h0 hp hm hB hpm h9 h
  have hpm2 := hR.2.1
  obtain ⟨g1, r2, k1, h⟩ := t_ahd39 h e1
  rw [cup_at] at k1
  have f1 : FM (cup (cup g 253 14 (p : Int)) 253 13 (p : Int)) g := ((FM.rf g).cup _ (by decide)).cup _ (by decide)
  obtain ⟨e2, k1⟩ := byt_ok (p := p) (m := m) k1 rfl rfl (by rw [cup_ne (by decide), cup_ne (by decide)]; exact hm) h9 (by unfold MBY; rw [f1.row (by decide)]; exact hB)
  rw [f1.mb] at k1
  have g14 : g1 253 14 = (p : Int) := by rw [e2, cup_ne (by decide), cup_at]
  have g13 : g1 253 13 = (p : Int) := by rw [e2, cup_at]
  have g11 : g1 253 11 = (m : Int) := by rw [e2, cup_ne (by decide), cup_ne (by decide)]; exact hm
  rw [← e2] at f1
  have hmb : 0 ≤ mb g p := by unfold mb; omega
  have key : FM o.1 g ∧ o.1 253 13 = (p : Int) ∧ TKM (mb g) m p o.1 := by
    rcases h with ⟨hb, g4, r5, k2, h⟩ | ⟨hb, h⟩
    · have hlt : p < m ∧ r2 = mb g p := by
        rcases k1 with ⟨c1, c2⟩ | c
        · exact absurd c2 hb
        · exact c
      obtain ⟨e4, k2⟩ := sml_ok k2 rfl
      have f4 : FM g4 g := by rw [e4]; exact f1.cup _ (by decide)
      have h14 : g4 253 14 = (p : Int) := by rw [e4, cup_ne (by decide)]; exact g14
      have h13 : g4 253 13 = (p : Int) := by rw [e4, cup_ne (by decide)]; exact g13
      have h11 : g4 253 11 = (m : Int) := by rw [e4, cup_ne (by decide)]; exact g11
      have h15 : g4 253 15 = mb g p := by rw [e4, cup_at]; exact hlt.2
      have hB4 : MBY g4 := by unfold MBY; rw [f4.row (by decide)]; exact hB
      rcases h with ⟨hc, g7, r8, k3, h⟩ | ⟨hc, lf2, e5, h⟩
      · have hns : ¬ sml (mb g p) := by
          rcases k2 with ⟨d1, d2⟩ | ⟨d1, d2⟩
          · omega
          · rw [← hlt.2]; exact d1
        obtain ⟨e7, k3⟩ := dgt_ok k3 rfl
        rw [e7] at h
        rcases h with ⟨hd, h⟩ | ⟨hd, lf2, e5, h⟩
        · have hnd : ¬ dgt (mb g p) := by
            rcases k3 with ⟨d1, d2⟩ | ⟨d1, d2⟩
            · omega
            · rw [← hlt.2]; exact d1
          rw [h14, show w32 ((p : Int) + 1) = (p : Int) + 1 from w32_id (by omega) (by omega), hlt.2] at h
          have yes : sgn (mb g p) → o = (cup (cup g4 253 14 ((p : Int) + 1)) 253 12 4, none) → FM o.1 g ∧ o.1 253 13 = (p : Int) ∧ TKM (mb g) m p o.1 := by
            intro hsg ho
            rw [ho]
            refine ⟨(f4.cup _ (by decide)).cup _ (by decide), ?_, Or.inr (Or.inr (Or.inr (Or.inl ⟨hlt.1, hsg, ?_, ?_, ?_⟩)))⟩
            · show cup (cup g4 253 14 ((p : Int) + 1)) 253 12 4 253 13 = _
              rw [cup_ne (by decide), cup_ne (by decide)]; exact h13
            · show cup (cup g4 253 14 ((p : Int) + 1)) 253 12 4 253 14 = _
              rw [cup_ne (by decide), cup_at]
            · show cup (cup g4 253 14 ((p : Int) + 1)) 253 12 4 253 12 = _
              rw [cup_at]
            · show cup (cup g4 253 14 ((p : Int) + 1)) 253 12 4 253 15 = _
              rw [cup_ne (by decide), cup_ne (by decide)]; exact h15
          rcases h with ⟨hx, h⟩ | ⟨hx, ⟨hy, h⟩ | ⟨hy, ⟨hz, h⟩ | ⟨hz, ⟨hw, h⟩ | ⟨hw, h⟩⟩⟩⟩
          · exact yes (Or.inl hx) h
          · exact yes (Or.inr (Or.inl hy)) h
          · exact yes (Or.inr (Or.inr (Or.inr hz))) h
          · rw [h]
            refine ⟨(f4.cup _ (by decide)).cup _ (by decide), ?_, Or.inr (Or.inr (Or.inr (Or.inr ⟨hlt.1, hns, hnd, ?_, ?_⟩)))⟩
            · show cup (cup g4 253 14 ((p : Int) + 1)) 253 12 1 253 13 = _
              rw [cup_ne (by decide), cup_ne (by decide)]; exact h13
            · intro e
              unfold sgn at e
              omega
            · show cup (cup g4 253 14 ((p : Int) + 1)) 253 12 1 253 12 = _
              rw [cup_at]
          · exact yes (Or.inr (Or.inr (Or.inl hw))) h
        · have hdg : dgt (mb g p) := by
            rcases k3 with ⟨d1, d2⟩ | ⟨d1, d2⟩
            · rw [← hlt.2]; exact d1
            · exact absurd d2 hd
          have f5 : FM (cup g4 253 15 0) g := f4.cup _ (by decide)
          have hB5 : MBY (cup g4 253 15 0) := by unfold MBY; rw [f5.row (by decide)]; exact hB
          obtain ⟨q, lf3, V, a1, a2, a4, h⟩ := ahd_digs n (s := p) (p := p) (m := m) e5 (by rw [cup_ne (by decide)]; exact h14) (by rw [cup_ne (by decide)]; exact h11) hB5 (Nat.le_refl _) hpm2 h9 (fun j x y => by omega) (by rw [cup_at]; omega) (by rw [cup_at]; omega) (by intro _; rw [cup_at, Nat.sub_self]; rfl) h
          rw [f5.mb] at a1 a4
          have hq9 : q ≤ 900 := by have := a1.2.1; omega
          have hq1 := a1.1
          have f6 : FM (cup (cup (cup g4 253 15 0) 253 15 V) 253 14 (q : Int)) g := (f5.cup _ (by decide)).cup _ (by decide)
          generalize hG : cup (cup (cup g4 253 15 0) 253 15 V) 253 14 (q : Int) = G at h f6
          have G14 : G 253 14 = (q : Int) := by rw [← hG, cup_at]
          have G13 : G 253 13 = (p : Int) := by rw [← hG, cup_ne (by decide), cup_ne (by decide), cup_ne (by decide)]; exact h13
          have G15 : G 253 15 = V := by rw [← hG, cup_ne (by decide), cup_at]
          rcases t_ahd183 h a2 with ⟨hx, h⟩ | ⟨hx, h⟩
          · rw [G14, G13, w32_id (by omega) (by omega)] at hx
            rw [h]
            refine ⟨f6.cup _ (by decide), ?_, Or.inr (Or.inr (Or.inl ⟨hlt.1, hdg, q, a1, ?_, Or.inr ⟨by omega, ?_, ?_⟩⟩))⟩
            · show cup G 253 12 3 253 13 = _
              rw [cup_ne (by decide)]; exact G13
            · show cup G 253 12 3 253 14 = _
              rw [cup_ne (by decide)]; exact G14
            · show cup G 253 12 3 253 12 = _
              rw [cup_at]
            · show cup G 253 12 3 253 15 = _
              rw [cup_ne (by decide), G15]; exact a4 (by omega)
          · rw [G14, G13, w32_id (by omega) (by omega)] at hx
            rw [h]
            refine ⟨f6.cup _ (by decide), ?_, Or.inr (Or.inr (Or.inl ⟨hlt.1, hdg, q, a1, ?_, Or.inl ⟨by omega, ?_⟩⟩))⟩
            · show cup G 253 12 1 253 13 = _
              rw [cup_ne (by decide)]; exact G13
            · show cup G 253 12 1 253 14 = _
              rw [cup_ne (by decide)]; exact G14
            · show cup G 253 12 1 253 12 = _
              rw [cup_at]
      · have hs : sml (mb g p) := by
          rcases k2 with ⟨d1, d2⟩ | ⟨d1, d2⟩
          · rw [← hlt.2]; exact d1
          · exact absurd d2 hc
        obtain ⟨q, lf3, a1, a2, h⟩ := ahd_word n (p := p) (m := m) e5 h14 h11 hB4 hpm2 h9 h
        rw [f4.mb] at a1
        have f6 : FM (cup g4 253 14 (q : Int)) g := f4.cup _ (by decide)
        have h := t_ahd108 h a2
        rw [h]
        refine ⟨f6.cup _ (by decide), ?_, Or.inr (Or.inl ⟨hlt.1, hs, q, a1, ?_, ?_⟩)⟩
        · show cup (cup g4 253 14 (q : Int)) 253 12 2 253 13 = _
          rw [cup_ne (by decide), cup_ne (by decide)]; exact h13
        · show cup (cup g4 253 14 (q : Int)) 253 12 2 253 14 = _
          rw [cup_ne (by decide), cup_at]
        · show cup (cup g4 253 14 (q : Int)) 253 12 2 253 12 = _
          rw [cup_at]
    · have hpm3 : p = m := by
        rcases k1 with ⟨c1, c2⟩ | ⟨c1, c2⟩
        · omega
        · omega
      rw [h]
      refine ⟨(f1.cup _ (by decide)).cup _ (by decide), ?_, Or.inl ⟨hpm3, ?_⟩⟩
      · show cup (cup g1 253 15 r2) 253 12 0 253 13 = _
        rw [cup_ne (by decide), cup_ne (by decide)]; exact g13
      · show cup (cup g1 253 15 r2) 253 12 0 253 12 = _
        rw [cup_at]
  exact ⟨key.1, p, hR, key.2⟩
end Ahd
end
section
/-! what strings, names and signs say: printed by program (wip/tools/zpar.py) -/
section
set_option maxRecDepth 100000
theorem zy_7 : xg xcode 7 = some xt_7 := rfl
theorem zk_7 : zkc 1 xt_7 = true := by decide +kernel
theorem zy_8 : xg xcode 8 = some xt_8 := rfl
theorem zk_8 : zkc 1 xt_8 = true := by decide +kernel
theorem zy_9 : xg xcode 9 = some xt_9 := rfl
theorem zk_9 : zkc 1 xt_9 = true := by decide +kernel
theorem zy_10 : xg xcode 10 = some xt_10 := rfl
theorem zk_10 : zkc 1 xt_10 = true := by decide +kernel
theorem zy_11 : xg xcode 11 = some xt_11 := rfl
theorem zk_11 : zkc 1 xt_11 = true := by decide +kernel
theorem zy_12 : xg xcode 12 = some xt_12 := rfl
theorem zk_12 : zkc 0 xt_12 = true := by decide +kernel
theorem zy_13 : xg xcode 13 = some xt_13 := rfl
theorem zk_13 : zkc 1 xt_13 = true := by decide +kernel
theorem zy_39 : xg xcode 39 = some xt_39 := rfl
theorem zk_39 : zkc 1 xt_39 = true := by decide +kernel
theorem zy_41 : xg xcode 41 = some xt_41 := rfl
theorem zk_41 : zkc 1 xt_41 = true := by decide +kernel
theorem zy_42 : xg xcode 42 = some xt_42 := rfl
theorem zk_42 : zkc 1 xt_42 = true := by decide +kernel
theorem zy_46 : xg xcode 46 = some xt_46 := rfl
theorem zk_46 : zkc 1 xt_46 = true := by decide +kernel
theorem zy_50 : xg xcode 50 = some xt_50 := rfl
theorem zk_50 : zkc 1 xt_50 = true := by decide +kernel
theorem zy_57 : xg xcode 57 = some xt_57 := rfl
theorem zk_57 : zkc 1 xt_57 = true := by decide +kernel
theorem zy_172 : xg xcode 172 = some xt_172 := rfl
theorem zk_172 : zkc 1 xt_172 = true := by decide +kernel
theorem zy_173 : xg xcode 173 = some xt_173 := rfl
theorem zk_173 : zkc 1 xt_173 = true := by decide +kernel
theorem zy_175 : xg xcode 175 = some xt_175 := rfl
theorem zk_175 : zkc 1 xt_175 = true := by decide +kernel
theorem zy_176 : xg xcode 176 = some xt_176 := rfl
theorem zk_176 : zkc 1 xt_176 = true := by decide +kernel
theorem zy_177 : xg xcode 177 = some xt_177 := rfl
theorem zk_177 : zkc 1 xt_177 = true := by decide +kernel
theorem zy_181 : xg xcode 181 = some xt_181 := rfl
theorem zk_181 : zkc 1 xt_181 = true := by decide +kernel
theorem zy_183 : xg xcode 183 = some xt_183 := rfl
theorem zk_183 : zkc 2 xt_183 = true := by decide +kernel
theorem zy_184 : xg xcode 184 = some xt_184 := rfl
theorem zk_184 : zkc 1 xt_184 = true := by decide +kernel
theorem zy_189 : xg xcode 189 = some xt_189 := rfl
theorem zk_189 : zkc 1 xt_189 = true := by decide +kernel
theorem t_coder {sv : Nat → Int32} {L n : Nat} {lf : dlf} {g : cg} {o : cg × Option cv} (h : zr sv L n 8 0 lf [] g o) (h0 : lf 0 = (6, 3)) : o = (g, some (0, 0)) := by
  rw [zov h0] at h
  have h := zm zy_8 h 5 (q := (14, dset lf 0 (6, 3), [(0, 0)], g)) rfl
  dsimp only at h
  exact zret zy_8 h rfl rfl
theorem t_len {sv : Nat → Int32} {L n : Nat} {lf : dlf} {g : cg} {o : cg × Option cv} (h : zr sv L n 7 0 lf [] g o) (h0 : lf 0 = (6, 3)) : ∃ g1 r2, zr sv L n 8 0 (darg 0 [(6, 3)]) [] g (g1, some (0, r2)) ∧ (o = (g1, some (0, (i32 134 >>> (i32 r2 &&& 31)).toInt))) := by
  rw [zov h0] at h
  have h := zm zy_7 h 4 (q := (6, dset lf 0 (6, 3), [(6, 3), (0, 134)], g)) rfl
  dsimp only at h
  obtain ⟨g1, r2, hk, h⟩ := zcallI zy_7 h rfl rfl zy_8 zk_8
  dsimp only at hk h
  refine ⟨g1, r2, hk, ?_⟩
  have h := zm zy_7 h 1 (q := (10, dset lf 0 (6, 3), [(0, (i32 134 >>> (i32 r2 &&& 31)).toInt)], g1)) rfl
  dsimp only at h
  exact zret zy_7 h rfl rfl
theorem t_lat {sv : Nat → Int32} {L n : Nat} {lf : dlf} {g : cg} {o : cg × Option cv} (h : zr sv L n 10 0 lf [] g o) (h0 : lf 0 = (6, 3)) : o = (g, some (0, 1)) := by
  rw [zov h0] at h
  have h := zm zy_10 h 7 (q := (18, dset lf 0 (6, 3), [(0, 1)], g)) rfl
  dsimp only at h
  exact zret zy_10 h rfl rfl
theorem t_pre {sv : Nat → Int32} {L n : Nat} {lf : dlf} {g : cg} {o : cg × Option cv} {a b : Int} (h : zr sv L n 13 0 lf [] g o) (h0 : lf 0 = (0, a)) (h1 : lf 1 = (0, b)) (h2 : lf 2 = (10, 0)) : (a < 0 ∧ (False)) ∨ (0 ≤ a ∧ ((a < b ∧ (o = (g, some (0, a)))) ∨ (b ≤ a ∧ (False)))) := by
  rw [zov h0, zov h1, zov h2] at h
  have h := zm zy_13 h 2 (q := (cond (crel .lt a 0) 9 4, dset (dset (dset lf 2 (10, 0)) 1 (0, b)) 0 (0, a), [], g)) rfl
  dsimp only at h
  rcases zif_lt h with ⟨hc1, h⟩ | ⟨hc1, h⟩
  · refine Or.inl ⟨hc1, ?_⟩
    have h := zm zy_13 h 3 (q := (12, dset (dset (dset lf 2 (10, 0)) 1 (0, b)) 0 (0, a), [(0, b), (0, a), (10, 0)], g)) rfl
    dsimp only at h
    exact znone zy_13 h rfl
  · refine Or.inr ⟨hc1, ?_⟩
    have h := zm zy_13 h 3 (q := (cond (crel .lt a b) 16 9, dset (dset (dset lf 2 (10, 0)) 1 (0, b)) 0 (0, a), [], g)) rfl
    dsimp only at h
    rcases zif_lt h with ⟨hc2, h⟩ | ⟨hc2, h⟩
    · refine Or.inl ⟨hc2, ?_⟩
      have h := zm zy_13 h 1 (q := (17, dset (dset (dset lf 2 (10, 0)) 1 (0, b)) 0 (0, a), [(0, a)], g)) rfl
      dsimp only at h
      exact zret zy_13 h rfl rfl
    · refine Or.inr ⟨hc2, ?_⟩
      have h := zm zy_13 h 3 (q := (12, dset (dset (dset lf 2 (10, 0)) 1 (0, b)) 0 (0, a), [(0, b), (0, a), (10, 0)], g)) rfl
      dsimp only at h
      exact znone zy_13 h rfl
theorem t_chk {sv : Nat → Int32} {L n : Nat} {lf : dlf} {g : cg} {o : cg × Option cv} {a b : Int} (h : zr sv L n 12 0 lf [] g o) (h0 : lf 0 = (0, a)) (h1 : lf 1 = (0, b)) : ∃ g1 r2, zr sv L n 13 0 (darg 0 [(0, a), (0, b), (10, 0)]) [] g (g1, some (0, r2)) ∧ (o = (g1, none)) := by
  rw [zov h0, zov h1] at h
  have h := zm zy_12 h 3 (q := (5, dset (dset lf 1 (0, b)) 0 (0, a), [(10, 0), (0, b), (0, a)], g)) rfl
  dsimp only at h
  obtain ⟨g1, r2, hk, h⟩ := zcallI zy_12 h rfl rfl zy_13 zk_13
  dsimp only at hk h
  refine ⟨g1, r2, hk, ?_⟩
  have h := zm zy_12 h 1 (q := (9, dset (dset lf 1 (0, b)) 0 (0, a), [], g1)) rfl
  dsimp only at h
  exact zret zy_12 h rfl rfl
theorem t_lchr {sv : Nat → Int32} {L n : Nat} {lf : dlf} {g : cg} {o : cg × Option cv} {a : Int} (h : zr sv L n 11 0 lf [] g o) (h0 : lf 0 = (6, 4)) (h1 : lf 1 = (0, a)) : ∃ g1, zr sv L n 12 0 (darg 0 [(0, a), (0, 134)]) [] g (g1, none) ∧ (o = (g1, some (0, ((i32 ((i32 ((nI ((xeb 4).getD (a).toNat 0)).toInt) &&& i32 255).toInt)).toUInt32 % 65536).toInt32.toInt))) := by
  rw [zov h0, zov h1] at h
  have h := zm zy_11 h 3 (q := (3, dset (dset lf 1 (0, a)) 0 (6, 4), [(0, 134), (0, a)], g)) rfl
  dsimp only at h
  obtain ⟨g1, hk, h⟩ := zcallV zy_11 h rfl rfl zy_12 zk_12
  dsimp only at hk h
  refine ⟨g1, hk, ?_⟩
  have h := zm zy_11 h 6 (q := (14, dset (dset lf 1 (0, a)) 0 (6, 4), [(0, ((i32 ((i32 ((nI ((xeb 4).getD (a).toNat 0)).toInt) &&& i32 255).toInt)).toUInt32 % 65536).toInt32.toInt)], g1)) rfl
  dsimp only at h
  exact zret zy_11 h rfl rfl
theorem t_chr {sv : Nat → Int32} {L n : Nat} {lf : dlf} {g : cg} {o : cg × Option cv} {a : Int} (h : zr sv L n 9 0 lf [] g o) (h0 : lf 0 = (6, 3)) (h1 : lf 1 = (0, a)) : ∃ g1 r2, zr sv L n 10 0 (darg 0 [(6, 3)]) [] g (g1, some (0, r2)) ∧ ((r2 = 0 ∧ (False)) ∨ (r2 ≠ 0 ∧ (∃ g4 r5, zr sv L n 11 0 (darg 0 [(6, 4), (0, a)]) [] g1 (g4, some (0, r5)) ∧ (o = (g4, some (0, r5)))))) := by
  rw [zov h0, zov h1] at h
  have h := zm zy_9 h 1 (q := (1, dset (dset lf 1 (0, a)) 0 (6, 3), [(6, 3)], g)) rfl
  dsimp only at h
  obtain ⟨g1, r2, hk, h⟩ := zcallI zy_9 h rfl rfl zy_10 zk_10
  dsimp only at hk h
  refine ⟨g1, r2, hk, ?_⟩
  have h := zm zy_9 h 1 (q := (cond (crel .eq r2 0) 16 7, dset (dset lf 1 (0, a)) 0 (6, 3), [], g1)) rfl
  dsimp only at h
  rcases zif_eq h with ⟨hc3, h⟩ | ⟨hc3, h⟩
  · refine Or.inl ⟨hc3, ?_⟩
    have h := zm zy_9 h 3 (q := (21, dset (dset lf 1 (0, a)) 0 (6, 3), [(0, a), (6, 4)], g1)) rfl
    dsimp only at h
    exact znone zy_9 h rfl
  · refine Or.inr ⟨hc3, ?_⟩
    have h := zm zy_9 h 3 (q := (12, dset (dset lf 1 (0, a)) 0 (6, 3), [(0, a), (6, 4)], g1)) rfl
    dsimp only at h
    obtain ⟨g4, r5, hk, h⟩ := zcallI zy_9 h rfl rfl zy_11 zk_11
    dsimp only at hk h
    refine ⟨g4, r5, hk, ?_⟩
    exact zret zy_9 h rfl rfl
theorem t_inw0 {sv : Nat → Int32} {L n : Nat} {lf : dlf} {g : cg} {o : cg × Option cv} (h : zr sv L n 172 0 lf [] g o) (h0 : lf 0 = (4, 253)) (h1 : lf 1 = (6, 3)) : (g 253 12 = 2 ∧ (∃ lf'2, lf'2 0 = (4, 253) ∧ lf'2 1 = (6, 3) ∧ lf'2 2 = (0, 0) ∧ lf'2 3 = (0, 1) ∧ zr sv L n 172 14 lf'2 [] g o)) ∨ (g 253 12 ≠ 2 ∧ (o = (g, some (0, (-1))))) := by
  rw [zov h0, zov h1] at h
  have h := zm zy_172 h 4 (q := (cond (crel .eq (g 253 12) 2) 10 8, dset (dset lf 1 (6, 3)) 0 (4, 253), [], g)) rfl
  dsimp only at h
  rcases zif_eq h with ⟨hc1, h⟩ | ⟨hc1, h⟩
  · refine Or.inl ⟨hc1, ?_⟩
    have h := zm zy_172 h 4 (q := (14, dset (dset (dset (dset lf 1 (6, 3)) 0 (4, 253)) 2 (0, 0)) 3 (0, 1), [], g)) rfl
    dsimp only at h
    exact ⟨_, rfl, rfl, rfl, rfl, h⟩
  · refine Or.inr ⟨hc1, ?_⟩
    have h := zm zy_172 h 1 (q := (9, dset (dset lf 1 (6, 3)) 0 (4, 253), [(0, (-1))], g)) rfl
    dsimp only at h
    exact zret zy_172 h rfl rfl
theorem t_inw14 {sv : Nat → Int32} {L n : Nat} {lf : dlf} {g : cg} {o : cg × Option cv} {a b : Int} (h : zr sv L (n + 1) 172 14 lf [] g o) (h0 : lf 0 = (4, 253)) (h1 : lf 1 = (6, 3)) (h2 : lf 2 = (0, a)) (h3 : lf 3 = (0, b)) : ∃ g1 r2, zr sv L n 7 0 (darg 0 [(6, 3)]) [] g (g1, some (0, r2)) ∧ ((r2 ≤ b ∧ (o = (g1, some (0, (-1))))) ∨ (b < r2 ∧ (∃ lf'4, lf'4 0 = (4, 253) ∧ lf'4 1 = (6, 3) ∧ lf'4 2 = (0, a) ∧ lf'4 3 = (0, b) ∧ lf'4 4 = (0, b) ∧ zr sv L n 172 25 lf'4 [] g1 o))) := by
  rw [zov h0, zov h1, zov h2, zov h3] at h
  have h := zm1 zy_172 h 1 (q := (16, dset (dset (dset (dset lf 3 (0, b)) 2 (0, a)) 1 (6, 3)) 0 (4, 253), [(6, 3), (0, b)], g)) rfl
  dsimp only at h
  obtain ⟨g1, r2, hk, h⟩ := zcallI zy_172 h rfl rfl zy_7 zk_7
  dsimp only at hk h
  refine ⟨g1, r2, hk, ?_⟩
  have h := zm zy_172 h 1 (q := (cond (crel .ge b r2) 133 22, dset (dset (dset (dset lf 3 (0, b)) 2 (0, a)) 1 (6, 3)) 0 (4, 253), [], g1)) rfl
  dsimp only at h
  rcases zif_ge h with ⟨hc3, h⟩ | ⟨hc3, h⟩
  · refine Or.inl ⟨hc3, ?_⟩
    have h := zm zy_172 h 1 (q := (134, dset (dset (dset (dset lf 3 (0, b)) 2 (0, a)) 1 (6, 3)) 0 (4, 253), [(0, (-1))], g1)) rfl
    dsimp only at h
    exact zret zy_172 h rfl rfl
  · refine Or.inr ⟨hc3, ?_⟩
    have h := zm zy_172 h 2 (q := (25, dset (dset (dset (dset (dset lf 3 (0, b)) 2 (0, a)) 1 (6, 3)) 0 (4, 253)) 4 (0, b), [], g1)) rfl
    dsimp only at h
    exact ⟨_, rfl, rfl, rfl, rfl, rfl, h⟩
theorem t_inw25 {sv : Nat → Int32} {L n : Nat} {lf : dlf} {g : cg} {o : cg × Option cv} {a b c : Int} (h : zr sv L (n + 1) 172 25 lf [] g o) (h0 : lf 0 = (4, 253)) (h1 : lf 1 = (6, 3)) (h2 : lf 2 = (0, a)) (h3 : lf 3 = (0, b)) (h4 : lf 4 = (0, c)) : ∃ g1 r2, zr sv L n 9 0 (darg 0 [(6, 3), (0, c)]) [] g (g1, some (0, r2)) ∧ ((r2 = 32 ∧ ((w32 (c - b) ≠ w32 ((g1 253 14) - (g1 253 13)) ∧ (∃ lf'5, lf'5 0 = (4, 253) ∧ lf'5 1 = (6, 3) ∧ lf'5 2 = (0, a) ∧ lf'5 3 = (0, b) ∧ lf'5 4 = (0, c) ∧ lf'5 5 = (0, 0) ∧ lf'5 6 = (0, b) ∧ zr sv L n 172 68 lf'5 [] g1 o)) ∨ (w32 (c - b) = w32 ((g1 253 14) - (g1 253 13)) ∧ (∃ lf'6, lf'6 0 = (4, 253) ∧ lf'6 1 = (6, 3) ∧ lf'6 2 = (0, a) ∧ lf'6 3 = (0, b) ∧ lf'6 4 = (0, c) ∧ lf'6 5 = (0, 1) ∧ lf'6 6 = (0, b) ∧ zr sv L n 172 68 lf'6 [] g1 o)))) ∨ (r2 ≠ 32 ∧ (∃ lf'7, lf'7 0 = (4, 253) ∧ lf'7 1 = (6, 3) ∧ lf'7 2 = (0, a) ∧ lf'7 3 = (0, b) ∧ lf'7 4 = (0, w32 (c + 1)) ∧ zr sv L n 172 25 lf'7 [] g1 o))) := by
  rw [zov h0, zov h1, zov h2, zov h3, zov h4] at h
  have h := zm1 zy_172 h 1 (q := (28, dset (dset (dset (dset (dset lf 4 (0, c)) 3 (0, b)) 2 (0, a)) 1 (6, 3)) 0 (4, 253), [(0, c), (6, 3)], g)) rfl
  dsimp only at h
  obtain ⟨g1, r2, hk, h⟩ := zcallI zy_172 h rfl rfl zy_9 zk_9
  dsimp only at hk h
  refine ⟨g1, r2, hk, ?_⟩
  have h := zm zy_172 h 2 (q := (cond (crel .eq r2 32) 42 36, dset (dset (dset (dset (dset lf 4 (0, c)) 3 (0, b)) 2 (0, a)) 1 (6, 3)) 0 (4, 253), [], g1)) rfl
  dsimp only at h
  rcases zif_eq h with ⟨hc3, h⟩ | ⟨hc3, h⟩
  · refine Or.inl ⟨hc3, ?_⟩
    have h := zm zy_172 h 9 (q := (cond (crel .ne (w32 (c - b)) (w32 ((g1 253 14) - (g1 253 13)))) 62 58, dset (dset (dset (dset (dset lf 4 (0, c)) 3 (0, b)) 2 (0, a)) 1 (6, 3)) 0 (4, 253), [], g1)) rfl
    dsimp only at h
    rcases zif_ne h with ⟨hc4, h⟩ | ⟨hc4, h⟩
    · refine Or.inl ⟨hc4, ?_⟩
      have h := zm zy_172 h 4 (q := (68, dset (dset (dset (dset (dset (dset (dset lf 4 (0, c)) 3 (0, b)) 2 (0, a)) 1 (6, 3)) 0 (4, 253)) 5 (0, 0)) 6 (0, b), [], g1)) rfl
      dsimp only at h
      exact ⟨_, rfl, rfl, rfl, rfl, rfl, rfl, rfl, h⟩
    · refine Or.inr ⟨hc4, ?_⟩
      have h := zm zy_172 h 5 (q := (68, dset (dset (dset (dset (dset (dset (dset lf 4 (0, c)) 3 (0, b)) 2 (0, a)) 1 (6, 3)) 0 (4, 253)) 5 (0, 1)) 6 (0, b), [], g1)) rfl
      dsimp only at h
      exact ⟨_, rfl, rfl, rfl, rfl, rfl, rfl, rfl, h⟩
  · refine Or.inr ⟨hc3, ?_⟩
    have h := zm zy_172 h 2 (q := (25, dset (dset (dset (dset (dset (dset lf 4 (0, c)) 3 (0, b)) 2 (0, a)) 1 (6, 3)) 0 (4, 253)) 4 (0, w32 (c + 1)), [], g1)) rfl
    dsimp only at h
    exact ⟨_, rfl, rfl, rfl, rfl, rfl, h⟩
theorem t_inw68 {sv : Nat → Int32} {L n : Nat} {lf : dlf} {g : cg} {o : cg × Option cv} {a b c d e : Int} (h : zr sv L (n + 1) 172 68 lf [] g o) (h0 : lf 0 = (4, 253)) (h1 : lf 1 = (6, 3)) (h2 : lf 2 = (0, a)) (h3 : lf 3 = (0, b)) (h4 : lf 4 = (0, c)) (h5 : lf 5 = (0, d)) (h6 : lf 6 = (0, e)) : (c ≤ e ∧ ((d = 0 ∧ (∃ lf'3, lf'3 0 = (4, 253) ∧ lf'3 1 = (6, 3) ∧ lf'3 2 = (0, w32 (a + 1)) ∧ lf'3 3 = (0, w32 (c + 1)) ∧ zr sv L n 172 14 lf'3 [] g o)) ∨ (d ≠ 0 ∧ (o = (g, some (0, a)))))) ∨ (e < c ∧ ((d = 0 ∧ (∃ lf'6, lf'6 0 = (4, 253) ∧ lf'6 1 = (6, 3) ∧ lf'6 2 = (0, w32 (a + 1)) ∧ lf'6 3 = (0, w32 (c + 1)) ∧ zr sv L n 172 14 lf'6 [] g o)) ∨ (d ≠ 0 ∧ (∃ g7 r8, zr sv L n 9 0 (darg 0 [(6, 3), (0, e)]) [] g (g7, some (0, r8)) ∧ (∃ g9 r10, zr sv L n 167 0 (darg 0 [(4, 253), (0, w32 ((w32 ((g7 253 13) + e)) - b))]) [] g7 (g9, some (0, r10)) ∧ ((r8 ≠ r10 ∧ (∃ lf'12, lf'12 0 = (4, 253) ∧ lf'12 1 = (6, 3) ∧ lf'12 2 = (0, a) ∧ lf'12 3 = (0, b) ∧ lf'12 4 = (0, c) ∧ lf'12 5 = (0, 0) ∧ lf'12 6 = (0, w32 (e + 1)) ∧ zr sv L n 172 68 lf'12 [] g9 o)) ∨ (r8 = r10 ∧ (∃ lf'13, lf'13 0 = (4, 253) ∧ lf'13 1 = (6, 3) ∧ lf'13 2 = (0, a) ∧ lf'13 3 = (0, b) ∧ lf'13 4 = (0, c) ∧ lf'13 5 = (0, 1) ∧ lf'13 6 = (0, w32 (e + 1)) ∧ zr sv L n 172 68 lf'13 [] g9 o)))))))) := by
  rw [zov h0, zov h1, zov h2, zov h3, zov h4, zov h5, zov h6] at h
  have h := zm1 zy_172 h 2 (q := (cond (crel .ge e c) 115 75, dset (dset (dset (dset (dset (dset (dset lf 6 (0, e)) 5 (0, d)) 4 (0, c)) 3 (0, b)) 2 (0, a)) 1 (6, 3)) 0 (4, 253), [], g)) rfl
  dsimp only at h
  rcases zif_ge h with ⟨hc1, h⟩ | ⟨hc1, h⟩
  · refine Or.inl ⟨hc1, ?_⟩
    have h := zm zy_172 h 2 (q := (cond (crel .eq d 0) 122 120, dset (dset (dset (dset (dset (dset (dset lf 6 (0, e)) 5 (0, d)) 4 (0, c)) 3 (0, b)) 2 (0, a)) 1 (6, 3)) 0 (4, 253), [], g)) rfl
    dsimp only at h
    rcases zif_eq h with ⟨hc2, h⟩ | ⟨hc2, h⟩
    · refine Or.inl ⟨hc2, ?_⟩
      have h := zm zy_172 h 6 (q := (14, dset (dset (dset (dset (dset (dset (dset (dset (dset lf 6 (0, e)) 5 (0, d)) 4 (0, c)) 3 (0, b)) 2 (0, a)) 1 (6, 3)) 0 (4, 253)) 2 (0, w32 (a + 1))) 3 (0, w32 (c + 1)), [], g)) rfl
      dsimp only at h
      exact ⟨_, rfl, rfl, rfl, rfl, h⟩
    · refine Or.inr ⟨hc2, ?_⟩
      have h := zm zy_172 h 1 (q := (121, dset (dset (dset (dset (dset (dset (dset lf 6 (0, e)) 5 (0, d)) 4 (0, c)) 3 (0, b)) 2 (0, a)) 1 (6, 3)) 0 (4, 253), [(0, a)], g)) rfl
      dsimp only at h
      exact zret zy_172 h rfl rfl
  · refine Or.inr ⟨hc1, ?_⟩
    have h := zm zy_172 h 2 (q := (cond (crel .eq d 0) 115 80, dset (dset (dset (dset (dset (dset (dset lf 6 (0, e)) 5 (0, d)) 4 (0, c)) 3 (0, b)) 2 (0, a)) 1 (6, 3)) 0 (4, 253), [], g)) rfl
    dsimp only at h
    rcases zif_eq h with ⟨hc4, h⟩ | ⟨hc4, h⟩
    · refine Or.inl ⟨hc4, ?_⟩
      have h := zm zy_172 h 2 (q := (cond (crel .eq d 0) 122 120, dset (dset (dset (dset (dset (dset (dset lf 6 (0, e)) 5 (0, d)) 4 (0, c)) 3 (0, b)) 2 (0, a)) 1 (6, 3)) 0 (4, 253), [], g)) rfl
      dsimp only at h
      rcases zif_eq h with ⟨hc5, h⟩ | ⟨hc5, h⟩
      · have h := zm zy_172 h 6 (q := (14, dset (dset (dset (dset (dset (dset (dset (dset (dset lf 6 (0, e)) 5 (0, d)) 4 (0, c)) 3 (0, b)) 2 (0, a)) 1 (6, 3)) 0 (4, 253)) 2 (0, w32 (a + 1))) 3 (0, w32 (c + 1)), [], g)) rfl
        dsimp only at h
        exact ⟨_, rfl, rfl, rfl, rfl, h⟩
      · exact absurd hc5 (by omega)
    · refine Or.inr ⟨hc4, ?_⟩
      have h := zm zy_172 h 2 (q := (83, dset (dset (dset (dset (dset (dset (dset lf 6 (0, e)) 5 (0, d)) 4 (0, c)) 3 (0, b)) 2 (0, a)) 1 (6, 3)) 0 (4, 253), [(0, e), (6, 3)], g)) rfl
      dsimp only at h
      obtain ⟨g7, r8, hk, h⟩ := zcallI zy_172 h rfl rfl zy_9 zk_9
      dsimp only at hk h
      refine ⟨g7, r8, hk, ?_⟩
      have h := zm zy_172 h 7 (q := (96, dset (dset (dset (dset (dset (dset (dset lf 6 (0, e)) 5 (0, d)) 4 (0, c)) 3 (0, b)) 2 (0, a)) 1 (6, 3)) 0 (4, 253), [(0, w32 ((w32 ((g7 253 13) + e)) - b)), (4, 253), (0, r8)], g7)) rfl
      dsimp only at h
      obtain ⟨g9, r10, hk, h⟩ := zcallI zy_172 h rfl rfl zy_167 zk_167
      dsimp only at hk h
      refine ⟨g9, r10, hk, ?_⟩
      have h := zm zy_172 h 1 (q := (cond (crel .ne r8 r10) 106 102, dset (dset (dset (dset (dset (dset (dset lf 6 (0, e)) 5 (0, d)) 4 (0, c)) 3 (0, b)) 2 (0, a)) 1 (6, 3)) 0 (4, 253), [], g9)) rfl
      dsimp only at h
      rcases zif_ne h with ⟨hc11, h⟩ | ⟨hc11, h⟩
      · refine Or.inl ⟨hc11, ?_⟩
        have h := zm zy_172 h 4 (q := (68, dset (dset (dset (dset (dset (dset (dset (dset (dset lf 6 (0, e)) 5 (0, d)) 4 (0, c)) 3 (0, b)) 2 (0, a)) 1 (6, 3)) 0 (4, 253)) 5 (0, 0)) 6 (0, w32 (e + 1)), [], g9)) rfl
        dsimp only at h
        exact ⟨_, rfl, rfl, rfl, rfl, rfl, rfl, rfl, h⟩
      · refine Or.inr ⟨hc11, ?_⟩
        have h := zm zy_172 h 5 (q := (68, dset (dset (dset (dset (dset (dset (dset (dset (dset lf 6 (0, e)) 5 (0, d)) 4 (0, c)) 3 (0, b)) 2 (0, a)) 1 (6, 3)) 0 (4, 253)) 5 (0, 1)) 6 (0, w32 (e + 1)), [], g9)) rfl
        dsimp only at h
        exact ⟨_, rfl, rfl, rfl, rfl, rfl, rfl, rfl, h⟩
theorem t_isName {sv : Nat → Int32} {L n : Nat} {lf : dlf} {g : cg} {o : cg × Option cv} (h : zr sv L n 181 0 lf [] g o) (h0 : lf 0 = (4, 253)) (h1 : lf 1 = (6, 3)) : (g 253 12 ≠ 2 ∧ (o = (g, some (0, 0)))) ∨ (g 253 12 = 2 ∧ ((8 < w32 ((g 253 14) - (g 253 13)) ∧ (o = (g, some (0, 0)))) ∨ (w32 ((g 253 14) - (g 253 13)) ≤ 8 ∧ (∃ g3 r4, zr sv L n 172 0 (darg 0 [(4, 253), (6, 3)]) [] g (g3, some (0, r4)) ∧ ((r4 ≠ (-1) ∧ (o = (g3, some (0, 0)))) ∨ (r4 = (-1) ∧ (o = (g3, some (0, 1))))))))) := by
  rw [zov h0, zov h1] at h
  have h := zm zy_181 h 4 (q := (cond (crel .ne (g 253 12) 2) 35 8, dset (dset lf 1 (6, 3)) 0 (4, 253), [], g)) rfl
  dsimp only at h
  rcases zif_ne h with ⟨hc1, h⟩ | ⟨hc1, h⟩
  · refine Or.inl ⟨hc1, ?_⟩
    have h := zm zy_181 h 1 (q := (36, dset (dset lf 1 (6, 3)) 0 (4, 253), [(0, 0)], g)) rfl
    dsimp only at h
    exact zret zy_181 h rfl rfl
  · refine Or.inr ⟨hc1, ?_⟩
    have h := zm zy_181 h 7 (q := (cond (crel .gt (w32 ((g 253 14) - (g 253 13))) 8) 35 22, dset (dset lf 1 (6, 3)) 0 (4, 253), [], g)) rfl
    dsimp only at h
    rcases zif_gt h with ⟨hc2, h⟩ | ⟨hc2, h⟩
    · refine Or.inl ⟨hc2, ?_⟩
      have h := zm zy_181 h 1 (q := (36, dset (dset lf 1 (6, 3)) 0 (4, 253), [(0, 0)], g)) rfl
      dsimp only at h
      exact zret zy_181 h rfl rfl
    · refine Or.inr ⟨hc2, ?_⟩
      have h := zm zy_181 h 2 (q := (24, dset (dset lf 1 (6, 3)) 0 (4, 253), [(6, 3), (4, 253)], g)) rfl
      dsimp only at h
      obtain ⟨g3, r4, hk, h⟩ := zcallI zy_181 h rfl rfl zy_172 zk_172
      dsimp only at hk h
      refine ⟨g3, r4, hk, ?_⟩
      have h := zm zy_181 h 2 (q := (cond (crel .ne r4 ((-1))) 35 31, dset (dset lf 1 (6, 3)) 0 (4, 253), [], g3)) rfl
      dsimp only at h
      rcases zif_ne h with ⟨hc5, h⟩ | ⟨hc5, h⟩
      · refine Or.inl ⟨hc5, ?_⟩
        have h := zm zy_181 h 1 (q := (36, dset (dset lf 1 (6, 3)) 0 (4, 253), [(0, 0)], g3)) rfl
        dsimp only at h
        exact zret zy_181 h rfl rfl
      · refine Or.inr ⟨hc5, ?_⟩
        have h := zm zy_181 h 2 (q := (36, dset (dset lf 1 (6, 3)) 0 (4, 253), [(0, 1)], g3)) rfl
        dsimp only at h
        exact zret zy_181 h rfl rfl
theorem t_name0 {sv : Nat → Int32} {L n : Nat} {lf : dlf} {g : cg} {o : cg × Option cv} (h : zr sv L n 183 0 lf [] g o) (h0 : lf 0 = (4, 253)) : ∃ lf'1, lf'1 0 = (4, 253) ∧ lf'1 1 = (2, 0) ∧ lf'1 3 = (0, g 253 13) ∧ zr sv L n 183 7 lf'1 [] g o := by
  rw [zov h0] at h
  have h := zm zy_183 h 5 (q := (7, dset (dset (dset lf 0 (4, 253)) 1 (2, 0)) 3 (0, g 253 13), [], g)) rfl
  dsimp only at h
  exact ⟨_, rfl, rfl, rfl, h⟩
theorem t_name7 {sv : Nat → Int32} {L n : Nat} {lf : dlf} {g : cg} {o : cg × Option cv} {a b : Int} (h : zr sv L (n + 1) 183 7 lf [] g o) (h0 : lf 0 = (4, 253)) (h1 : lf 1 = (2, a)) (h3 : lf 3 = (0, b)) : (g 253 14 ≤ b ∧ (o = (g, some (2, a)))) ∨ (b < g 253 14 ∧ (∃ g2 r3, zr sv L n 167 0 (darg 0 [(4, 253), (0, b)]) [] g (g2, some (0, r3)) ∧ (∃ lf'4, lf'4 0 = (4, 253) ∧ lf'4 1 = (2, (i64 ((i64 a <<< ((i32 8).toInt64 &&& 63)).toInt) ||| i64 r3).toInt) ∧ lf'4 3 = (0, w32 (b + 1)) ∧ zr sv L n 183 7 lf'4 [] g2 o))) := by
  rw [zov h0, zov h1, zov h3] at h
  have h := zm1 zy_183 h 3 (q := (cond (crel .ge b (g 253 14)) 33 15, dset (dset (dset lf 3 (0, b)) 1 (2, a)) 0 (4, 253), [], g)) rfl
  dsimp only at h
  rcases zif_ge h with ⟨hc1, h⟩ | ⟨hc1, h⟩
  · refine Or.inl ⟨hc1, ?_⟩
    have h := zm zy_183 h 1 (q := (34, dset (dset (dset lf 3 (0, b)) 1 (2, a)) 0 (4, 253), [(2, a)], g)) rfl
    dsimp only at h
    exact zret zy_183 h rfl rfl
  · refine Or.inr ⟨hc1, ?_⟩
    have h := zm zy_183 h 5 (q := (21, dset (dset (dset lf 3 (0, b)) 1 (2, a)) 0 (4, 253), [(0, b), (4, 253), (2, (i64 a <<< ((i32 8).toInt64 &&& 63)).toInt)], g)) rfl
    dsimp only at h
    obtain ⟨g2, r3, hk, h⟩ := zcallI zy_183 h rfl rfl zy_167 zk_167
    dsimp only at hk h
    refine ⟨g2, r3, hk, ?_⟩
    have h := zm zy_183 h 5 (q := (7, dset (dset (dset (dset (dset lf 3 (0, b)) 1 (2, a)) 0 (4, 253)) 1 (2, (i64 ((i64 a <<< ((i32 8).toInt64 &&& 63)).toInt) ||| i64 r3).toInt)) 3 (0, w32 (b + 1)), [], g2)) rfl
    dsimp only at h
    exact ⟨_, rfl, rfl, rfl, h⟩
theorem t_fails {sv : Nat → Int32} {L n : Nat} {lf : dlf} {g : cg} {o : cg × Option cv} {a : Int} (h : zr sv L n 173 0 lf [] g o) (h0 : lf 0 = (4, 253)) (h1 : lf 1 = (0, a)) : (g 253 18 ≠ 0 ∧ (o = (g, some (0, 0)))) ∨ (g 253 18 = 0 ∧ ((g 253 12 ≠ 1 ∧ (o = (cup (cup g 253 18 a) 253 17 (g 253 13), some (0, 0)))) ∨ (g 253 12 = 1 ∧ (o = (cup (cup g 253 18 1) 253 17 (g 253 13), some (0, 0)))))) := by
  rw [zov h0, zov h1] at h
  have h := zm zy_173 h 3 (q := (cond (crel .ne (g 253 18) 0) 32 7, dset (dset lf 1 (0, a)) 0 (4, 253), [], g)) rfl
  dsimp only at h
  rcases zif_ne h with ⟨hc1, h⟩ | ⟨hc1, h⟩
  · refine Or.inl ⟨hc1, ?_⟩
    have h := zm zy_173 h 1 (q := (33, dset (dset lf 1 (0, a)) 0 (4, 253), [(0, 0)], g)) rfl
    dsimp only at h
    exact zret zy_173 h rfl rfl
  · refine Or.inr ⟨hc1, ?_⟩
    have h := zm zy_173 h 5 (q := (cond (crel .ne (g 253 12) 1) 20 16, dset (dset lf 1 (0, a)) 0 (4, 253), [(4, 253)], g)) rfl
    dsimp only at h
    rcases zif_ne h with ⟨hc2, h⟩ | ⟨hc2, h⟩
    · refine Or.inl ⟨hc2, ?_⟩
      have h := zm zy_173 h 7 (q := (33, dset (dset lf 1 (0, a)) 0 (4, 253), [(0, 0)], cup (cup g 253 18 a) 253 17 (g 253 13))) rfl
      dsimp only at h
      exact zret zy_173 h rfl rfl
    · refine Or.inr ⟨hc2, ?_⟩
      have h := zm zy_173 h 8 (q := (33, dset (dset lf 1 (0, a)) 0 (4, 253), [(0, 0)], cup (cup g 253 18 1) 253 17 (g 253 13))) rfl
      dsimp only at h
      exact zret zy_173 h rfl rfl
theorem t_isSign {sv : Nat → Int32} {L n : Nat} {lf : dlf} {g : cg} {o : cg × Option cv} {a : Int} (h : zr sv L n 177 0 lf [] g o) (h0 : lf 0 = (4, 253)) (h1 : lf 1 = (0, a)) : (g 253 12 ≠ 4 ∧ (o = (g, some (0, 0)))) ∨ (g 253 12 = 4 ∧ ((g 253 15 ≠ a ∧ (o = (g, some (0, 0)))) ∨ (g 253 15 = a ∧ (o = (g, some (0, 1)))))) := by
  rw [zov h0, zov h1] at h
  have h := zm zy_177 h 4 (q := (cond (crel .ne (g 253 12) 4) 20 8, dset (dset lf 1 (0, a)) 0 (4, 253), [], g)) rfl
  dsimp only at h
  rcases zif_ne h with ⟨hc1, h⟩ | ⟨hc1, h⟩
  · refine Or.inl ⟨hc1, ?_⟩
    have h := zm zy_177 h 1 (q := (21, dset (dset lf 1 (0, a)) 0 (4, 253), [(0, 0)], g)) rfl
    dsimp only at h
    exact zret zy_177 h rfl rfl
  · refine Or.inr ⟨hc1, ?_⟩
    have h := zm zy_177 h 4 (q := (cond (crel .ne (g 253 15) a) 20 16, dset (dset lf 1 (0, a)) 0 (4, 253), [], g)) rfl
    dsimp only at h
    rcases zif_ne h with ⟨hc2, h⟩ | ⟨hc2, h⟩
    · refine Or.inl ⟨hc2, ?_⟩
      have h := zm zy_177 h 1 (q := (21, dset (dset lf 1 (0, a)) 0 (4, 253), [(0, 0)], g)) rfl
      dsimp only at h
      exact zret zy_177 h rfl rfl
    · refine Or.inr ⟨hc2, ?_⟩
      have h := zm zy_177 h 2 (q := (21, dset (dset lf 1 (0, a)) 0 (4, 253), [(0, 1)], g)) rfl
      dsimp only at h
      exact zret zy_177 h rfl rfl
theorem t_wantSign {sv : Nat → Int32} {L n : Nat} {lf : dlf} {g : cg} {o : cg × Option cv} {a : Int} (h : zr sv L n 176 0 lf [] g o) (h0 : lf 0 = (4, 253)) (h1 : lf 1 = (0, a)) : ∃ g1 r2, zr sv L n 177 0 (darg 0 [(4, 253), (0, a)]) [] g (g1, some (0, r2)) ∧ ((r2 ≠ 0 ∧ (∃ g4, zr sv L n 166 0 (darg 0 [(4, 253)]) [] g1 (g4, none) ∧ (o = (g4, some (0, 1))))) ∨ (r2 = 0 ∧ (∃ g5 r6, zr sv L n 173 0 (darg 0 [(4, 253), (0, 2)]) [] g1 (g5, some (0, r6)) ∧ (o = (g5, some (0, r6)))))) := by
  rw [zov h0, zov h1] at h
  have h := zm zy_176 h 2 (q := (2, dset (dset lf 1 (0, a)) 0 (4, 253), [(0, a), (4, 253)], g)) rfl
  dsimp only at h
  obtain ⟨g1, r2, hk, h⟩ := zcallI zy_176 h rfl rfl zy_177 zk_177
  dsimp only at hk h
  refine ⟨g1, r2, hk, ?_⟩
  have h := zm zy_176 h 1 (q := (cond (crel .ne r2 0) 14 8, dset (dset lf 1 (0, a)) 0 (4, 253), [], g1)) rfl
  dsimp only at h
  rcases zif_ne h with ⟨hc3, h⟩ | ⟨hc3, h⟩
  · refine Or.inl ⟨hc3, ?_⟩
    have h := zm zy_176 h 1 (q := (15, dset (dset lf 1 (0, a)) 0 (4, 253), [(4, 253)], g1)) rfl
    dsimp only at h
    obtain ⟨g4, hk, h⟩ := zcallV zy_176 h rfl rfl zy_166 zk_166
    dsimp only at hk h
    refine ⟨g4, hk, ?_⟩
    have h := zm zy_176 h 1 (q := (19, dset (dset lf 1 (0, a)) 0 (4, 253), [(0, 1)], g4)) rfl
    dsimp only at h
    exact zret zy_176 h rfl rfl
  · refine Or.inr ⟨hc3, ?_⟩
    have h := zm zy_176 h 2 (q := (10, dset (dset lf 1 (0, a)) 0 (4, 253), [(0, 2), (4, 253)], g1)) rfl
    dsimp only at h
    obtain ⟨g5, r6, hk, h⟩ := zcallI zy_176 h rfl rfl zy_173 zk_173
    dsimp only at hk h
    refine ⟨g5, r6, hk, ?_⟩
    exact zret zy_176 h rfl rfl
theorem t_wantWord {sv : Nat → Int32} {L n : Nat} {lf : dlf} {g : cg} {o : cg × Option cv} {a : Int} (h : zr sv L n 184 0 lf [] g o) (h0 : lf 0 = (4, 253)) (h1 : lf 1 = (6, 3)) (h2 : lf 2 = (0, a)) : ∃ g1 r2, zr sv L n 172 0 (darg 0 [(4, 253), (6, 3)]) [] g (g1, some (0, r2)) ∧ ((r2 = a ∧ (∃ g4, zr sv L n 166 0 (darg 0 [(4, 253)]) [] g1 (g4, none) ∧ (o = (g4, some (0, 1))))) ∨ (r2 ≠ a ∧ (∃ g5 r6, zr sv L n 173 0 (darg 0 [(4, 253), (0, 2)]) [] g1 (g5, some (0, r6)) ∧ (o = (g5, some (0, r6)))))) := by
  rw [zov h0, zov h1, zov h2] at h
  have h := zm zy_184 h 2 (q := (2, dset (dset (dset lf 2 (0, a)) 1 (6, 3)) 0 (4, 253), [(6, 3), (4, 253)], g)) rfl
  dsimp only at h
  obtain ⟨g1, r2, hk, h⟩ := zcallI zy_184 h rfl rfl zy_172 zk_172
  dsimp only at hk h
  refine ⟨g1, r2, hk, ?_⟩
  have h := zm zy_184 h 2 (q := (cond (crel .eq r2 a) 15 9, dset (dset (dset lf 2 (0, a)) 1 (6, 3)) 0 (4, 253), [], g1)) rfl
  dsimp only at h
  rcases zif_eq h with ⟨hc3, h⟩ | ⟨hc3, h⟩
  · refine Or.inl ⟨hc3, ?_⟩
    have h := zm zy_184 h 1 (q := (16, dset (dset (dset lf 2 (0, a)) 1 (6, 3)) 0 (4, 253), [(4, 253)], g1)) rfl
    dsimp only at h
    obtain ⟨g4, hk, h⟩ := zcallV zy_184 h rfl rfl zy_166 zk_166
    dsimp only at hk h
    refine ⟨g4, hk, ?_⟩
    have h := zm zy_184 h 1 (q := (20, dset (dset (dset lf 2 (0, a)) 1 (6, 3)) 0 (4, 253), [(0, 1)], g4)) rfl
    dsimp only at h
    exact zret zy_184 h rfl rfl
  · refine Or.inr ⟨hc3, ?_⟩
    have h := zm zy_184 h 2 (q := (11, dset (dset (dset lf 2 (0, a)) 1 (6, 3)) 0 (4, 253), [(0, 2), (4, 253)], g1)) rfl
    dsimp only at h
    obtain ⟨g5, r6, hk, h⟩ := zcallI zy_184 h rfl rfl zy_173 zk_173
    dsimp only at hk h
    refine ⟨g5, r6, hk, ?_⟩
    exact zret zy_184 h rfl rfl
theorem t_isThere {sv : Nat → Int32} {L n : Nat} {lf : dlf} {g : cg} {o : cg × Option cv} {a : Int} (h : zr sv L n 189 0 lf [] g o) (h0 : lf 0 = (4, 253)) (h1 : lf 1 = (0, a)) : ∃ g1 r2, zr sv L n 172 0 (darg 0 [(4, 253), (6, 3)]) [] g (g1, some (0, r2)) ∧ ((r2 = a ∧ (∃ g4, zr sv L n 166 0 (darg 0 [(4, 253)]) [] g1 (g4, none) ∧ (o = (g4, some (0, 1))))) ∨ (r2 ≠ a ∧ (o = (g1, some (0, 0))))) := by
  rw [zov h0, zov h1] at h
  have h := zm zy_189 h 2 (q := (3, dset (dset lf 1 (0, a)) 0 (4, 253), [(6, 3), (4, 253)], g)) rfl
  dsimp only at h
  obtain ⟨g1, r2, hk, h⟩ := zcallI zy_189 h rfl rfl zy_172 zk_172
  dsimp only at hk h
  refine ⟨g1, r2, hk, ?_⟩
  have h := zm zy_189 h 2 (q := (cond (crel .eq r2 a) 12 10, dset (dset lf 1 (0, a)) 0 (4, 253), [], g1)) rfl
  dsimp only at h
  rcases zif_eq h with ⟨hc3, h⟩ | ⟨hc3, h⟩
  · refine Or.inl ⟨hc3, ?_⟩
    have h := zm zy_189 h 1 (q := (13, dset (dset lf 1 (0, a)) 0 (4, 253), [(4, 253)], g1)) rfl
    dsimp only at h
    obtain ⟨g4, hk, h⟩ := zcallV zy_189 h rfl rfl zy_166 zk_166
    dsimp only at hk h
    refine ⟨g4, hk, ?_⟩
    have h := zm zy_189 h 1 (q := (17, dset (dset lf 1 (0, a)) 0 (4, 253), [(0, 1)], g4)) rfl
    dsimp only at h
    exact zret zy_189 h rfl rfl
  · refine Or.inr ⟨hc3, ?_⟩
    have h := zm zy_189 h 1 (q := (11, dset (dset lf 1 (0, a)) 0 (4, 253), [(0, 0)], g1)) rfl
    dsimp only at h
    exact zret zy_189 h rfl rfl
theorem t_number {sv : Nat → Int32} {L n : Nat} {lf : dlf} {g : cg} {o : cg × Option cv} {a b c : Int} (h : zr sv L n 175 0 lf [] g o) (h0 : lf 0 = (4, 253)) (h1 : lf 1 = (0, a)) (h2 : lf 2 = (0, b)) (h3 : lf 3 = (0, c)) : (g 253 12 = 3 ∧ ((g 253 15 < b ∧ (∃ g3 r4, zr sv L n 173 0 (darg 0 [(4, 253), (0, 4)]) [] g (g3, some (0, r4)) ∧ (o = (g3, some (0, r4))))) ∨ (b ≤ g 253 15 ∧ ((g 253 15 ≤ c ∧ (∃ g6, zr sv L n 166 0 (darg 0 [(4, 253)]) [] (cup g 254 ((a).toNat) (g 253 15)) (g6, none) ∧ (o = (g6, some (0, 1))))) ∨ (c < g 253 15 ∧ (∃ g7 r8, zr sv L n 173 0 (darg 0 [(4, 253), (0, 4)]) [] g (g7, some (0, r8)) ∧ (o = (g7, some (0, r8))))))))) ∨ (g 253 12 ≠ 3 ∧ (∃ g9 r10, zr sv L n 173 0 (darg 0 [(4, 253), (0, 2)]) [] g (g9, some (0, r10)) ∧ (o = (g9, some (0, r10))))) := by
  rw [zov h0, zov h1, zov h2, zov h3] at h
  have h := zm zy_175 h 4 (q := (cond (crel .eq (g 253 12) 3) 14 8, dset (dset (dset (dset lf 3 (0, c)) 2 (0, b)) 1 (0, a)) 0 (4, 253), [], g)) rfl
  dsimp only at h
  rcases zif_eq h with ⟨hc1, h⟩ | ⟨hc1, h⟩
  · refine Or.inl ⟨hc1, ?_⟩
    have h := zm zy_175 h 4 (q := (cond (crel .lt (g 253 15) b) 30 22, dset (dset (dset (dset lf 3 (0, c)) 2 (0, b)) 1 (0, a)) 0 (4, 253), [], g)) rfl
    dsimp only at h
    rcases zif_lt h with ⟨hc2, h⟩ | ⟨hc2, h⟩
    · refine Or.inl ⟨hc2, ?_⟩
      have h := zm zy_175 h 2 (q := (32, dset (dset (dset (dset lf 3 (0, c)) 2 (0, b)) 1 (0, a)) 0 (4, 253), [(0, 4), (4, 253)], g)) rfl
      dsimp only at h
      obtain ⟨g3, r4, hk, h⟩ := zcallI zy_175 h rfl rfl zy_173 zk_173
      dsimp only at hk h
      refine ⟨g3, r4, hk, ?_⟩
      exact zret zy_175 h rfl rfl
    · refine Or.inr ⟨hc2, ?_⟩
      have h := zm zy_175 h 4 (q := (cond (crel .le (g 253 15) c) 36 30, dset (dset (dset (dset lf 3 (0, c)) 2 (0, b)) 1 (0, a)) 0 (4, 253), [], g)) rfl
      dsimp only at h
      rcases zif_le h with ⟨hc5, h⟩ | ⟨hc5, h⟩
      · refine Or.inl ⟨hc5, ?_⟩
        have h := zm zy_175 h 7 (q := (47, dset (dset (dset (dset lf 3 (0, c)) 2 (0, b)) 1 (0, a)) 0 (4, 253), [(4, 253)], cup g 254 ((a).toNat) (g 253 15))) rfl
        dsimp only at h
        obtain ⟨g6, hk, h⟩ := zcallV zy_175 h rfl rfl zy_166 zk_166
        dsimp only at hk h
        refine ⟨g6, hk, ?_⟩
        have h := zm zy_175 h 1 (q := (51, dset (dset (dset (dset lf 3 (0, c)) 2 (0, b)) 1 (0, a)) 0 (4, 253), [(0, 1)], g6)) rfl
        dsimp only at h
        exact zret zy_175 h rfl rfl
      · refine Or.inr ⟨hc5, ?_⟩
        have h := zm zy_175 h 2 (q := (32, dset (dset (dset (dset lf 3 (0, c)) 2 (0, b)) 1 (0, a)) 0 (4, 253), [(0, 4), (4, 253)], g)) rfl
        dsimp only at h
        obtain ⟨g7, r8, hk, h⟩ := zcallI zy_175 h rfl rfl zy_173 zk_173
        dsimp only at hk h
        refine ⟨g7, r8, hk, ?_⟩
        exact zret zy_175 h rfl rfl
  · refine Or.inr ⟨hc1, ?_⟩
    have h := zm zy_175 h 2 (q := (10, dset (dset (dset (dset lf 3 (0, c)) 2 (0, b)) 1 (0, a)) 0 (4, 253), [(0, 2), (4, 253)], g)) rfl
    dsimp only at h
    obtain ⟨g9, r10, hk, h⟩ := zcallI zy_175 h rfl rfl zy_173 zk_173
    dsimp only at hk h
    refine ⟨g9, r10, hk, ?_⟩
    exact zret zy_175 h rfl rfl
theorem t_fail {sv : Nat → Int32} {L n : Nat} {lf : dlf} {g : cg} {o : cg × Option cv} {a : Int} (h : zr sv L n 39 0 lf [] g o) (h0 : lf 0 = (4, 88)) (h1 : lf 1 = (0, a)) : (g 88 4 ≠ 6 ∧ (o = (cup (cup g 88 10 a) 88 11 (g 88 5), some (0, 0)))) ∨ (g 88 4 = 6 ∧ (o = (cup (cup g 88 10 1) 88 11 (g 88 5), some (0, 0)))) := by
  rw [zov h0, zov h1] at h
  have h := zm zy_39 h 5 (q := (cond (crel .ne (g 88 4) 6) 14 10, dset (dset lf 1 (0, a)) 0 (4, 88), [(4, 88)], g)) rfl
  dsimp only at h
  rcases zif_ne h with ⟨hc1, h⟩ | ⟨hc1, h⟩
  · refine Or.inl ⟨hc1, ?_⟩
    have h := zm zy_39 h 7 (q := (27, dset (dset lf 1 (0, a)) 0 (4, 88), [(0, 0)], cup (cup g 88 10 a) 88 11 (g 88 5))) rfl
    dsimp only at h
    exact zret zy_39 h rfl rfl
  · refine Or.inr ⟨hc1, ?_⟩
    have h := zm zy_39 h 8 (q := (27, dset (dset lf 1 (0, a)) 0 (4, 88), [(0, 0)], cup (cup g 88 10 1) 88 11 (g 88 5))) rfl
    dsimp only at h
    exact zret zy_39 h rfl rfl
theorem t_failAt {sv : Nat → Int32} {L n : Nat} {lf : dlf} {g : cg} {o : cg × Option cv} {a b : Int} (h : zr sv L n 50 0 lf [] g o) (h0 : lf 0 = (4, 88)) (h1 : lf 1 = (0, a)) (h2 : lf 2 = (0, b)) : o = (cup (cup g 88 10 b) 88 11 a, some (0, 0)) := by
  rw [zov h0, zov h1, zov h2] at h
  have h := zm zy_50 h 7 (q := (11, dset (dset (dset lf 2 (0, b)) 1 (0, a)) 0 (4, 88), [(0, 0)], cup (cup g 88 10 b) 88 11 a)) rfl
  dsimp only at h
  exact zret zy_50 h rfl rfl
theorem t_pass {sv : Nat → Int32} {L n : Nat} {lf : dlf} {g : cg} {o : cg × Option cv} {a : Int} (h : zr sv L n 46 0 lf [] g o) (h0 : lf 0 = (4, 88)) (h1 : lf 1 = (0, a)) : (g 88 7 = a ∧ (∃ g2, zr sv L n 37 0 (darg 0 [(4, 88)]) [] g (g2, none) ∧ (o = (g2, some (0, 1))))) ∨ (g 88 7 ≠ a ∧ (∃ g3 r4, zr sv L n 39 0 (darg 0 [(4, 88), (0, 2)]) [] g (g3, some (0, r4)) ∧ (o = (g3, some (0, r4))))) := by
  rw [zov h0, zov h1] at h
  have h := zm zy_46 h 4 (q := (cond (crel .eq (g 88 7) a) 14 8, dset (dset lf 1 (0, a)) 0 (4, 88), [], g)) rfl
  dsimp only at h
  rcases zif_eq h with ⟨hc1, h⟩ | ⟨hc1, h⟩
  · refine Or.inl ⟨hc1, ?_⟩
    have h := zm zy_46 h 1 (q := (15, dset (dset lf 1 (0, a)) 0 (4, 88), [(4, 88)], g)) rfl
    dsimp only at h
    obtain ⟨g2, hk, h⟩ := zcallV zy_46 h rfl rfl zy_37 zk_37
    dsimp only at hk h
    refine ⟨g2, hk, ?_⟩
    have h := zm zy_46 h 1 (q := (19, dset (dset lf 1 (0, a)) 0 (4, 88), [(0, 1)], g2)) rfl
    dsimp only at h
    exact zret zy_46 h rfl rfl
  · refine Or.inr ⟨hc1, ?_⟩
    have h := zm zy_46 h 2 (q := (10, dset (dset lf 1 (0, a)) 0 (4, 88), [(0, 2), (4, 88)], g)) rfl
    dsimp only at h
    obtain ⟨g3, r4, hk, h⟩ := zcallI zy_46 h rfl rfl zy_39 zk_39
    dsimp only at hk h
    refine ⟨g3, r4, hk, ?_⟩
    exact zret zy_46 h rfl rfl
theorem t_passIf {sv : Nat → Int32} {L n : Nat} {lf : dlf} {g : cg} {o : cg × Option cv} {a : Int} (h : zr sv L n 57 0 lf [] g o) (h0 : lf 0 = (4, 88)) (h1 : lf 1 = (0, a)) : (g 88 7 = a ∧ (∃ g2, zr sv L n 37 0 (darg 0 [(4, 88)]) [] g (g2, none) ∧ (o = (g2, some (0, 1))))) ∨ (g 88 7 ≠ a ∧ (o = (g, some (0, 0)))) := by
  rw [zov h0, zov h1] at h
  have h := zm zy_57 h 4 (q := (cond (crel .eq (g 88 7) a) 10 8, dset (dset lf 1 (0, a)) 0 (4, 88), [], g)) rfl
  dsimp only at h
  rcases zif_eq h with ⟨hc1, h⟩ | ⟨hc1, h⟩
  · refine Or.inl ⟨hc1, ?_⟩
    have h := zm zy_57 h 1 (q := (11, dset (dset lf 1 (0, a)) 0 (4, 88), [(4, 88)], g)) rfl
    dsimp only at h
    obtain ⟨g2, hk, h⟩ := zcallV zy_57 h rfl rfl zy_37 zk_37
    dsimp only at hk h
    refine ⟨g2, hk, ?_⟩
    have h := zm zy_57 h 1 (q := (15, dset (dset lf 1 (0, a)) 0 (4, 88), [(0, 1)], g2)) rfl
    dsimp only at h
    exact zret zy_57 h rfl rfl
  · refine Or.inr ⟨hc1, ?_⟩
    have h := zm zy_57 h 1 (q := (9, dset (dset lf 1 (0, a)) 0 (4, 88), [(0, 0)], g)) rfl
    dsimp only at h
    exact zret zy_57 h rfl rfl
theorem t_passStop {sv : Nat → Int32} {L n : Nat} {lf : dlf} {g : cg} {o : cg × Option cv} (h : zr sv L n 42 0 lf [] g o) (h0 : lf 0 = (4, 88)) : (g 88 4 ≠ 5 ∧ (∃ g2 r3, zr sv L n 39 0 (darg 0 [(4, 88), (0, 2)]) [] g (g2, some (0, r3)) ∧ (o = (g2, some (0, r3))))) ∨ (g 88 4 = 5 ∧ ((g 88 9 = 59 ∧ (∃ g5, zr sv L n 37 0 (darg 0 [(4, 88)]) [] g (g5, none) ∧ (o = (g5, some (0, 1))))) ∨ (g 88 9 ≠ 59 ∧ (∃ g6 r7, zr sv L n 39 0 (darg 0 [(4, 88), (0, 2)]) [] g (g6, some (0, r7)) ∧ (o = (g6, some (0, r7))))))) := by
  rw [zov h0] at h
  have h := zm zy_42 h 4 (q := (cond (crel .ne (g 88 4) 5) 17 8, dset lf 0 (4, 88), [], g)) rfl
  dsimp only at h
  rcases zif_ne h with ⟨hc1, h⟩ | ⟨hc1, h⟩
  · refine Or.inl ⟨hc1, ?_⟩
    have h := zm zy_42 h 2 (q := (19, dset lf 0 (4, 88), [(0, 2), (4, 88)], g)) rfl
    dsimp only at h
    obtain ⟨g2, r3, hk, h⟩ := zcallI zy_42 h rfl rfl zy_39 zk_39
    dsimp only at hk h
    refine ⟨g2, r3, hk, ?_⟩
    exact zret zy_42 h rfl rfl
  · refine Or.inr ⟨hc1, ?_⟩
    have h := zm zy_42 h 4 (q := (cond (crel .eq (g 88 9) 59) 23 17, dset lf 0 (4, 88), [], g)) rfl
    dsimp only at h
    rcases zif_eq h with ⟨hc4, h⟩ | ⟨hc4, h⟩
    · refine Or.inl ⟨hc4, ?_⟩
      have h := zm zy_42 h 1 (q := (24, dset lf 0 (4, 88), [(4, 88)], g)) rfl
      dsimp only at h
      obtain ⟨g5, hk, h⟩ := zcallV zy_42 h rfl rfl zy_37 zk_37
      dsimp only at hk h
      refine ⟨g5, hk, ?_⟩
      have h := zm zy_42 h 1 (q := (28, dset lf 0 (4, 88), [(0, 1)], g5)) rfl
      dsimp only at h
      exact zret zy_42 h rfl rfl
    · refine Or.inr ⟨hc4, ?_⟩
      have h := zm zy_42 h 2 (q := (19, dset lf 0 (4, 88), [(0, 2), (4, 88)], g)) rfl
      dsimp only at h
      obtain ⟨g6, r7, hk, h⟩ := zcallI zy_42 h rfl rfl zy_39 zk_39
      dsimp only at hk h
      refine ⟨g6, r7, hk, ?_⟩
      exact zret zy_42 h rfl rfl
theorem t_passNum {sv : Nat → Int32} {L n : Nat} {lf : dlf} {g : cg} {o : cg × Option cv} {a b : Int} (h : zr sv L n 41 0 lf [] g o) (h0 : lf 0 = (4, 88)) (h1 : lf 1 = (0, a)) (h2 : lf 2 = (0, b)) : (g 88 4 ≠ 4 ∧ (∃ g3 r4, zr sv L n 39 0 (darg 0 [(4, 88), (0, 2)]) [] g (g3, some (0, r4)) ∧ (o = (g3, some (0, (-1)))))) ∨ (g 88 4 = 4 ∧ ((g 88 8 < a ∧ (∃ g7 r8, zr sv L n 39 0 (darg 0 [(4, 88), (0, 4)]) [] g (g7, some (0, r8)) ∧ (o = (g7, some (0, (-1)))))) ∨ (a ≤ g 88 8 ∧ ((g 88 8 ≤ b ∧ (∃ g10, zr sv L n 37 0 (darg 0 [(4, 88)]) [] g (g10, none) ∧ (o = (g10, some (0, g 88 8))))) ∨ (b < g 88 8 ∧ (∃ g12 r13, zr sv L n 39 0 (darg 0 [(4, 88), (0, 4)]) [] g (g12, some (0, r13)) ∧ (o = (g12, some (0, (-1)))))))))) := by
  rw [zov h0, zov h1, zov h2] at h
  have h := zm zy_41 h 4 (q := (cond (crel .ne (g 88 4) 4) 24 8, dset (dset (dset lf 2 (0, b)) 1 (0, a)) 0 (4, 88), [], g)) rfl
  dsimp only at h
  rcases zif_ne h with ⟨hc1, h⟩ | ⟨hc1, h⟩
  · refine Or.inl ⟨hc1, ?_⟩
    have h := zm zy_41 h 5 (q := (cond (crel .ne (g 88 4) 4) 37 33, dset (dset (dset lf 2 (0, b)) 1 (0, a)) 0 (4, 88), [(4, 88)], g)) rfl
    dsimp only at h
    rcases zif_ne h with ⟨hc2, h⟩ | ⟨hc2, h⟩
    · have h := zm zy_41 h 1 (q := (38, dset (dset (dset lf 2 (0, b)) 1 (0, a)) 0 (4, 88), [(0, 2), (4, 88)], g)) rfl
      dsimp only at h
      obtain ⟨g3, r4, hk, h⟩ := zcallI zy_41 h rfl rfl zy_39 zk_39
      dsimp only at hk h
      refine ⟨g3, r4, hk, ?_⟩
      have h := zm zy_41 h 2 (q := (43, dset (dset (dset lf 2 (0, b)) 1 (0, a)) 0 (4, 88), [(0, (-1))], g3)) rfl
      dsimp only at h
      exact zret zy_41 h rfl rfl
    · exact absurd hc2 (by omega)
  · refine Or.inr ⟨hc1, ?_⟩
    have h := zm zy_41 h 4 (q := (cond (crel .lt (g 88 8) a) 24 16, dset (dset (dset lf 2 (0, b)) 1 (0, a)) 0 (4, 88), [], g)) rfl
    dsimp only at h
    rcases zif_lt h with ⟨hc5, h⟩ | ⟨hc5, h⟩
    · refine Or.inl ⟨hc5, ?_⟩
      have h := zm zy_41 h 5 (q := (cond (crel .ne (g 88 4) 4) 37 33, dset (dset (dset lf 2 (0, b)) 1 (0, a)) 0 (4, 88), [(4, 88)], g)) rfl
      dsimp only at h
      rcases zif_ne h with ⟨hc6, h⟩ | ⟨hc6, h⟩
      · exact absurd hc6 (by omega)
      · have h := zm zy_41 h 2 (q := (38, dset (dset (dset lf 2 (0, b)) 1 (0, a)) 0 (4, 88), [(0, 4), (4, 88)], g)) rfl
        dsimp only at h
        obtain ⟨g7, r8, hk, h⟩ := zcallI zy_41 h rfl rfl zy_39 zk_39
        dsimp only at hk h
        refine ⟨g7, r8, hk, ?_⟩
        have h := zm zy_41 h 2 (q := (43, dset (dset (dset lf 2 (0, b)) 1 (0, a)) 0 (4, 88), [(0, (-1))], g7)) rfl
        dsimp only at h
        exact zret zy_41 h rfl rfl
    · refine Or.inr ⟨hc5, ?_⟩
      have h := zm zy_41 h 4 (q := (cond (crel .le (g 88 8) b) 44 24, dset (dset (dset lf 2 (0, b)) 1 (0, a)) 0 (4, 88), [], g)) rfl
      dsimp only at h
      rcases zif_le h with ⟨hc9, h⟩ | ⟨hc9, h⟩
      · refine Or.inl ⟨hc9, ?_⟩
        have h := zm zy_41 h 4 (q := (50, dset (dset (dset (dset lf 2 (0, b)) 1 (0, a)) 0 (4, 88)) 3 (0, g 88 8), [(4, 88)], g)) rfl
        dsimp only at h
        obtain ⟨g10, hk, h⟩ := zcallV zy_41 h rfl rfl zy_37 zk_37
        dsimp only at hk h
        refine ⟨g10, hk, ?_⟩
        have h := zm zy_41 h 1 (q := (54, dset (dset (dset (dset lf 2 (0, b)) 1 (0, a)) 0 (4, 88)) 3 (0, g 88 8), [(0, g 88 8)], g10)) rfl
        dsimp only at h
        exact zret zy_41 h rfl rfl
      · refine Or.inr ⟨hc9, ?_⟩
        have h := zm zy_41 h 5 (q := (cond (crel .ne (g 88 4) 4) 37 33, dset (dset (dset lf 2 (0, b)) 1 (0, a)) 0 (4, 88), [(4, 88)], g)) rfl
        dsimp only at h
        rcases zif_ne h with ⟨hc11, h⟩ | ⟨hc11, h⟩
        · exact absurd hc11 (by omega)
        · have h := zm zy_41 h 2 (q := (38, dset (dset (dset lf 2 (0, b)) 1 (0, a)) 0 (4, 88), [(0, 4), (4, 88)], g)) rfl
          dsimp only at h
          obtain ⟨g12, r13, hk, h⟩ := zcallI zy_41 h rfl rfl zy_39 zk_39
          dsimp only at hk h
          refine ⟨g12, r13, hk, ?_⟩
          have h := zm zy_41 h 2 (q := (43, dset (dset (dset lf 2 (0, b)) 1 (0, a)) 0 (4, 88), [(0, (-1))], g12)) rfl
          dsimp only at h
          exact zret zy_41 h rfl rfl
end
end
