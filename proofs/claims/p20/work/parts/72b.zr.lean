/-! What a run says, read off instruction by instruction -/
noncomputable def zr (sv : Nat → Int32) (L n y pc : Nat) (lf : dlf) (st : List cv) (g : cg) (o : cg × Option cv) : Prop := dv xcode xh2 sv xmeth (xel L) xeb n y pc lf st g = some o
noncomputable def dm (sv : Nat → Int32) (L : Nat) (t : Lean.RArray (Nat × xins)) : Nat → Nat → dlf → List cv → cg → Option (Nat × dlf × List cv × cg)
  | 0, pc, lf, st, g => some (pc, lf, st, g)
  | k + 1, pc, lf, st, g => match xg t pc with
    | none => none
    | some e => match dnx xh2 sv xmeth (xel L) xeb e.1 e.2.1 e.2.2.1 e.2.2.2.1 e.2.2.2.2 pc lf st g with
      | some (.inl q) => dm sv L t k q.1 q.2.1 q.2.2.1 q.2.2.2
      | _ => none
section Z
variable {sv : Nat → Int32} {L n y pc : Nat} {t tz : Lean.RArray (Nat × xins)} {lf : dlf} {st : List cv} {g : cg} {o : cg × Option cv} {e : xins}
theorem zr_0 (h : zr sv L 0 y pc lf st g o) : False := by cases h
theorem zr_m (h : zr sv L n y pc lf st g o) : zr sv L (n + 1) y pc lf st g o := dv_mono1 _ _ _ _ _ _ _ h
theorem zs1 (hy : xg xcode y = some t) (he : xg t pc = some e) {q : Nat × dlf × List cv × cg} (hd : dnx xh2 sv xmeth (xel L) xeb e.1 e.2.1 e.2.2.1 e.2.2.2.1 e.2.2.2.2 pc lf st g = some (.inl q)) (h : zr sv L (n + 1) y pc lf st g o) : zr sv L n y q.1 q.2.1 q.2.2.1 q.2.2.2 o := by
  unfold zr at h
  rw [dv_at ⟨t, hy, he⟩, hd] at h
  exact h
theorem zs (hy : xg xcode y = some t) (he : xg t pc = some e) {q : Nat × dlf × List cv × cg} (hd : dnx xh2 sv xmeth (xel L) xeb e.1 e.2.1 e.2.2.1 e.2.2.2.1 e.2.2.2.2 pc lf st g = some (.inl q)) (h : zr sv L n y pc lf st g o) : zr sv L n y q.1 q.2.1 q.2.2.1 q.2.2.2 o := by
  cases n with
  | zero => exact (zr_0 h).elim
  | succ n => exact zr_m (zs1 hy he hd h)
theorem zm0 (hy : xg xcode y = some t) : ∀ (k : Nat) {pc : Nat} {lf : dlf} {st : List cv} {g : cg} {q : Nat × dlf × List cv × cg}, dm sv L t k pc lf st g = some q → zr sv L n y pc lf st g o → zr sv L n y q.1 q.2.1 q.2.2.1 q.2.2.2 o
  | 0, pc, lf, st, g, q, hm, h => by
    have e : (pc, lf, st, g) = q := Option.some.inj hm
    rw [← e]
    exact h
  | k + 1, pc, lf, st, g, q, hm, h => by
    have hm : (match xg t pc with
      | none => none
      | some e => match dnx xh2 sv xmeth (xel L) xeb e.1 e.2.1 e.2.2.1 e.2.2.2.1 e.2.2.2.2 pc lf st g with
        | some (.inl q) => dm sv L t k q.1 q.2.1 q.2.2.1 q.2.2.2
        | _ => none) = some q := hm
    cases he : xg t pc with
    | none => rw [he] at hm; cases hm
    | some e =>
      rw [he] at hm
      dsimp only at hm
      cases hd : dnx xh2 sv xmeth (xel L) xeb e.1 e.2.1 e.2.2.1 e.2.2.2.1 e.2.2.2.2 pc lf st g with
      | none => rw [hd] at hm; cases hm
      | some w =>
        rw [hd] at hm
        cases w with
        | inr w => cases hm
        | inl w => exact zm0 hy k hm (zs hy he hd h)
theorem zm (hy : xg xcode y = some t) (h : zr sv L n y pc lf st g o) (k : Nat) {q : Nat × dlf × List cv × cg} (hm : dm sv L t k pc lf st g = some q) : zr sv L n y q.1 q.2.1 q.2.2.1 q.2.2.2 o := zm0 hy k hm h
/-- the same, one less left -/
theorem zm1 (hy : xg xcode y = some t) (h : zr sv L (n + 1) y pc lf st g o) (k : Nat) {q : Nat × dlf × List cv × cg} (hm : dm sv L t (k + 1) pc lf st g = some q) : zr sv L n y q.1 q.2.1 q.2.2.1 q.2.2.2 o := by
  have hm : (match xg t pc with
    | none => none
    | some e => match dnx xh2 sv xmeth (xel L) xeb e.1 e.2.1 e.2.2.1 e.2.2.2.1 e.2.2.2.2 pc lf st g with
      | some (.inl q) => dm sv L t k q.1 q.2.1 q.2.2.1 q.2.2.2
      | _ => none) = some q := hm
  cases he : xg t pc with
  | none => rw [he] at hm; cases hm
  | some e =>
    rw [he] at hm
    dsimp only at hm
    cases hd : dnx xh2 sv xmeth (xel L) xeb e.1 e.2.1 e.2.2.1 e.2.2.2.1 e.2.2.2.2 pc lf st g with
    | none => rw [hd] at hm; cases hm
    | some w =>
      rw [hd] at hm
      cases w with
      | inr w => cases hm
      | inl w => exact zm0 hy k hm (zs1 hy he hd h)
theorem zret (hy : xg xcode y = some t) (h : zr sv L n y pc lf st g o) (he : xg t pc = some e) {rv : Option cv} (hd : dnx xh2 sv xmeth (xel L) xeb e.1 e.2.1 e.2.2.1 e.2.2.2.1 e.2.2.2.2 pc lf st g = some (.inr (.inl rv))) : o = (g, rv) := by
  cases n with
  | zero => exact (zr_0 h).elim
  | succ n =>
    unfold zr at h
    rw [dv_at ⟨t, hy, he⟩, hd] at h
    exact (Option.some.inj h).symm
theorem zcall (hy : xg xcode y = some t) (h : zr sv L n y pc lf st g o) (he : xg t pc = some e) {q : List cv × List cv} (hd : dnx xh2 sv xmeth (xel L) xeb e.1 e.2.1 e.2.2.1 e.2.2.2.1 e.2.2.2.2 pc lf st g = some (.inr (.inr q))) : ∃ o1, zr sv L n e.2.2.2.1 0 (darg 0 q.1) [] g o1 ∧ zr sv L n y e.2.1 lf (cpsh o1.2 q.2) o1.1 o := by
  cases n with
  | zero => exact (zr_0 h).elim
  | succ n =>
    unfold zr at h
    rw [dv_at ⟨t, hy, he⟩, hd] at h
    have h : (match dv xcode xh2 sv xmeth (xel L) xeb n e.2.2.2.1 0 (darg 0 q.1) [] g with
      | none => none
      | some o => dv xcode xh2 sv xmeth (xel L) xeb n y e.2.1 lf (cpsh o.2 q.2) o.1) = some o := h
    cases h1 : dv xcode xh2 sv xmeth (xel L) xeb n e.2.2.2.1 0 (darg 0 q.1) [] g with
    | none => rw [h1] at h; cases h
    | some o1 =>
      rw [h1] at h
      exact ⟨o1, zr_m h1, zr_m h⟩
theorem zshape (hy : xg xcode y = some t) {k : Nat} (hk : zkc k t = true) : ∀ {n pc : Nat} {lf : dlf} {st : List cv} {g : cg} {o : cg × Option cv}, zr sv L n y pc lf st g o → zsh k o.2
  | 0, _, _, _, _, _, h => (zr_0 h).elim
  | n + 1, pc, lf, st, g, o, h => by
    have h0 : dstep xcode xh2 sv xmeth (xel L) xeb (dv xcode xh2 sv xmeth (xel L) xeb n) y pc lf st g = some o := h
    unfold dstep at h0
    rw [hy] at h0
    dsimp only at h0
    cases he : xg t pc with
    | none => rw [he] at h0; cases h0
    | some e =>
      rw [he] at h0
      dsimp only at h0
      cases hd : dnx xh2 sv xmeth (xel L) xeb e.1 e.2.1 e.2.2.1 e.2.2.2.1 e.2.2.2.2 pc lf st g with
      | none => rw [hd] at h0; cases h0
      | some w =>
        rw [hd] at h0
        match w, hd, h0 with
        | .inl q, hd, h0 => exact zshape hy hk h0
        | .inr (.inl rv), hd, h0 =>
          have e1 : (g, rv) = o := Option.some.inj h0
          rw [← e1]
          have hq := xall_get t _ hk pc e he
          obtain ⟨a1, a2⟩ := dnx_rv hd
          have : zk e.1 = k := by
            rcases xcnt hq with q | q
            · exact xeqb q
            · exact absurd (xeqb q) a1
          rw [← this]
          exact a2
        | .inr (.inr q), hd, h0 =>
          have h0 : (match dv xcode xh2 sv xmeth (xel L) xeb n e.2.2.2.1 0 (darg 0 q.1) [] g with
            | none => none
            | some o => dv xcode xh2 sv xmeth (xel L) xeb n y e.2.1 lf (cpsh o.2 q.2) o.1) = some o := h0
          cases h1 : dv xcode xh2 sv xmeth (xel L) xeb n e.2.2.2.1 0 (darg 0 q.1) [] g with
          | none => rw [h1] at h0; cases h0
          | some o1 =>
            rw [h1] at h0
            exact zshape hy hk h0
theorem zcallI (hy : xg xcode y = some t) (h : zr sv L n y pc lf st g o) (he : xg t pc = some e) {q : List cv × List cv} (hd : dnx xh2 sv xmeth (xel L) xeb e.1 e.2.1 e.2.2.1 e.2.2.2.1 e.2.2.2.2 pc lf st g = some (.inr (.inr q))) (hz : xg xcode e.2.2.2.1 = some tz) (hk : zkc 1 tz = true) : ∃ g1 r, zr sv L n e.2.2.2.1 0 (darg 0 q.1) [] g (g1, some (0, r)) ∧ zr sv L n y e.2.1 lf ((0, r) :: q.2) g1 o := by
  obtain ⟨⟨g1, rv⟩, h1, h2⟩ := zcall hy h he hd
  obtain ⟨z, hz⟩ := zshape hz hk h1
  have hz : rv = some (0, z) := hz
  subst hz
  exact ⟨g1, z, h1, h2⟩
theorem zcallL (hy : xg xcode y = some t) (h : zr sv L n y pc lf st g o) (he : xg t pc = some e) {q : List cv × List cv} (hd : dnx xh2 sv xmeth (xel L) xeb e.1 e.2.1 e.2.2.1 e.2.2.2.1 e.2.2.2.2 pc lf st g = some (.inr (.inr q))) (hz : xg xcode e.2.2.2.1 = some tz) (hk : zkc 2 tz = true) : ∃ g1 r, zr sv L n e.2.2.2.1 0 (darg 0 q.1) [] g (g1, some (2, r)) ∧ zr sv L n y e.2.1 lf ((2, r) :: q.2) g1 o := by
  obtain ⟨⟨g1, rv⟩, h1, h2⟩ := zcall hy h he hd
  obtain ⟨z, hz⟩ := zshape hz hk h1
  have hz : rv = some (2, z) := hz
  subst hz
  exact ⟨g1, z, h1, h2⟩
theorem zcallV (hy : xg xcode y = some t) (h : zr sv L n y pc lf st g o) (he : xg t pc = some e) {q : List cv × List cv} (hd : dnx xh2 sv xmeth (xel L) xeb e.1 e.2.1 e.2.2.1 e.2.2.2.1 e.2.2.2.2 pc lf st g = some (.inr (.inr q))) (hz : xg xcode e.2.2.2.1 = some tz) (hk : zkc 0 tz = true) : ∃ g1, zr sv L n e.2.2.2.1 0 (darg 0 q.1) [] g (g1, none) ∧ zr sv L n y e.2.1 lf q.2 g1 o := by
  obtain ⟨⟨g1, rv⟩, h1, h2⟩ := zcall hy h he hd
  have hz : rv = none := zshape hz hk h1
  subst hz
  exact ⟨g1, h1, h2⟩
theorem znone (hy : xg xcode y = some t) (h : zr sv L n y pc lf st g o) (he : xg t pc = none) : False := by
  cases n with
  | zero => exact zr_0 h
  | succ n =>
    have h0 : dstep xcode xh2 sv xmeth (xel L) xeb (dv xcode xh2 sv xmeth (xel L) xeb n) y pc lf st g = some o := h
    unfold dstep at h0
    rw [hy] at h0
    dsimp only at h0
    rw [he] at h0
    cases h0
/-! branches -/
theorem zif {b : Bool} {p q : Nat} (h : zr sv L n y (cond b p q) lf st g o) : (b = true ∧ zr sv L n y p lf st g o) ∨ (b = false ∧ zr sv L n y q lf st g o) := by
  cases b with
  | true => exact Or.inl ⟨rfl, h⟩
  | false => exact Or.inr ⟨rfl, h⟩
theorem zif_eq {a b : Int} {p q : Nat} (h : zr sv L n y (cond (crel .eq a b) p q) lf st g o) : (a = b ∧ zr sv L n y p lf st g o) ∨ (a ≠ b ∧ zr sv L n y q lf st g o) := (zif h).imp (fun x => ⟨of_decide_eq_true x.1, x.2⟩) (fun x => ⟨of_decide_eq_false x.1, x.2⟩)
theorem zif_ne {a b : Int} {p q : Nat} (h : zr sv L n y (cond (crel .ne a b) p q) lf st g o) : (a ≠ b ∧ zr sv L n y p lf st g o) ∨ (a = b ∧ zr sv L n y q lf st g o) := (zif h).imp (fun x => ⟨of_decide_eq_true x.1, x.2⟩) (fun x => ⟨Decidable.not_not.mp (of_decide_eq_false x.1), x.2⟩)
theorem zif_lt {a b : Int} {p q : Nat} (h : zr sv L n y (cond (crel .lt a b) p q) lf st g o) : (a < b ∧ zr sv L n y p lf st g o) ∨ (b ≤ a ∧ zr sv L n y q lf st g o) := (zif h).imp (fun x => ⟨of_decide_eq_true x.1, x.2⟩) (fun x => ⟨Int.not_lt.mp (of_decide_eq_false x.1), x.2⟩)
theorem zif_ge {a b : Int} {p q : Nat} (h : zr sv L n y (cond (crel .ge a b) p q) lf st g o) : (b ≤ a ∧ zr sv L n y p lf st g o) ∨ (a < b ∧ zr sv L n y q lf st g o) := (zif h).imp (fun x => ⟨of_decide_eq_true x.1, x.2⟩) (fun x => ⟨Int.not_le.mp (of_decide_eq_false x.1), x.2⟩)
theorem zif_gt {a b : Int} {p q : Nat} (h : zr sv L n y (cond (crel .gt a b) p q) lf st g o) : (b < a ∧ zr sv L n y p lf st g o) ∨ (a ≤ b ∧ zr sv L n y q lf st g o) := (zif h).imp (fun x => ⟨of_decide_eq_true x.1, x.2⟩) (fun x => ⟨Int.not_lt.mp (of_decide_eq_false x.1), x.2⟩)
theorem zif_le {a b : Int} {p q : Nat} (h : zr sv L n y (cond (crel .le a b) p q) lf st g o) : (a ≤ b ∧ zr sv L n y p lf st g o) ∨ (b < a ∧ zr sv L n y q lf st g o) := (zif h).imp (fun x => ⟨of_decide_eq_true x.1, x.2⟩) (fun x => ⟨Int.not_le.mp (of_decide_eq_false x.1), x.2⟩)
theorem zov {i : Nat} {v : cv} (h : lf i = v) : lf = dset lf i v := by
  funext j
  show lf j = cond (Nat.beq j i) v (lf j)
  cases hb : Nat.beq j i with
  | true => rw [xeqb hb]; exact h
  | false => rfl
end Z
/-! loads -/
noncomputable def zck (k kd m : Nat) : Bool := match xg xh2 k with
  | none => false
  | some q => cond (Nat.beq q.1 kd) (Nat.beq q.2.1 m) false
theorem dvb {k kd m : Nat} (hk : zck k kd m = true) (h2 : kd = 13 ∨ kd = 15) {g : cg} {i : Int} (h0 : 0 ≤ i) (h1 : i < (m : Int)) : dval xh2 g k i.toNat = (0, g k i.toNat) := by
  unfold zck at hk
  cases hq : xg xh2 k with
  | none => rw [hq] at hk; cases hk
  | some q =>
    rw [hq] at hk
    obtain ⟨e1, e2⟩ := xcnb hk
    have e1 := xeqb e1
    have e2 := xeqb e2
    obtain ⟨-, hj⟩ := yH0 k q hq
    obtain ⟨w, hw, a1, a2, a3⟩ := hj i.toNat (by omega)
    unfold dval
    rw [hq]
    dsimp only
    rw [hw]
    dsimp only
    have : w.1 = 0 := a1 (by rw [e1]; exact h2)
    unfold cval
    rw [this]
    rfl
theorem dvbL {k kd m : Nat} (hk : zck k kd m = true) (h2 : kd = 14) {g : cg} {i : Int} (h0 : 0 ≤ i) (h1 : i < (m : Int)) : dval xh2 g k i.toNat = (2, g k i.toNat) := by
  unfold zck at hk
  cases hq : xg xh2 k with
  | none => rw [hq] at hk; cases hk
  | some q =>
    rw [hq] at hk
    obtain ⟨e1, e2⟩ := xcnb hk
    have e1 := xeqb e1
    have e2 := xeqb e2
    obtain ⟨-, hj⟩ := yH0 k q hq
    obtain ⟨w, hw, a1, a2, a3⟩ := hj i.toNat (by omega)
    unfold dval
    rw [hq]
    dsimp only
    rw [hw]
    dsimp only
    have : w.1 = 2 := a2 (by rw [e1]; exact h2)
    unfold cval
    rw [this]
    rfl
section Z2
variable {sv : Nat → Int32} {L n y pc : Nat} {t tz : Lean.RArray (Nat × xins)} {lf : dlf} {st : List cv} {g : cg} {o : cg × Option cv} {e : xins}
theorem zald (hy : xg xcode y = some t) {i k : Int} {v : cv} (h : zr sv L n y pc lf ((0, i) :: (4, k) :: st) g o) (he : xg t pc = some e) (hd : dnx xh2 sv xmeth (xel L) xeb e.1 e.2.1 e.2.2.1 e.2.2.2.1 e.2.2.2.2 pc lf ((0, i) :: (4, k) :: st) g = dnxt e.2.1 lf (dval xh2 g k.toNat i.toNat :: st) g) (hv : dval xh2 g k.toNat i.toNat = v) : zr sv L n y e.2.1 lf (v :: st) g o := by
  rw [hv] at hd
  exact zs hy he hd h
theorem zald1 (hy : xg xcode y = some t) {i k : Int} {v : cv} (h : zr sv L (n + 1) y pc lf ((0, i) :: (4, k) :: st) g o) (he : xg t pc = some e) (hd : dnx xh2 sv xmeth (xel L) xeb e.1 e.2.1 e.2.2.1 e.2.2.2.1 e.2.2.2.2 pc lf ((0, i) :: (4, k) :: st) g = dnxt e.2.1 lf (dval xh2 g k.toNat i.toNat :: st) g) (hv : dval xh2 g k.toNat i.toNat = v) : zr sv L n y e.2.1 lf (v :: st) g o := by
  rw [hv] at hd
  exact zs1 hy he hd h
theorem zgf (hy : xg xcode y = some t) {c : Int} {v : cv} (h : zr sv L n y pc lf ((4, c) :: st) g o) (he : xg t pc = some e) (hd : dnx xh2 sv xmeth (xel L) xeb e.1 e.2.1 e.2.2.1 e.2.2.2.1 e.2.2.2.2 pc lf ((4, c) :: st) g = dnxt e.2.1 lf (dval xh2 g c.toNat e.2.2.2.2 :: st) g) (hv : dval xh2 g c.toNat e.2.2.2.2 = v) : zr sv L n y e.2.1 lf (v :: st) g o := by
  rw [hv] at hd
  exact zs hy he hd h
theorem ztabd {a b c : Int} {f : Array Int} {nx tg r1 r2 : Nat} {z : Int} (h : zr sv L n y pc lf ((0, z) :: st) g o) (hy : xg xcode y = some t) (he : xg t pc = some (.tableswitch a b c f, nx, tg, r1, r2)) (hz : z < b ∨ c < z) (ha : 0 ≤ (pc : Int) + a) : zr sv L n y ((pc : Int) + a).toNat lf st g o := by
  refine zs (q := (((pc : Int) + a).toNat, lf, st, g)) hy he ?_ h
  show (match xts a b c f pc z with
    | none => none
    | some t => dnxt t lf st g) = _
  unfold xts
  rw [if_pos hz, if_pos ha]
  rfl
end Z2
/-! numbers, cells -/
theorem w32_id {z : Int} (h0 : -2147483648 ≤ z) (h1 : z < 2147483648) : w32 z = z := by unfold w32; omega
theorem w64_id {z : Int} (h0 : -9223372036854775808 ≤ z) (h1 : z < 9223372036854775808) : w64 z = z := by unfold w64; omega
theorem cup_over (g : cg) (k j : Nat) (a b : Int) : cup (cup g k j a) k j b = cup g k j b := by
  funext k' j'
  unfold cup
  split <;> rfl
theorem cup_id {g : cg} {k j : Nat} {a : Int} (h : g k j = a) : cup g k j a = g := by
  funext k' j'
  unfold cup
  split
  · rename_i e
    rw [e.1, e.2, h]
  · rfl
theorem cup_comm (g : cg) {k j k' j' : Nat} (a b : Int) (h : k ≠ k' ∨ j ≠ j') : cup (cup g k j a) k' j' b = cup (cup g k' j' b) k j a := by
  funext x y
  unfold cup
  by_cases e1 : x = k' ∧ y = j'
  · rw [if_pos e1, if_pos e1]
    by_cases e2 : x = k ∧ y = j
    · exfalso
      rcases h with h | h
      · exact h (by rw [← e2.1, e1.1])
      · exact h (by rw [← e2.2, e1.2])
    · rw [if_neg e2]
  · rw [if_neg e1, if_neg e1]
theorem csgn_z {z : Int} : csgn z = 0 ↔ z = 0 := by
  unfold csgn
  split
  · omega
  · split <;> omega
