/-! Both constructors, run -/
def xeqt {α : Type} (f : α → α → Bool) : Lean.RArray (Nat × α) → Lean.RArray (Nat × α) → Bool
  | .leaf q, .leaf r => Nat.beq q.1 r.1 && f q.2 r.2
  | .branch p a b, .branch p' a' b' => Nat.beq p p' && (xeqt f a a' && xeqt f b b')
  | .leaf _, .branch _ _ _ => false
  | .branch _ _ _, .leaf _ => false
theorem xeqt_ok {α : Type} {f : α → α → Bool} (hf : ∀ x y, f x y = true → x = y) : ∀ a b : Lean.RArray (Nat × α), xeqt f a b = true → a = b
  | .leaf (i, v), .leaf (j, w), h => by
    obtain ⟨h1, h2⟩ := xand (show (Nat.beq i j && f v w) = true from h)
    rw [xeqb h1, hf _ _ h2]
  | .branch p a b, .branch p' a' b', h => by
    obtain ⟨h1, h2⟩ := xand (show (Nat.beq p p' && (xeqt f a a' && xeqt f b b')) = true from h)
    obtain ⟨h3, h4⟩ := xand h2
    rw [xeqb h1, xeqt_ok hf a a' h3, xeqt_ok hf b b' h4]
  | .leaf _, .branch _ _ _, h => by cases h
  | .branch _ _ _, .leaf _, h => by cases h
def xeqv (x y : xv) : Bool := Nat.beq x.1 y.1 && Nat.beq x.2 y.2
theorem xeqv_ok (x y : xv) (h : xeqv x y = true) : x = y := by
  obtain ⟨h1, h2⟩ := xand h
  obtain ⟨a, b⟩ := x
  obtain ⟨a', b'⟩ := y
  have e1 : a = a' := xeqb h1
  have e2 : b = b' := xeqb h2
  subst e1; subst e2; rfl
def xeqc (x y : xcell) : Bool := Nat.beq x.1 y.1 && (Nat.beq x.2.1 y.2.1 && xeqt xeqv x.2.2 y.2.2)
theorem xeqc_ok (x y : xcell) (h : xeqc x y = true) : x = y := by
  obtain ⟨h1, h2⟩ := xand h
  obtain ⟨h3, h4⟩ := xand h2
  obtain ⟨a, b, c⟩ := x
  obtain ⟨a', b', c'⟩ := y
  have e1 : a = a' := xeqb h1
  have e2 : b = b' := xeqb h3
  have e3 : c = c' := xeqt_ok xeqv_ok _ _ h4
  subst e1; subst e2; subst e3; rfl
def xeqb2 : xbox → xbox → Bool
  | [], [] => true
  | q :: l, r :: m => Nat.beq q.1 r.1 && (Nat.beq q.2 r.2 && xeqb2 l m)
  | [], _ :: _ => false
  | _ :: _, [] => false
theorem xeqb2_ok : ∀ a b : xbox, xeqb2 a b = true → a = b
  | [], [], _ => rfl
  | (i, j) :: l, (i', j') :: m, h => by
    obtain ⟨h1, h2⟩ := xand (show (Nat.beq i i' && (Nat.beq j j' && xeqb2 l m)) = true from h)
    obtain ⟨h3, h4⟩ := xand h2
    rw [xeqb h1, xeqb h3, xeqb2_ok l m h4]
  | [], _ :: _, h => by cases h
  | _ :: _, [], h => by cases h
noncomputable def xh0 : xheap := xmk (99, 0, .leaf (0, (5, 0))) 10 0 512
def xb0 : xbox := [(9223372034707292160, 9223372039002259455), (9223372034707292160, 9223372039002259455), (9223372034707292160, 9223372039002259455), (9223372034707292160, 9223372039002259455), (9223372034707292160, 9223372039002259455), (9223372034707292160, 9223372039002259455)]
noncomputable def xr1_ (L : Nat) : xR := xsK xh0 0 (11, 18, xo_11) (fun h => xrun xcode xmeth xobj (xel L) xeb 9800 1 6 0 [(0, (4, 0))] [] xb0 h 1 0 0)
noncomputable def xr2_ (L : Nat) (h1 : xheap) : xR := xsK h1 253 (12, 40, xo_12) (fun h => xrun xcode xmeth xobj (xel L) xeb 9800 20 6 0 [(0, (4, 253))] [] xb0 h 254 0 0)
noncomputable def xinit (L : Nat) : Bool :=
  match xr1_ L with
  | some [q] => (match q.2.2.2 with
    | none => true
    | some _ => false) && (xeqb2 q.1 xb0 && (Nat.beq q.2.2.1 253 && ((match xg q.2.1 253 with
    | none => false
    | some _ => true) &&
      (match xr2_ L q.2.1 with
        | some [r] => (match r.2.2.2 with
          | none => true
          | some _ => false) && (xeqb2 r.1 xb0 && (Nat.beq r.2.2.1 270 && xeqt xeqc r.2.1 xh2))
        | _ => false))))
  | _ => false
noncomputable def xh1 (L : Nat) : xheap := match xr1_ L with
  | some [q] => q.2.1
  | _ => xh0
theorem xinit_ok {L : Nat} (h : xinit L = true) : xr1_ L = some [(xb0, xh1 L, 253, none)] ∧ (∃ q, xg (xh1 L) 253 = some q) ∧ xr2_ L (xh1 L) = some [(xb0, xh2, 270, none)] := by
  unfold xinit at h
  split at h
  · rename_i q hq
    have e1 : xh1 L = q.2.1 := by unfold xh1; rw [hq]
    obtain ⟨h1, h2⟩ := xand h
    obtain ⟨h3, h4⟩ := xand h2
    obtain ⟨h5, h6⟩ := xand h4
    obtain ⟨h7, h8⟩ := xand h6
    split at h8
    · rename_i r hr
      obtain ⟨g1, g2⟩ := xand h8
      obtain ⟨g3, g4⟩ := xand g2
      obtain ⟨g5, g6⟩ := xand g4
      obtain ⟨q1, q2, q3, q4⟩ := q
      obtain ⟨r1, r2, r3, r4⟩ := r
      have a1 : q1 = xb0 := xeqb2_ok _ _ h3
      have a2 : q3 = 253 := xeqb h5
      have a3 : r1 = xb0 := xeqb2_ok _ _ g3
      have a4 : r3 = 270 := xeqb g5
      have a5 : r2 = xh2 := xeqt_ok xeqc_ok _ _ g6
      have a6 : q4 = none := by
        cases q4 with
        | none => rfl
        | some w => cases h1
      have a7 : r4 = none := by
        cases r4 with
        | none => rfl
        | some w => cases g1
      subst a1; subst a2; subst a3; subst a4; subst a5; subst a6; subst a7
      refine ⟨by rw [e1]; exact hq, ?_, by rw [e1]; exact hr⟩
      rw [e1]
      cases hx : xg q2 253 with
      | none => rw [hx] at h7; cases h7
      | some w => exact ⟨w, rfl⟩
    · cases h8
  · cases h
set_option maxRecDepth 100000 in
theorem xinit_0 : xinit 0 = true := by decide +kernel
set_option maxRecDepth 100000 in
theorem xinit_1 : xinit 1 = true := by decide +kernel
set_option maxRecDepth 100000 in
theorem xinit_2 : xinit 2 = true := by decide +kernel
set_option maxRecDepth 100000 in
theorem xinit_3 : xinit 3 = true := by decide +kernel
set_option maxRecDepth 100000 in
theorem xinit_4 : xinit 4 = true := by decide +kernel
set_option maxRecDepth 100000 in
theorem xinit_5 : xinit 5 = true := by decide +kernel
set_option maxRecDepth 100000 in
theorem xinit_6 : xinit 6 = true := by decide +kernel
