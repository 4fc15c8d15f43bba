/-! What it means that a step ends well -/
theorem xcnd {α : Type} {b : Bool} {x : Option α} {L : α} (h : cond b x none = some L) : b = true ∧ x = some L := by
  cases b with
  | true => exact ⟨rfl, h⟩
  | false => cases h
theorem xcndn {α : Type} {b : Bool} {x : Option α} {L : α} (h : cond b none x = some L) : b = false ∧ x = some L := by
  cases b with
  | false => exact ⟨rfl, h⟩
  | true => cases h
theorem xand {a b : Bool} (h : (a && b) = true) : a = true ∧ b = true := by cases a <;> cases b <;> simp_all
theorem xor2 {a b : Bool} (h : (a || b) = true) : a = true ∨ b = true := by cases a <;> cases b <;> simp_all
theorem xeqb {a b : Nat} (h : Nat.beq a b = true) : a = b := Nat.eq_of_beq_eq_true h
theorem xneb {a b : Nat} (h : Nat.beq a b = false) : a ≠ b := fun e => by rw [e, Nat.beq_refl] at h; cases h
theorem xleb {a b : Nat} (h : Nat.ble a b = true) : a ≤ b := Nat.le_of_ble_eq_true h
theorem xltb {a b : Nat} (h : Nat.blt a b = true) : a < b := Nat.le_of_ble_eq_true h
theorem xnleb {a b : Nat} (h : Nat.ble a b = false) : b < a := Nat.lt_of_not_le fun q => by rw [Nat.ble_eq_true_of_le q] at h; cases h
theorem xnltb {a b : Nat} (h : Nat.blt a b = false) : b ≤ a := Nat.le_of_lt_succ (xnleb (a := a + 1) (b := b) h)
theorem xapp_ok {a b : xR} {L : List xleaf} (h : xapp a b = some L) : ∃ x y, a = some x ∧ b = some y ∧ L = x ++ y := by
  cases a with
  | none => cases h
  | some x =>
    cases b with
    | none => cases h
    | some y => exact ⟨x, y, rfl, rfl, (Option.some.inj h).symm⟩
theorem xbind_ok {k : xleaf → xR} : ∀ {M L : List xleaf}, xbind k M = some L → ∀ q ∈ M, ∃ L', k q = some L' ∧ ∀ x ∈ L', x ∈ L
  | [], L, _, q, hq => by cases hq
  | r :: M, L, h, q, hq => by
    obtain ⟨x, y, h1, h2, h3⟩ := xapp_ok h
    subst h3
    rcases List.mem_cons.mp hq with e | e
    · subst e
      exact ⟨x, h1, fun z hz => List.mem_append_left _ hz⟩
    · obtain ⟨L', g1, g2⟩ := xbind_ok h2 q e
      exact ⟨L', g1, fun z hz => List.mem_append_right _ (g2 z hz)⟩
section Inv
variable {sv : Nat → Int32} {ex : Nat → Nat}
theorem xspl_ok {k : xbox → xR} {bx : xbox} {i o : Nat} {L : List xleaf} (hb : xbxo sv bx) (h : xspl k bx i o = some L) : ∃ bx' L', xbxo sv bx' ∧ k bx' = some L' ∧ ∀ q ∈ L', q ∈ L := by
  obtain ⟨x, y, h1, h2, h3⟩ := xapp_ok h
  obtain ⟨u, v, h4, h5, h6⟩ := xapp_ok h2
  subst h3; subst h6
  have hr := hb i
  rcases Nat.lt_trichotomy (xoff (sv i).toInt) o with q | q | q
  · have hf : Nat.ble o (xbg bx i).1 = false := by
      cases hq : Nat.ble o (xbg bx i).1 with
      | false => rfl
      | true => have := xleb hq; have := hr.1; dsimp only at this; omega
    rw [hf] at h1
    exact ⟨_, x, xbf_set bx _ i _ _ hb hr.1 (by omega), h1, fun z hz => List.mem_append_left _ hz⟩
  · exact ⟨_, u, xbf_set bx _ i _ _ hb (by omega) (by omega), h4, fun z hz => List.mem_append_right _ (List.mem_append_left _ hz)⟩
  · have hf : Nat.ble (xbg bx i).2 o = false := by
      cases hq : Nat.ble (xbg bx i).2 o with
      | false => rfl
      | true => have := xleb hq; have := hr.2; dsimp only at this; omega
    rw [hf] at h5
    exact ⟨_, v, xbf_set bx _ i _ _ hb (by omega) hr.2, h5, fun z hz => List.mem_append_right _ (List.mem_append_right _ hz)⟩
def xrel (o : Jvm.ClassFile.Cond) (x y : Nat) : Prop :=
  match o with
  | .eq => x = y
  | .ne => ¬ x = y
  | .lt => x < y
  | .ge => y ≤ x
  | .gt => y < x
  | .le => x ≤ y
theorem xdec_ok {o : Jvm.ClassFile.Cond} {a b : Nat × Nat} {t : Bool} (h : xdec o a b = some t) {x y : Nat} (h1 : a.1 ≤ x) (h2 : x ≤ a.2) (h3 : b.1 ≤ y) (h4 : y ≤ b.2) : t = true ↔ xrel o x y := by
  cases o with
  | eq =>
    have h : cond (Nat.beq a.1 a.2 && Nat.beq b.1 b.2 && Nat.beq a.1 b.1) (some true) (cond (Nat.blt a.2 b.1 || Nat.blt b.2 a.1) (some false) none) = some t := h
    show t = true ↔ x = y
    cases hc : (Nat.beq a.1 a.2 && Nat.beq b.1 b.2 && Nat.beq a.1 b.1) with
    | true =>
      rw [hc] at h; cases h
      obtain ⟨g1, g2⟩ := xand hc
      obtain ⟨g3, g4⟩ := xand g1
      have := xeqb g2; have := xeqb g3; have := xeqb g4
      exact ⟨fun _ => by omega, fun _ => rfl⟩
    | false =>
      rw [hc] at h
      obtain ⟨g1, g2⟩ := xcnd h
      cases g2
      rcases xor2 g1 with g | g
      · have := xltb g; exact ⟨fun q => (by cases q), fun q => by omega⟩
      · have := xltb g; exact ⟨fun q => (by cases q), fun q => by omega⟩
  | ne =>
    have h : cond (Nat.beq a.1 a.2 && Nat.beq b.1 b.2 && Nat.beq a.1 b.1) (some false) (cond (Nat.blt a.2 b.1 || Nat.blt b.2 a.1) (some true) none) = some t := h
    show t = true ↔ ¬ x = y
    cases hc : (Nat.beq a.1 a.2 && Nat.beq b.1 b.2 && Nat.beq a.1 b.1) with
    | true =>
      rw [hc] at h; cases h
      obtain ⟨g1, g2⟩ := xand hc
      obtain ⟨g3, g4⟩ := xand g1
      have := xeqb g2; have := xeqb g3; have := xeqb g4
      exact ⟨fun q => (by cases q), fun q => by omega⟩
    | false =>
      rw [hc] at h
      obtain ⟨g1, g2⟩ := xcnd h
      cases g2
      rcases xor2 g1 with g | g
      · have := xltb g; exact ⟨fun _ => by omega, fun _ => rfl⟩
      · have := xltb g; exact ⟨fun _ => by omega, fun _ => rfl⟩
  | lt =>
    have h : cond (Nat.blt a.2 b.1) (some true) (cond (Nat.ble b.2 a.1) (some false) none) = some t := h
    show t = true ↔ x < y
    cases hc : Nat.blt a.2 b.1 with
    | true => rw [hc] at h; cases h; have := xltb hc; exact ⟨fun _ => by omega, fun _ => rfl⟩
    | false =>
      rw [hc] at h
      obtain ⟨g1, g2⟩ := xcnd h
      cases g2
      have := xleb g1
      exact ⟨fun q => (by cases q), fun q => by omega⟩
  | ge =>
    have h : cond (Nat.blt a.2 b.1) (some false) (cond (Nat.ble b.2 a.1) (some true) none) = some t := h
    show t = true ↔ y ≤ x
    cases hc : Nat.blt a.2 b.1 with
    | true => rw [hc] at h; cases h; have := xltb hc; exact ⟨fun q => (by cases q), fun q => by omega⟩
    | false =>
      rw [hc] at h
      obtain ⟨g1, g2⟩ := xcnd h
      cases g2
      have := xleb g1
      exact ⟨fun _ => by omega, fun _ => rfl⟩
  | gt =>
    have h : cond (Nat.blt b.2 a.1) (some true) (cond (Nat.ble a.2 b.1) (some false) none) = some t := h
    show t = true ↔ y < x
    cases hc : Nat.blt b.2 a.1 with
    | true => rw [hc] at h; cases h; have := xltb hc; exact ⟨fun _ => by omega, fun _ => rfl⟩
    | false =>
      rw [hc] at h
      obtain ⟨g1, g2⟩ := xcnd h
      cases g2
      have := xleb g1
      exact ⟨fun q => (by cases q), fun q => by omega⟩
  | le =>
    have h : cond (Nat.blt b.2 a.1) (some false) (cond (Nat.ble a.2 b.1) (some true) none) = some t := h
    show t = true ↔ x ≤ y
    cases hc : Nat.blt b.2 a.1 with
    | true => rw [hc] at h; cases h; have := xltb hc; exact ⟨fun q => (by cases q), fun q => by omega⟩
    | false =>
      rw [hc] at h
      obtain ⟨g1, g2⟩ := xcnd h
      cases g2
      have := xleb g1
      exact ⟨fun _ => by omega, fun _ => rfl⟩
theorem xbr_ok {o : Jvm.ClassFile.Cond} {bx : xbox} {a b : xv} {k : Bool → xR} {again : xbox → xR} {L : List xleaf} (h : xbr o bx a b k again = some L) :
    (∃ t, xdec o (xrg bx a) (xrg bx b) = some t ∧ k t = some L) ∨ (∃ i q, xspl again bx i q = some L) ∨ (∃ L1 L2, k true = some L1 ∧ k false = some L2 ∧ L = L1 ++ L2) := by
  unfold xbr at h
  cases hd : xdec o (xrg bx a) (xrg bx b) with
  | some t => rw [hd] at h; exact Or.inl ⟨t, rfl, h⟩
  | none =>
    rw [hd] at h
    cases hp : xpt bx a b with
    | some q => rw [hp] at h; exact Or.inr (Or.inl ⟨q.1, q.2, h⟩)
    | none =>
      rw [hp] at h
      obtain ⟨x, y, h1, h2, h3⟩ := xapp_ok h
      exact Or.inr (Or.inr ⟨x, y, h1, h2, h3⟩)
variable {mi : xmi} {df : xdf} {el : Nat → Nat} {eb : Nat → List Nat} {rec : xF} {nx tg r1 r2 y d pc : Nat} {ls : List (Nat × xv)} {st : List xv} {bx : xbox} {h : xheap} {n c s : Nat} {L : List xleaf}
theorem x_ld_ok {k1 k2 : Nat} (hx : x_ld rec nx r1 y d ls st bx h n c s k1 k2 = some L) : ∃ w, xlk ls r1 = some w ∧ (xkd w.1 = k1 ∨ xkd w.1 = k2) ∧ rec y d nx ls (w :: st) bx h n c s = some L := by
  unfold x_ld at hx
  cases hl : xlk ls r1 with
  | none => rw [hl] at hx; cases hx
  | some w =>
    rw [hl] at hx
    obtain ⟨h1, h2⟩ := xcnd hx
    exact ⟨w, rfl, (xor2 h1).imp xeqb xeqb, h2⟩
theorem x_st_ok {k1 k2 : Nat} {f : Nat → Nat × xv → Bool} (hx : x_st rec nx r1 y d ls st bx h n c s k1 k2 f = some L) : ∃ w r, st = w :: r ∧ (xkd w.1 = k1 ∨ xkd w.1 = k2) ∧ rec y d nx ((r1, w) :: ls.filter (f r1)) r bx h n c s = some L := by
  unfold x_st at hx
  cases st with
  | nil => cases hx
  | cons w r =>
    obtain ⟨h1, h2⟩ := xcnd hx
    rw [xfl_eq] at h2
    exact ⟨w, r, rfl, (xor2 h1).imp xeqb xeqb, h2⟩
theorem x_inc_ok (hx : x_inc rec nx r1 r2 y d ls st bx h n c s = some L) : ∃ w x, xlk ls r1 = some w ∧ xci bx w = some x ∧ rec y d nx ((r1, (0, (x + r2) % 4294967296)) :: ls.filter (xk1 r1)) st bx h n c s = some L := by
  unfold x_inc at hx
  cases hl : xlk ls r1 with
  | none => rw [hl] at hx; cases hx
  | some w =>
    rw [hl] at hx
    dsimp only at hx
    cases hc : xci bx w with
    | none => rw [hc] at hx; cases hx
    | some x =>
      rw [hc] at hx
      dsimp only at hx
      rw [xfl_eq, xfrc_eq] at hx
      exact ⟨w, x, rfl, hc, hx⟩
theorem x_bi_ok {f : Nat → Nat → Nat} (hx : x_bi rec nx y d ls st bx h n c s f = some L) : ∃ b a r, st = b :: a :: r ∧ xkd b.1 = 0 ∧ xkd a.1 = 0 ∧
    ((∃ x z, xci bx a = some x ∧ xci bx b = some z ∧ rec y d nx ls ((0, f x z) :: r) bx h n c s = some L) ∨ rec y d nx ls ((7, 0) :: r) bx h n c s = some L) := by
  unfold x_bi at hx
  match st, hx with
  | [], hx => cases hx
  | [_], hx => cases hx
  | b :: a :: r, hx =>
    obtain ⟨h1, h2⟩ := xcnd hx
    obtain ⟨g1, g2⟩ := xand h1
    refine ⟨b, a, r, rfl, xeqb g1, xeqb g2, ?_⟩
    cases ha : xci bx a with
    | none => rw [ha] at h2; exact Or.inr h2
    | some x =>
      rw [ha] at h2
      dsimp only at h2
      cases hb : xci bx b with
      | none => rw [hb] at h2; exact Or.inr h2
      | some z =>
        rw [hb] at h2
        dsimp only at h2
        rw [xfrc_eq] at h2
        exact Or.inl ⟨x, z, rfl, rfl, h2⟩
theorem x_dv_ok {f : Nat → Nat → Nat} (hx : x_dv rec nx y d ls st bx h n c s f = some L) : ∃ b a r x z, st = b :: a :: r ∧ xci bx a = some x ∧ xci bx b = some z ∧ z % 4294967296 ≠ 0 ∧ rec y d nx ls ((0, f x z) :: r) bx h n c s = some L := by
  unfold x_dv at hx
  match st, hx with
  | [], hx => cases hx
  | [_], hx => cases hx
  | b :: a :: r, hx =>
    dsimp only at hx
    cases ha : xci bx a with
    | none => rw [ha] at hx; cases hx
    | some x =>
      rw [ha] at hx
      dsimp only at hx
      cases hb : xci bx b with
      | none => rw [hb] at hx; cases hx
      | some z =>
        rw [hb] at hx
        dsimp only at hx
        obtain ⟨h1, h2⟩ := xcndn hx
        rw [xfrc_eq] at h2
        exact ⟨b, a, r, x, z, rfl, ha, hb, xneb h1, h2⟩
theorem x_bl_ok {f : Nat → Nat → Nat} (hx : x_bl rec nx y d ls st bx h n c s f = some L) : ∃ b a r, st = b :: a :: r ∧ xkd b.1 = 1 ∧ xkd a.1 = 1 ∧
    ((∃ x z, xcl bx a = some x ∧ xcl bx b = some z ∧ rec y d nx ls ((2, f x z) :: r) bx h n c s = some L) ∨ rec y d nx ls ((8, 0) :: r) bx h n c s = some L) := by
  unfold x_bl at hx
  match st, hx with
  | [], hx => cases hx
  | [_], hx => cases hx
  | b :: a :: r, hx =>
    obtain ⟨h1, h2⟩ := xcnd hx
    obtain ⟨g1, g2⟩ := xand h1
    refine ⟨b, a, r, rfl, xeqb g1, xeqb g2, ?_⟩
    cases ha : xcl bx a with
    | none => rw [ha] at h2; exact Or.inr h2
    | some x =>
      rw [ha] at h2
      dsimp only at h2
      cases hb : xcl bx b with
      | none => rw [hb] at h2; exact Or.inr h2
      | some z =>
        rw [hb] at h2
        dsimp only at h2
        rw [xfrc_eq] at h2
        exact Or.inl ⟨x, z, rfl, rfl, h2⟩
theorem x_dl_ok {f : Nat → Nat → Nat} (hx : x_dl rec nx y d ls st bx h n c s f = some L) : ∃ b a r x z, st = b :: a :: r ∧ xcl bx a = some x ∧ xcl bx b = some z ∧ z % 18446744073709551616 ≠ 0 ∧ rec y d nx ls ((2, f x z) :: r) bx h n c s = some L := by
  unfold x_dl at hx
  match st, hx with
  | [], hx => cases hx
  | [_], hx => cases hx
  | b :: a :: r, hx =>
    dsimp only at hx
    cases ha : xcl bx a with
    | none => rw [ha] at hx; cases hx
    | some x =>
      rw [ha] at hx
      dsimp only at hx
      cases hb : xcl bx b with
      | none => rw [hb] at hx; cases hx
      | some z =>
        rw [hb] at hx
        dsimp only at hx
        obtain ⟨h1, h2⟩ := xcndn hx
        rw [xfrc_eq] at h2
        exact ⟨b, a, r, x, z, rfl, ha, hb, xneb h1, h2⟩
theorem x_sl_ok {f : Nat → Nat → Nat} (hx : x_sl rec nx y d ls st bx h n c s f = some L) : ∃ b a r, st = b :: a :: r ∧ xkd b.1 = 0 ∧ xkd a.1 = 1 ∧
    ((∃ x z, xcl bx a = some x ∧ xci bx b = some z ∧ rec y d nx ls ((2, f x z) :: r) bx h n c s = some L) ∨ rec y d nx ls ((8, 0) :: r) bx h n c s = some L) := by
  unfold x_sl at hx
  match st, hx with
  | [], hx => cases hx
  | [_], hx => cases hx
  | b :: a :: r, hx =>
    obtain ⟨h1, h2⟩ := xcnd hx
    obtain ⟨g1, g2⟩ := xand h1
    refine ⟨b, a, r, rfl, xeqb g1, xeqb g2, ?_⟩
    cases ha : xcl bx a with
    | none => rw [ha] at h2; exact Or.inr h2
    | some x =>
      rw [ha] at h2
      dsimp only at h2
      cases hb : xci bx b with
      | none => rw [hb] at h2; exact Or.inr h2
      | some z =>
        rw [hb] at h2
        dsimp only at h2
        rw [xfrc_eq] at h2
        exact Or.inl ⟨x, z, rfl, rfl, h2⟩
theorem x_ui_ok {f : Nat → Nat} (hx : x_ui rec nx y d ls st bx h n c s f = some L) : ∃ a r, st = a :: r ∧ xkd a.1 = 0 ∧
    ((∃ x, xci bx a = some x ∧ rec y d nx ls ((0, f x) :: r) bx h n c s = some L) ∨ rec y d nx ls ((7, 0) :: r) bx h n c s = some L) := by
  unfold x_ui at hx
  match st, hx with
  | [], hx => cases hx
  | a :: r, hx =>
    obtain ⟨h1, h2⟩ := xcnd hx
    refine ⟨a, r, rfl, xeqb h1, ?_⟩
    cases ha : xci bx a with
    | none => rw [ha] at h2; exact Or.inr h2
    | some x =>
      rw [ha] at h2
      dsimp only at h2
      rw [xfrc_eq] at h2
      exact Or.inl ⟨x, rfl, h2⟩
theorem x_l2i_ok (hx : x_l2i rec nx y d ls st bx h n c s = some L) : ∃ a r, st = a :: r ∧ xkd a.1 = 1 ∧
    ((∃ x, xcl bx a = some x ∧ rec y d nx ls ((0, x % 4294967296) :: r) bx h n c s = some L) ∨ rec y d nx ls ((7, 0) :: r) bx h n c s = some L) := by
  unfold x_l2i at hx
  match st, hx with
  | [], hx => cases hx
  | a :: r, hx =>
    obtain ⟨h1, h2⟩ := xcnd hx
    refine ⟨a, r, rfl, xeqb h1, ?_⟩
    cases ha : xcl bx a with
    | none => rw [ha] at h2; exact Or.inr h2
    | some x =>
      rw [ha] at h2
      dsimp only at h2
      rw [xfrc_eq] at h2
      exact Or.inl ⟨x, rfl, h2⟩
/-- widening: the value that comes stands for the widened one -/
theorem x_i2l_ok (hx : x_i2l rec nx y d ls st bx h n c s = some L) : ∃ a r w, st = a :: r ∧ rec y d nx ls (w :: r) bx h n c s = some L ∧ ∀ (as : List Nat) (v : Value), xden sv ex as a v → ∃ x, v = .int x ∧ xden sv ex as w (.long x.toInt64) := by
  unfold x_i2l at hx
  match st, hx with
  | [], hx => cases hx
  | (0, k) :: r, hx =>
    dsimp only at hx
    rw [xfrc_eq] at hx
    exact ⟨_, r, _, rfl, hx, fun as v hv => ⟨nI k, hv, by show Value.long _ = Value.long _; rw [lN_xnl]⟩⟩
  | (1, k) :: r, hx => exact ⟨_, r, _, rfl, hx, fun as v hv => ⟨sv k, hv, rfl⟩⟩
  | (2, k) :: r, hx => cases hx
  | (3, k) :: r, hx => cases hx
  | (4, k) :: r, hx => cases hx
  | (5, k) :: r, hx => cases hx
  | (6, k) :: r, hx => cases hx
  | (7, k) :: r, hx =>
    refine ⟨_, r, _, rfl, hx, fun as v hv => ?_⟩
    obtain ⟨x, hv⟩ : ∃ x : Int32, v = .int x := hv
    exact ⟨x, hv, x.toInt64, rfl⟩
  | (_ + 8, k) :: r, hx => cases hx
theorem x_dup_ok (hx : x_dup rec nx y d ls st bx h n c s = some L) : ∃ a r, st = a :: r ∧ Nat.beq (xkd a.1) 1 = false ∧ rec y d nx ls (a :: a :: r) bx h n c s = some L := by
  unfold x_dup at hx
  match st, hx with
  | [], hx => cases hx
  | a :: r, hx =>
    obtain ⟨h1, h2⟩ := xcndn hx
    exact ⟨a, r, rfl, h1, h2⟩
theorem x_pop_ok (hx : x_pop rec nx y d ls st bx h n c s = some L) : ∃ a r, st = a :: r ∧ Nat.beq (xkd a.1) 1 = false ∧ rec y d nx ls r bx h n c s = some L := by
  unfold x_pop at hx
  match st, hx with
  | [], hx => cases hx
  | a :: r, hx =>
    obtain ⟨h1, h2⟩ := xcndn hx
    exact ⟨a, r, rfl, h1, h2⟩
theorem x_pop2_ok (hx : x_pop2 rec nx y d ls st bx h n c s = some L) : ∃ a r, st = a :: r ∧ Nat.beq (xkd a.1) 1 = true ∧ rec y d nx ls r bx h n c s = some L := by
  unfold x_pop2 at hx
  match st, hx with
  | [], hx => cases hx
  | a :: r, hx =>
    obtain ⟨h1, h2⟩ := xcnd hx
    exact ⟨a, r, rfl, h1, h2⟩
theorem x_dup2_ok (hx : x_dup2 rec nx y d ls st bx h n c s = some L) : (∃ a r, st = a :: r ∧ Nat.beq (xkd a.1) 1 = true ∧ rec y d nx ls (a :: a :: r) bx h n c s = some L) ∨ (∃ a b r, st = a :: b :: r ∧ Nat.beq (xkd a.1) 1 = false ∧ Nat.beq (xkd b.1) 1 = false ∧ rec y d nx ls (a :: b :: a :: b :: r) bx h n c s = some L) := by
  unfold x_dup2 at hx
  match st, hx with
  | [], hx => cases hx
  | a :: r, hx =>
    dsimp only at hx
    cases hb : Nat.beq (xkd a.1) 1 with
    | true => rw [hb] at hx; exact Or.inl ⟨a, r, rfl, hb, hx⟩
    | false =>
      rw [hb] at hx
      dsimp only [cond_false] at hx
      match r, hx with
      | [], hx => cases hx
      | b :: r', hx =>
        obtain ⟨h1, h2⟩ := xcndn hx
        exact Or.inr ⟨a, b, r', rfl, hb, h1, h2⟩
theorem x_icmp_ok {o : Jvm.ClassFile.Cond} (hx : x_icmp rec nx tg y d pc ls st bx h n c s o = some L) : ∃ b a r, st = b :: a :: r ∧ xkd b.1 = 0 ∧ xkd a.1 = 0 ∧ xbr o bx a b (fun t => rec y d (cond t tg nx) ls r bx h n c s) (fun bx' => rec y d pc ls st bx' h n c s) = some L := by
  unfold x_icmp at hx
  match st, hx with
  | [], hx => cases hx
  | [_], hx => cases hx
  | b :: a :: r, hx =>
    obtain ⟨h1, h2⟩ := xcnd hx
    obtain ⟨g1, g2⟩ := xand h1
    exact ⟨b, a, r, rfl, xeqb g1, xeqb g2, h2⟩
theorem x_if_ok {o : Jvm.ClassFile.Cond} (hx : x_if rec nx tg y d pc ls st bx h n c s o = some L) : ∃ a r, st = a :: r ∧ xkd a.1 = 0 ∧ xbr o bx a (0, 0) (fun t => rec y d (cond t tg nx) ls r bx h n c s) (fun bx' => rec y d pc ls st bx' h n c s) = some L := by
  unfold x_if at hx
  match st, hx with
  | [], hx => cases hx
  | a :: r, hx =>
    obtain ⟨h1, h2⟩ := xcnd hx
    exact ⟨a, r, rfl, xeqb h1, h2⟩
theorem x_nul_ok {t : Bool} (hx : x_nul rec nx tg y d ls st bx h n c s t = some L) : ∃ a r, st = a :: r ∧ ((xkd a.1 = 2 ∧ rec y d (cond t nx tg) ls r bx h n c s = some L) ∨ (xkd a.1 = 3 ∧ rec y d (cond t tg nx) ls r bx h n c s = some L)) := by
  unfold x_nul at hx
  match st, hx with
  | [], hx => cases hx
  | a :: r, hx =>
    dsimp only at hx
    refine ⟨a, r, rfl, ?_⟩
    split at hx
    · rename_i e; exact Or.inl ⟨e, hx⟩
    · rename_i e; exact Or.inr ⟨e, hx⟩
    · cases hx
theorem x_ix_ok {i : xv} {k : Nat → xR} (hx : x_ix rec y d pc ls st bx h n c s i k = some L) : (∃ x, xci bx i = some x ∧ x < 2147483648 ∧ k x = some L) ∨ (∃ j q, xspl (fun bx' => rec y d pc ls st bx' h n c s) bx j q = some L) := by
  unfold x_ix at hx
  cases hc : xci bx i with
  | some x => rw [hc] at hx; exact Or.inl ⟨x, rfl, xltb (xcnd hx).1, (xcnd hx).2⟩
  | none =>
    rw [hc] at hx
    exact Or.inr ⟨_, _, (xcnd hx).2⟩
theorem x_cell_ok {k m : Nat} {t : xct} {r : List xv} (hx : x_cell mi rec nx y d ls bx h n c s k m t r = some L) : ∃ q q0, xg mi y = some q ∧ c < q.1 ∧ s + m ≤ q.2.1 ∧ xg h n = some q0 ∧ rec y d nx ls ((4, n) :: r) bx (xw h n (k, m, t)) (n + 1) (c + 1) (s + m) = some L := by
  unfold x_cell at hx
  cases hq : xg mi y with
  | none => rw [hq] at hx; cases hx
  | some q =>
    rw [hq] at hx
    obtain ⟨h1, h2⟩ := xcnd hx
    obtain ⟨g1, g2⟩ := xand h1
    cases hn : xg h n with
    | none => rw [hn] at h2; cases h2
    | some q0 =>
      rw [hn] at h2
      dsimp only at h2
      rw [xsK_eq, xfrc_eq, xfrc_eq, xfrc_eq] at h2
      exact ⟨q, q0, rfl, xltb g1, xleb g2, rfl, h2⟩
theorem x_go_ok {z : Nat} {args rest : List xv} (hx : x_go mi rec nx y d ls bx h n c s z args rest = some L) : ∃ d' q u M, d = d' + 1 ∧ xg mi y = some q ∧ xg mi z = some u ∧ xwds rest ≤ 8 ∧ xwds args ≤ u.2.2.2.2.2 ∧ c + u.1 ≤ q.1 ∧ s + u.2.1 ≤ q.2.1 ∧ rec z d' 0 (xarg 0 args) [] bx h n 0 0 = some M ∧
    ∀ l ∈ M, ∃ L', rec y d nx ls (match l.2.2.2 with
      | none => rest
      | some w => w :: rest) l.1 l.2.1 l.2.2.1 (c + u.1) (s + u.2.1) = some L' ∧ ∀ x ∈ L', x ∈ L := by
  unfold x_go at hx
  match d, hx with
  | 0, hx => cases hx
  | d' + 1, hx =>
    dsimp only at hx
    cases hq : xg mi y with
    | none => rw [hq] at hx; cases hx
    | some q =>
      rw [hq] at hx
      dsimp only at hx
      cases hu : xg mi z with
      | none => rw [hu] at hx; cases hx
      | some u =>
        rw [hu] at hx
        obtain ⟨h1, h2⟩ := xcnd hx
        obtain ⟨g1, g2⟩ := xand h1
        obtain ⟨g3, g4⟩ := xand g1
        obtain ⟨g5, g6⟩ := xand g3
        cases hM : rec z d' 0 (xarg 0 args) [] bx h n 0 0 with
        | none => rw [hM] at h2; cases h2
        | some M =>
          rw [hM] at h2
          dsimp only at h2
          rw [xfrc_eq, xfrc_eq] at h2
          exact ⟨d', q, u, M, rfl, rfl, rfl, xleb g5, xleb g6, xleb g4, xleb g2, hM, fun l hl => xbind_ok h2 l hl⟩
theorem x_call_ok {inst virt : Bool} (hx : x_call mi rec nx r1 y d ls st bx h n c s inst virt = some L) : ∃ u q, xg mi r1 = some u ∧ xpop (cond inst (u.2.2.1 + 1) u.2.2.1) [] st = some q ∧ x_go mi rec nx y d ls bx h n c s r1 q.1 q.2 = some L ∧ (inst = true → ∃ w l, q.1 = w :: l ∧ (cond virt (xrcv u.2.2.2.1 h w) (Nat.beq w.1 4) = true)) := by
  unfold x_call at hx
  cases hu : xg mi r1 with
  | none => rw [hu] at hx; cases hx
  | some u =>
    rw [hu] at hx
    dsimp only at hx
    cases hq : xpop (cond inst (u.2.2.1 + 1) u.2.2.1) [] st with
    | none => rw [hq] at hx; cases hx
    | some q =>
      rw [hq] at hx
      dsimp only at hx
      obtain ⟨q1, q2⟩ := q
      refine ⟨u, (q1, q2), rfl, hq, ?_⟩
      match q1, hx with
      | [], hx =>
        obtain ⟨h1, h2⟩ := xcndn hx
        exact ⟨h2, fun e => by rw [e] at h1; cases h1⟩
      | w :: l, hx =>
        obtain ⟨h1, h2⟩ := xcnd hx
        refine ⟨h2, fun e => ⟨w, l, rfl, ?_⟩⟩
        rw [e] at h1
        exact h1
end Inv
