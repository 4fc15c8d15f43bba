/-! what a call adds: why it is so -/
def FQ (c d : cg) (k : Nat) : Prop := c 0 5 = (k : Int) ∧ d 253 10 = (k : Int) ∧ (∀ j : Nat, j < k → d 259 j = c 2 j) ∧ ∀ i : Nat, i < 25 → c 89 i = kv i
section Fed
variable {sv : Nat → Int32} {L : Nat}
theorem word_l {c' d' : cg} {a : Int} : ∀ (q : Nat) {n n' : Nat} {lf lf' : dlf} {c d : cg} {k : Nat} {b : Int}, q ≤ 4 → b = 8 * (q : Int) - 8 → FQ c d k → k + q ≤ 900 → zr sv L n 31 3 lf [] c (c', none) → lf 0 = (4, 0) → lf 1 = (0, a) → lf 2 = (0, b) → zr sv L n' 164 3 lf' [] d (d', none) → lf' 0 = (4, 253) → lf' 1 = (0, a) → lf' 2 = (0, b) → FQ c' d' (k + q) ∧ d' 2 = d 2 ∧ d' 89 = d 89
  | 0, n, n', lf, lf', c, d, k, b, hq, hb, hF, hk, h, h0, h1, h2, h', h0', h1', h2' => by
    cases n with
    | zero => exact (zr_0 h).elim
    | succ n => cases n' with
      | zero => exact (zr_0 h').elim
      | succ n' =>
        rcases t_word3 h h0 h1 h2 with ⟨x, h⟩ | ⟨x, -⟩
        · rcases m_word3 h' h0' h1' h2' with ⟨x', h'⟩ | ⟨x', -⟩
          · rw [oV h, oV h']
            exact ⟨hF, rfl, rfl⟩
          · omega
        · omega
  | q + 1, n, n', lf, lf', c, d, k, b, hq, hb, hF, hk, h, h0, h1, h2, h', h0', h1', h2' => by
    cases n with
    | zero => exact (zr_0 h).elim
    | succ n => cases n' with
      | zero => exact (zr_0 h').elim
      | succ n' =>
        obtain ⟨f1, f2, f3, f4⟩ := hF
        rcases t_word3 h h0 h1 h2 with ⟨x, -⟩ | ⟨x, ⟨y, -⟩ | ⟨y, lx, z0, z1, z2, h⟩⟩
        · omega
        · omega
        · rcases m_word3 h' h0' h1' h2' with ⟨x', -⟩ | ⟨x', ly, u0, u1, u2, h'⟩
          · omega
          · rw [f1, show ((k : Nat) : Int).toNat = k from rfl, show w32 ((k : Int) + 1) = ((k + 1 : Nat) : Int) from w32_id (by omega) (by omega)] at h
            rw [f2, show ((k : Nat) : Int).toNat = k from rfl, show w32 ((k : Int) + 1) = ((k + 1 : Nat) : Int) from w32_id (by omega) (by omega)] at h'
            rw [w32_id (by omega) (by omega)] at z2 u2
            obtain ⟨r1, r2, r3⟩ := word_l q (k := k + 1) (b := b + -8) (by omega) (by omega) ⟨by rw [cup_at], by rw [cup_at], fun j hj => by
              rw [cup_ne (by omega), cup_ne (g := cup c 2 k _) (by omega)]
              by_cases e : j = k
              · rw [e, cup_at, cup_at]
              · rw [cup_ne (by omega), cup_ne (by omega)]
                exact f3 j (by omega), fun i hi => by
              rw [cup_ne (by omega), cup_ne (by omega)]
              exact f4 i hi⟩ (by omega) h z0 z1 z2 h' u0 u1 u2
            refine ⟨by rw [show k + (q + 1) = k + 1 + q by omega]; exact r1, ?_, ?_⟩
            · rw [r2, cup_row _ _ _ (by decide), cup_row _ _ _ (by decide)]
            · rw [r3, cup_row _ _ _ (by decide), cup_row _ _ _ (by decide)]
theorem word_pr {n n' : Nat} {lf lf' : dlf} {c d c' d' : cg} {k : Nat} {a : Int} (hF : FQ c d k) (hk : k + 4 ≤ 900) (h : zr sv L n 31 0 lf [] c (c', none)) (h0 : lf 0 = (4, 0)) (h1 : lf 1 = (0, a)) (h' : zr sv L n' 164 0 lf' [] d (d', none)) (h0' : lf' 0 = (4, 253)) (h1' : lf' 1 = (0, a)) : FQ c' d' (k + 4) ∧ d' 2 = d 2 ∧ d' 89 = d 89 := by
  obtain ⟨lx, z0, z1, z2, h⟩ := t_word0 h h0 h1
  obtain ⟨ly, u0, u1, u2, h'⟩ := m_word0 h' h0' h1'
  exact word_l 4 (Nat.le_refl _) rfl hF hk h z0 z1 z2 h' u0 u1 u2
theorem feed_eq {n n' : Nat} {lf lf' : dlf} {c g g' : cg} {a b e d x : Int} {rv rv' : Option cv} (hP : PRE c g) (h : zr sv L n 271 0 lf [] c (g, rv)) (h0 : lf 0 = (4, 0)) (h1 : lf 1 = (0, a)) (h2 : lf 2 = (0, b)) (h3 : lf 3 = (0, e)) (h4 : lf 4 = (0, d)) (h5 : lf 5 = (0, x)) (h' : zr sv L n' 272 0 lf' [] g (g', rv')) (h0' : lf' 0 = (4, 253)) (h1' : lf' 1 = (0, a)) (h2' : lf' 2 = (0, b)) (h3' : lf' 3 = (0, e)) (h4' : lf' 4 = (0, d)) (h5' : lf' 5 = (0, x)) : (∀ j : Nat, (j : Int) < g' 253 10 → g' 259 j = g' 2 j) ∧ ∀ i : Nat, i < 25 → g' 89 i = kv i := by
  obtain ⟨k, hk9, hk, hk', -, -, htp, hks⟩ := hP
  have hF : FQ c g k := ⟨hk, hk', htp, hks⟩
  have w : w32 ((k : Int) + 20) = (k : Int) + 20 := w32_id (by omega) (by omega)
  have h := t_feed h h0 h1 h2 h3 h4 h5
  have h' := m_feed h' h0' h1' h2' h3' h4' h5'
  rw [hk, w] at h
  rw [hk', w] at h'
  rcases h with ⟨y, c2, k2, c3, k3, c4, k4, c5, k5, c6, k6, o⟩ | ⟨y, o⟩
  · rcases h' with ⟨y', d2, l2, d3, l3, d4, l4, d5, l5, d6, l6, o'⟩ | ⟨y', o'⟩
    · obtain ⟨F2, p2, q2⟩ := word_pr hF (by omega) k2 rfl rfl l2 rfl rfl
      obtain ⟨F3, p3, q3⟩ := word_pr F2 (by omega) k3 rfl rfl l3 rfl rfl
      obtain ⟨F4, p4, q4⟩ := word_pr F3 (by omega) k4 rfl rfl l4 rfl rfl
      obtain ⟨F5, p5, q5⟩ := word_pr F4 (by omega) k5 rfl rfl l5 rfl rfl
      obtain ⟨F6, p6, q6⟩ := word_pr F5 (by omega) k6 rfl rfl l6 rfl rfl
      have eg : g = c6 := (Prod.mk.inj o).1
      have eg' : g' = d6 := (Prod.mk.inj o').1
      obtain ⟨x1, x2, x3, x4⟩ := F6
      have e2 : g' 2 = c6 2 := by rw [eg', p6, p5, p4, p3, p2, eg]
      have e89 : g' 89 = c6 89 := by rw [eg', q6, q5, q4, q3, q2, eg]
      refine ⟨fun j hj => ?_, fun i hi => by rw [e89]; exact x4 i hi⟩
      rw [eg'] at hj
      rw [e2, eg']
      exact x3 j (by omega)
    · omega
  · rcases h' with ⟨y', h'⟩ | ⟨y', o'⟩
    · omega
    · have eg : g = c := (Prod.mk.inj o).1
      have eg' : g' = g := (Prod.mk.inj o').1
      rw [eg']
      refine ⟨fun j hj => ?_, fun i hi => by rw [eg]; exact hks i hi⟩
      rw [htp j (by omega), eg]
end Fed
/-! the ghosts of runs -/
def pk : List Int → Int
  | [] => 0
  | a :: l => a + 1099511627776 * pk l
theorem pk_inj : ∀ {l l' : List Int}, l.length = l'.length → (∀ z ∈ l, cI z) → (∀ z ∈ l', cI z) → pk l = pk l' → l = l'
  | [], [], _, _, _, _ => rfl
  | [], _ :: _, h, _, _, _ => by cases h
  | _ :: _, [], h, _, _, _ => by cases h
  | a :: l, a' :: l', h, h1, h2, h3 => by
    have c1 := h1 a List.mem_cons_self
    have c2 := h2 a' List.mem_cons_self
    have h3 : a + 1099511627776 * pk l = a' + 1099511627776 * pk l' := h3
    unfold cI at c1 c2
    have e1 : a = a' := by omega
    have e2 : pk l = pk l' := by omega
    rw [e1, pk_inj (Nat.succ.inj h) (fun z hz => h1 z (List.mem_cons_of_mem _ hz)) (fun z hz => h2 z (List.mem_cons_of_mem _ hz)) e2]
def yXG (sv : Nat → Int32) (L k _a _b : Nat) (E : Int) (g : cg) : Prop := match k with
  | 70 => (∀ j : Nat, (j : Int) < E → g 259 j = g 2 j) ∧ ∀ i : Nat, i < 25 → g 89 i = kv i
  | 74 => ∃ (c : cg) (n r : Int) (f : Nat) (lf : dlf), cI n ∧ cI r ∧ E = pk [n, r] ∧ PRE c g ∧ lf 0 = (4, 0) ∧ lf 1 = (0, n) ∧ zr sv L f 273 0 lf [] c (g, some (0, r))
  | 75 => ∃ (c : cg) (z1 z2 z3 z4 z5 : Int) (f : Nat) (lf : dlf) (rv : Option cv), (∀ z ∈ [z1, z2, z3, z4, z5], cI z) ∧ E = pk [z1, z2, z3, z4, z5] ∧ PRE c g ∧ lf 0 = (4, 0) ∧ lf 1 = (0, z1) ∧ lf 2 = (0, z2) ∧ lf 3 = (0, z3) ∧ lf 4 = (0, z4) ∧ lf 5 = (0, z5) ∧ zr sv L f 271 0 lf [] c (g, rv)
  | _ => False
theorem yX70 {sv : Nat → Int32} {L : Nat} : x70 (yXG sv L) := by
  refine ⟨fun a b a' b' E E' g h hE => ⟨fun j hj => h.1 j (by omega), h.2⟩, fun a b E g g' h e2 e89 e259 => ?_⟩
  refine ⟨fun j hj => ?_, fun i hi => ?_⟩
  · rw [e259, e2]; exact h.1 j hj
  · rw [e89]; exact h.2 i hi
section XS
variable {sv : Nat → Int32} {L : Nat} {π : Int} {env : aenv} {fx : List ae} {mem : List am} {gh : List gho} {g g' : cg} {ρ : Nat → Int} {wr : List awr}
theorem xnum_ok {GS : gho → (Nat → Int) → cg → Prop} (hC : coR xh2 ytyt GS env fx mem gh g ρ) {t k : Nat} {i e : ae} (h : xnum env mem t k i = some e) : ∃ j : Nat, ev ρ i = (j : Int) ∧ g k j = ev ρ e := by
  unfold xnum at h
  cases ha : amg env t ((k : Int), []) i mem with
  | none => rw [ha] at h; cases h
  | some v =>
    rw [ha] at h
    obtain ⟨h1, h2⟩ := xcnd h
    have h2 : v.2.2 = e := Option.some.inj h2
    obtain ⟨k', j, w, a1, a2, ⟨q, ww, c1, c2, c3⟩, a4, a5⟩ := amg_okT hC.1 hC.2.2.1 ha
    rw [evc] at a1
    have ek : k' = k := by omega
    subst ek
    subst c3
    refine ⟨j, a2, ?_⟩
    rw [avR_num a4 (Or.inl (xeqb h1)), h2]
theorem xfed_ok {GS : gho → (Nat → Int) → cg → Prop} (hC : coR xh2 ytyt GS env fx mem gh g ρ) {e : ae} (h : xfed ytyt env mem = some e) : g 0 5 = ev ρ e := by
  unfold xfed at h
  split at h
  · cases h
  · obtain ⟨j, h1, h2⟩ := xnum_ok hC h
    rw [show ev ρ ((5, []) : ae) = 5 from ecst_ev ρ 5] at h1
    have : j = 5 := by omega
    rw [← h2, this]
theorem xtap_ok {GS : gho → (Nat → Int) → cg → Prop} (hC : coR xh2 ytyt GS env fx mem gh g ρ) {e : ae} (h : xtap ytyt env mem = some e) : g 253 10 = ev ρ e := by
  unfold xtap at h
  split at h
  · cases h
  · obtain ⟨j, h1, h2⟩ := xnum_ok hC h
    rw [show ev ρ ((10, []) : ae) = 10 from ecst_ev ρ 10] at h1
    have : j = 10 := by omega
    rw [← h2, this]
theorem inv_row {k t cap : Nat} {lo hi a b : Int} {q : Nat × Nat} (h : aInv ytyt ytyp g) (ht : xg ytyt k = some t) (hT : xg ytyp t = some (cap, 900, (lo, hi), [(0, 899, [(0, 899, 1, a, b)])], [q])) : ∀ j : Nat, j < 900 → a ≤ g k j ∧ g k j ≤ b :=
  fun j hj => (h k t _ ht hT).1 (0, 899, [(0, 899, 1, a, b)]) List.mem_cons_self (0, 899, 1, a, b) List.mem_cons_self j (by show (0 : Int) ≤ (j : Int); omega) (by show (j : Int) ≤ 899; omega) ⟨by show (0 : Int) ≤ (j : Int); omega, by show (j : Int) ≤ 899; omega, by show ((j : Int) - 0) % 1 = 0; omega⟩
theorem xprq_ok (hC : coR xh2 ytyt (aGSd sv (xel L) (gGJ (yXG sv L) yfam yAT π)) env fx mem gh g ρ) (hI : aInv ytyt ytyp g) (hI' : aInv ytyt ytyp g') (hfr : ∀ k j : Nat, ¬ awc ytyt wr k j → g' k j = g k j) (h : xprq ytyt wr env fx mem gh = true) : PRE g g' := by
  unfold xprq at h
  split at h
  · cases h
  · rename_i a ha
    split at h
    · cases h
    · rename_i b hb
      obtain ⟨h1, h⟩ := xcnb h
      obtain ⟨h2, h⟩ := xcnb h
      obtain ⟨h3, h⟩ := xcnb h
      obtain ⟨h4, h⟩ := xcnb h
      obtain ⟨h5, h⟩ := xcnb h
      obtain ⟨x, hx, h6⟩ := List.any_eq_true.mp h
      obtain ⟨h7, h8⟩ := xcnb h6
      have h1 := eeq_ok hC.1 h1
      have h2 := elef_ok hC.1 hC.2.1 2 _ h2
      have h3 := elef_ok hC.1 hC.2.1 2 _ h3
      have h8 := elef_ok hC.1 hC.2.1 2 _ h8
      rw [eadc_ev] at h2
      rw [escl_ev] at h3
      rw [eadd_ev] at h8
      have ga := xfed_ok hC ha
      have gb := xtap_ok hC hb
      have hy := hC.2.2.2 x hx
      have ex : x.1 = 70 := xeqb h7
      rw [aGSd_x (by rw [ex]; rfl), ex] at hy
      obtain ⟨y1, y2⟩ := (show (∀ j : Nat, (j : Int) < ev ρ x.2.2.2 → g 259 j = g 2 j) ∧ ∀ i : Nat, i < 25 → g 89 i = kv i from hy)
      obtain ⟨k, hk⟩ : ∃ k : Nat, ev ρ a = (k : Int) := ⟨(ev ρ a).toNat, by omega⟩
      refine ⟨k, by omega, by omega, ?_, inv_row hI (t := 25) rfl rfl, inv_row hI' (t := 18) rfl rfl, fun j hj => ?_, y2⟩
      · rw [hfr 253 10 (xcw_ok h4)]
        omega
      · rw [hfr 259 j (xrw_ok h5 j)]
        exact y1 j (by omega)
theorem xpk_ok : ∀ {l : List av} {m : List cv} {e : ae}, stR ytyt ρ l m → xpk l = some e → ∃ zl : List Int, m = zl.map (fun z => ((0 : Nat), z)) ∧ (∀ z ∈ zl, cI z) ∧ ev ρ e = pk zl
  | [], [], e, _, h => by
    have h : (0, []) = e := Option.some.inj h
    rw [← h]
    exact ⟨[], rfl, fun z hz => absurd hz List.not_mem_nil, ecst_ev ρ 0⟩
  | [], _ :: _, _, h, _ => h.elim
  | _ :: _, [], _, h, _ => h.elim
  | a :: l, v :: m, e, hs, h => by
    obtain ⟨h1, h2⟩ := xcnd (show cond (Nat.beq a.1 0) (match xpk l with
      | none => none
      | some e => some (eadd a.2.2 e xB)) none = some e from h)
    cases hp : xpk l with
    | none => rw [hp] at h2; cases h2
    | some e' =>
      rw [hp] at h2
      have h2 : eadd a.2.2 e' xB = e := Option.some.inj h2
      obtain ⟨zl, z1, z2, z3⟩ := xpk_ok hs.2 hp
      have ha : avR ytyt ρ a v := hs.1
      obtain ⟨t, ty, ex⟩ := a
      have et : t = 0 := xeqb h1
      subst et
      obtain ⟨a1, a2⟩ := (show v = (0, ev ρ ex) ∧ cI (ev ρ ex) from ha)
      refine ⟨ev ρ ex :: zl, by rw [a1, z1]; rfl, fun z hz => ?_, ?_⟩
      · rcases List.mem_cons.mp hz with q | q
        · rw [q]; exact a2
        · exact z2 z q
      · rw [← h2, eadd_ev, z3]
        rfl
theorem xob_ok {GS : gho → (Nat → Int) → cg → Prop} (hC : coR xh2 ytyt GS env fx mem gh g ρ) {a : av} {v : cv} {k : Nat} (ha : avR ytyt ρ a v) (h : xob env a k = true) : v = (4, (k : Int)) := by
  obtain ⟨h1, h2⟩ := xcnb h
  have h2 := eeq_ok hC.1 h2
  rw [evc] at h2
  obtain ⟨t, ty, ex⟩ := a
  have et : t = 4 := xeqb h1
  subst et
  obtain ⟨k', a1, a2, a3⟩ := (show ∃ k' : Nat, v = (4, (k' : Int)) ∧ ev ρ ex = (k' : Int) ∧ xg ytyt k' = some ty from ha)
  have h2 : ev ρ ex = (k : Int) := h2
  rw [a1, ← a2, h2]
end XS
/-! the rules -/
theorem xcrt_mem {tyt : Lean.RArray (Nat × Nat)} {args : List av} {wr : List awr} {env : aenv} {fx : List ae} {mem : List am} {gh : List gho} {rv : Option av} {x : gho} (h : x ∈ xcrt tyt args wr env fx mem gh rv) : ∃ t n r e, args = [t, n] ∧ rv = some r ∧ xob env t 0 = true ∧ xprq tyt wr env fx mem gh = true ∧ xpk [n, r] = some e ∧ x = (74, 0, 0, e) := by
  unfold xcrt at h
  split at h
  · rename_i t n
    split at h
    · exact absurd h List.not_mem_nil
    · rename_i r
      cases h1 : xob env t 0 with
      | false => rw [h1] at h; exact absurd h List.not_mem_nil
      | true =>
        rw [h1] at h
        simp only [cond_true] at h
        cases h2 : xprq tyt wr env fx mem gh with
        | false => rw [h2] at h; exact absurd h List.not_mem_nil
        | true =>
          rw [h2] at h
          simp only [cond_true] at h
          cases h3 : xpk [n, r] with
          | none => rw [h3] at h; exact absurd h List.not_mem_nil
          | some e =>
            rw [h3] at h
            exact ⟨t, n, r, e, rfl, rfl, h1, rfl, h3, List.mem_singleton.mp h⟩
  · exact absurd h List.not_mem_nil
theorem xfe_mem {tyt : Lean.RArray (Nat × Nat)} {args : List av} {wr : List awr} {env : aenv} {fx : List ae} {mem : List am} {gh : List gho} {x : gho} (h : x ∈ xfe tyt args wr env fx mem gh) : ∃ t a1 a2 a3 a4 a5 e, args = [t, a1, a2, a3, a4, a5] ∧ xob env t 0 = true ∧ xprq tyt wr env fx mem gh = true ∧ xpk [a1, a2, a3, a4, a5] = some e ∧ x = (75, 0, 0, e) := by
  unfold xfe at h
  split at h
  · rename_i t a1 a2 a3 a4 a5
    cases h1 : xob env t 0 with
    | false => rw [h1] at h; exact absurd h List.not_mem_nil
    | true =>
      rw [h1] at h
      simp only [cond_true] at h
      cases h2 : xprq tyt wr env fx mem gh with
      | false => rw [h2] at h; exact absurd h List.not_mem_nil
      | true =>
        rw [h2] at h
        simp only [cond_true] at h
        cases h3 : xpk [a1, a2, a3, a4, a5] with
        | none => rw [h3] at h; exact absurd h List.not_mem_nil
        | some e =>
          rw [h3] at h
          exact ⟨t, a1, a2, a3, a4, a5, e, rfl, h1, rfl, h3, List.mem_singleton.mp h⟩
  · exact absurd h List.not_mem_nil
theorem xfm_mem {tyt : Lean.RArray (Nat × Nat)} {args : List av} {env0 : aenv} {gh0 : List gho} {env : aenv} {mem : List am} {x : gho} (h : x ∈ xfm tyt args env0 gh0 env mem) : ∃ t a1 a2 a3 a4 a5 e v y, args = [t, a1, a2, a3, a4, a5] ∧ xob env0 t 253 = true ∧ xpk [a1, a2, a3, a4, a5] = some e ∧ y ∈ gh0 ∧ y.1 = 75 ∧ eeq env0 y.2.2.2 e = true ∧ xtap tyt env mem = some v ∧ x = (70, 0, 0, v) := by
  unfold xfm at h
  split at h
  · rename_i t a1 a2 a3 a4 a5
    cases h1 : xob env0 t 253 with
    | false => rw [h1] at h; exact absurd h List.not_mem_nil
    | true =>
      rw [h1] at h
      simp only [cond_true] at h
      cases h3 : xpk [a1, a2, a3, a4, a5] with
      | none => rw [h3] at h; exact absurd h List.not_mem_nil
      | some e =>
        rw [h3] at h
        dsimp only at h
        cases h4 : gh0.any (fun x => cond (Nat.beq x.1 75) (eeq env0 x.2.2.2 e) false) with
        | false => rw [h4] at h; exact absurd h List.not_mem_nil
        | true =>
          rw [h4] at h
          simp only [cond_true] at h
          obtain ⟨y, y1, y2⟩ := List.any_eq_true.mp h4
          obtain ⟨y3, y4⟩ := xcnb y2
          cases h5 : xtap tyt env mem with
          | none => rw [h5] at h; exact absurd h List.not_mem_nil
          | some v =>
            rw [h5] at h
            exact ⟨t, a1, a2, a3, a4, a5, e, v, y, rfl, h1, h3, y1, xeqb y3, y4, rfl, List.mem_singleton.mp h⟩
  · exact absurd h List.not_mem_nil
theorem xan_mem {n r q : ae} : ∀ {gh : List gho}, q ∈ xan n r gh → ∃ y ∈ gh, y.1 = 74 ∧ zeq (Int.emod (eadd y.2.2.2 n (-1)).1 xB) 0 = true ∧ zdvd xB (eadd y.2.2.2 n (-1)).2 = true ∧ (q = eadd (xdq xB (eadd y.2.2.2 n (-1))) r (-1) ∨ q = eadd r (xdq xB (eadd y.2.2.2 n (-1))) (-1))
  | [], h => absurd h List.not_mem_nil
  | x :: l, h => by
    have h : q ∈ cond (Nat.beq x.1 74) (cond (cond (zeq (Int.emod (eadd x.2.2.2 n (-1)).1 xB) 0) (zdvd xB (eadd x.2.2.2 n (-1)).2) false) [eadd (xdq xB (eadd x.2.2.2 n (-1))) r (-1), eadd r (xdq xB (eadd x.2.2.2 n (-1))) (-1)] (xan n r l)) (xan n r l) := h
    have tl : q ∈ xan n r l → ∃ y ∈ x :: l, y.1 = 74 ∧ zeq (Int.emod (eadd y.2.2.2 n (-1)).1 xB) 0 = true ∧ zdvd xB (eadd y.2.2.2 n (-1)).2 = true ∧ (q = eadd (xdq xB (eadd y.2.2.2 n (-1))) r (-1) ∨ q = eadd r (xdq xB (eadd y.2.2.2 n (-1))) (-1)) := fun hh => by
      obtain ⟨y, y1, y2⟩ := xan_mem hh
      exact ⟨y, List.mem_cons_of_mem _ y1, y2⟩
    cases h1 : Nat.beq x.1 74 with
    | false => rw [h1] at h; exact tl h
    | true =>
      rw [h1] at h
      simp only [cond_true] at h
      cases h2 : cond (zeq (Int.emod (eadd x.2.2.2 n (-1)).1 xB) 0) (zdvd xB (eadd x.2.2.2 n (-1)).2) false with
      | false => rw [h2] at h; exact tl h
      | true =>
        rw [h2] at h
        obtain ⟨h3, h4⟩ := xcnb h2
        refine ⟨x, List.mem_cons_self, xeqb h1, h3, h4, ?_⟩
        rcases List.mem_cons.mp h with e | e
        · exact Or.inl e
        · exact Or.inr (List.mem_singleton.mp e)
theorem xans_mem {env : aenv} {args : List av} {gh : List gho} {rv : Option av} {q : ae} (h : q ∈ xans env args gh rv) : ∃ t n r, args = [t, n] ∧ rv = some r ∧ xob env t 253 = true ∧ n.1 = 0 ∧ r.1 = 0 ∧ q ∈ xan n.2.2 r.2.2 gh := by
  unfold xans at h
  split at h
  · rename_i t n
    split at h
    · exact absurd h List.not_mem_nil
    · rename_i r
      cases h1 : xob env t 253 with
      | false => rw [h1] at h; exact absurd h List.not_mem_nil
      | true =>
        rw [h1] at h
        simp only [cond_true] at h
        cases h2 : Nat.beq n.1 0 with
        | false => rw [h2] at h; exact absurd h List.not_mem_nil
        | true =>
          rw [h2] at h
          simp only [cond_true] at h
          cases h3 : Nat.beq r.1 0 with
          | false => rw [h3] at h; exact absurd h List.not_mem_nil
          | true =>
            rw [h3] at h
            exact ⟨t, n, r, rfl, rfl, h1, xeqb h2, xeqb h3, h⟩
  · exact absurd h List.not_mem_nil
section Rule
variable {sv : Nat → Int32} {L : Nat} {π : Int}
theorem stR_len {ρ : Nat → Int} : ∀ {l : List av} {m : List cv}, stR ytyt ρ l m → m.length = l.length
  | [], [], _ => rfl
  | [], _ :: _, h => h.elim
  | _ :: _, [], h => h.elim
  | _ :: l, _ :: m, h => congrArg (· + 1) (stR_len h.2)
theorem avR_0 {ρ : Nat → Int} {a : av} {v : cv} (h : avR ytyt ρ a v) (h0 : a.1 = 0) : v = (0, ev ρ a.2.2) ∧ cI (ev ρ a.2.2) := by
  obtain ⟨t, ty, ex⟩ := a
  have h0 : t = 0 := h0
  subst h0
  exact h
theorem yXS {G : xG} (hG : cW sv xcode xmeth xobj (xel L) xeb G) : aXS G xh2 ytyt ytyp (aGSd sv (xel L) (gGJ (yXG sv L) yfam yAT π)) := by
  intro z args wr mem0 env0 fx0 gh0 rva mem env fx gh g g' ρ argc rv f lf hC0 hA hI hI' hfr hl he hC hr
  rw [hG.2 xh2] at he
  have he : zr sv L f z 0 lf [] g (g', rv) := he
  unfold zXS
  cases h1 : Nat.beq z 273 with
  | true =>
    have ez : z = 273 := xeqb h1
    rw [ez] at he
    refine ⟨fun _ h => absurd h List.not_mem_nil, fun x hx => ?_⟩
    obtain ⟨t, n, r, e, rfl, rfl, x1, x2, x3, rfl⟩ := xcrt_mem hx
    match argc, rv, hA, hr, hl, he with
    | [vt, vn], some vr, hA, hr, hl, he =>
      have a1 := xob_ok hC0 hA.1 x1
      obtain ⟨zl, b1, b2, b3⟩ := xpk_ok (l := [n, r]) (m := [vn, vr]) ⟨hA.2.1, hr, trivial⟩ x3
      match zl, b1, b2, b3 with
      | [zn, zr'], b1, b2, b3 =>
        have c1 : vn = (0, zn) := (List.cons.inj b1).1
        have c2 : vr = (0, zr') := (List.cons.inj (List.cons.inj b1).2).1
        rw [a1, c1] at hl
        rw [c2] at he
        rw [aGSd_x (show Nat.ble 70 74 = true from rfl)]
        exact ⟨g, zn, zr', f, lf, b2 zn List.mem_cons_self, b2 zr' (List.mem_cons_of_mem _ List.mem_cons_self), b3, xprq_ok hC0 hI hI' hfr x2, hl (0, (4, 0)) List.mem_cons_self, hl (1, (0, zn)) (List.mem_cons_of_mem _ List.mem_cons_self), he⟩
    | [], _, hA, _, _, _ => exact hA.elim
    | [_], _, hA, _, _, _ => exact hA.2.elim
    | _ :: _ :: _ :: _, _, hA, _, _, _ => exact hA.2.2.elim
    | [_, _], none, _, hr, _, _ => exact hr.elim
  | false =>
    cases h2 : Nat.beq z 274 with
    | true =>
      have ez : z = 274 := xeqb h2
      rw [ez] at he
      refine ⟨fun q hq => ?_, fun _ h => absurd h List.not_mem_nil⟩
      obtain ⟨t, n, r, rfl, rfl, x1, x2, x3, x4⟩ := xans_mem hq
      obtain ⟨y, y1, y2, y3, y4, y5⟩ := xan_mem x4
      match argc, rv, hA, hr, hl, he with
      | [vt, vn], some vr, hA, hr, hl, he =>
        have a1 := xob_ok hC0 hA.1 x1
        obtain ⟨a2, a3⟩ := avR_0 hA.2.1 x2
        obtain ⟨a4, a5⟩ := avR_0 hr x3
        rw [a1, a2] at hl
        rw [a4] at he
        have hy := hC0.2.2.2 y y1
        rw [aGSd_x (by rw [y2]; rfl), y2] at hy
        obtain ⟨c, n0, r0, f0, lf0, b1, b2, b3, b4, b5, b6, b7⟩ := (show ∃ (c : cg) (n r : Int) (f : Nat) (lf : dlf), cI n ∧ cI r ∧ ev ρ y.2.2.2 = pk [n, r] ∧ PRE c g ∧ lf 0 = (4, 0) ∧ lf 1 = (0, n) ∧ zr sv L f 273 0 lf [] c (g, some (0, r)) from hy)
        have hd := xdq_ev ρ y3 y4
        rw [eadd_ev, b3] at hd
        have hd : 1099511627776 * ev ρ (xdq xB (eadd y.2.2.2 n.2.2 (-1))) = (n0 + 1099511627776 * (r0 + 1099511627776 * 0)) + -1 * ev ρ n.2.2 := hd
        unfold cI at b1 b2 a3
        have en : n0 = ev ρ n.2.2 := by omega
        have er : ev ρ (xdq xB (eadd y.2.2.2 n.2.2 (-1))) = r0 := by omega
        rw [en] at b6
        have hq := court_eq b4 b7 b5 b6 he (hl (0, (4, 253)) List.mem_cons_self) (hl (1, (0, ev ρ n.2.2)) (List.mem_cons_of_mem _ List.mem_cons_self))
        rcases y5 with e | e
        · rw [e, eadd_ev, er]; omega
        · rw [e, eadd_ev, er]; omega
      | [], _, hA, _, _, _ => exact hA.elim
      | [_], _, hA, _, _, _ => exact hA.2.elim
      | _ :: _ :: _ :: _, _, hA, _, _, _ => exact hA.2.2.elim
      | [_, _], none, _, hr, _, _ => exact hr.elim
    | false =>
      cases h3 : Nat.beq z 271 with
      | true =>
        have ez : z = 271 := xeqb h3
        rw [ez] at he
        refine ⟨fun _ h => absurd h List.not_mem_nil, fun x hx => ?_⟩
        obtain ⟨t, a1, a2, a3, a4, a5, e, rfl, x1, x2, x3, rfl⟩ := xfe_mem hx
        match argc, hA, hl with
        | vt :: vl, hA, hl =>
          have u1 := xob_ok hC0 hA.1 x1
          obtain ⟨zl, b1, b2, b3⟩ := xpk_ok (l := [a1, a2, a3, a4, a5]) (m := vl) hA.2 x3
          have hlen : zl.length = 5 := by
            have q1 := stR_len hA.2
            rw [b1, List.length_map] at q1
            exact q1
          match zl, hlen, b1, b2, b3 with
          | [z1, z2, z3, z4, z5], _, b1, b2, b3 =>
            rw [u1, b1] at hl
            rw [aGSd_x (show Nat.ble 70 75 = true from rfl)]
            exact ⟨g, z1, z2, z3, z4, z5, f, lf, rv, b2, b3, xprq_ok hC0 hI hI' hfr x2, hl (0, (4, 0)) (by exact List.mem_cons_self), hl (1, (0, z1)) (by exact List.mem_cons_of_mem _ List.mem_cons_self), hl (2, (0, z2)) (by exact List.mem_cons_of_mem _ (List.mem_cons_of_mem _ List.mem_cons_self)), hl (3, (0, z3)) (by exact List.mem_cons_of_mem _ (List.mem_cons_of_mem _ (List.mem_cons_of_mem _ List.mem_cons_self))), hl (4, (0, z4)) (by exact List.mem_cons_of_mem _ (List.mem_cons_of_mem _ (List.mem_cons_of_mem _ (List.mem_cons_of_mem _ List.mem_cons_self)))), hl (5, (0, z5)) (by exact List.mem_cons_of_mem _ (List.mem_cons_of_mem _ (List.mem_cons_of_mem _ (List.mem_cons_of_mem _ (List.mem_cons_of_mem _ List.mem_cons_self))))), he⟩
        | [], hA, _ => exact hA.elim
      | false =>
        cases h4 : Nat.beq z 272 with
        | true =>
          have ez : z = 272 := xeqb h4
          rw [ez] at he
          refine ⟨fun _ h => absurd h List.not_mem_nil, fun x hx => ?_⟩
          obtain ⟨t, a1, a2, a3, a4, a5, e, v, y, rfl, x1, x2, y1, y2, y3, y4, rfl⟩ := xfm_mem hx
          match argc, hA, hl with
          | vt :: vl, hA, hl =>
            have u1 := xob_ok hC0 hA.1 x1
            obtain ⟨zl, b1, b2, b3⟩ := xpk_ok (l := [a1, a2, a3, a4, a5]) (m := vl) hA.2 x2
            have hlen : zl.length = 5 := by
              have q1 := stR_len hA.2
              rw [b1, List.length_map] at q1
              exact q1
            match zl, hlen, b1, b2, b3 with
            | [z1, z2, z3, z4, z5], _, b1, b2, b3 =>
              rw [u1, b1] at hl
              have hy := hC0.2.2.2 y y1
              rw [aGSd_x (by rw [y2]; rfl), y2] at hy
              obtain ⟨c, p1, p2, p3, p4, p5, f0, lf0, rv0, d1, d2, d3, d4, d5, d6, d7, d8, d9, d10⟩ := (show ∃ (c : cg) (z1 z2 z3 z4 z5 : Int) (f : Nat) (lf : dlf) (rv : Option cv), (∀ z ∈ [z1, z2, z3, z4, z5], cI z) ∧ ev ρ y.2.2.2 = pk [z1, z2, z3, z4, z5] ∧ PRE c g ∧ lf 0 = (4, 0) ∧ lf 1 = (0, z1) ∧ lf 2 = (0, z2) ∧ lf 3 = (0, z3) ∧ lf 4 = (0, z4) ∧ lf 5 = (0, z5) ∧ zr sv L f 271 0 lf [] c (g, rv) from hy)
              have hpk := eeq_ok hC0.1 y3
              rw [d2, b3] at hpk
              have hzl := pk_inj (l := [p1, p2, p3, p4, p5]) (l' := [z1, z2, z3, z4, z5]) rfl d1 b2 hpk
              injection hzl with i1 hzl
              injection hzl with i2 hzl
              injection hzl with i3 hzl
              injection hzl with i4 hzl
              injection hzl with i5 hzl
              rw [i1] at d5
              rw [i2] at d6
              rw [i3] at d7
              rw [i4] at d8
              rw [i5] at d9
              rw [aGSd_x (show Nat.ble 70 70 = true from rfl)]
              have hfin := feed_eq d3 d10 d4 d5 d6 d7 d8 d9 he (hl (0, (4, 253)) (by exact List.mem_cons_self)) (hl (1, (0, z1)) (by exact List.mem_cons_of_mem _ List.mem_cons_self)) (hl (2, (0, z2)) (by exact List.mem_cons_of_mem _ (List.mem_cons_of_mem _ List.mem_cons_self))) (hl (3, (0, z3)) (by exact List.mem_cons_of_mem _ (List.mem_cons_of_mem _ (List.mem_cons_of_mem _ List.mem_cons_self)))) (hl (4, (0, z4)) (by exact List.mem_cons_of_mem _ (List.mem_cons_of_mem _ (List.mem_cons_of_mem _ (List.mem_cons_of_mem _ List.mem_cons_self))))) (hl (5, (0, z5)) (by exact List.mem_cons_of_mem _ (List.mem_cons_of_mem _ (List.mem_cons_of_mem _ (List.mem_cons_of_mem _ (List.mem_cons_of_mem _ List.mem_cons_self))))))
              rw [xtap_ok hC y4] at hfin
              exact hfin
          | [], hA, _ => exact hA.elim
        | false => exact ⟨fun _ h => absurd h List.not_mem_nil, fun _ h => absurd h List.not_mem_nil⟩
end Rule
