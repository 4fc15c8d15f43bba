/-! what a call adds: why it is so -/
def pk : List Int → Int
  | [] => 0
  | a :: l => a + 1099511627776 * pk l
theorem pk_inj : ∀ {l l' : List Int}, l.length = l'.length → (∀ z ∈ l, cI z) → (∀ z ∈ l', cI z) → pk l = pk l' → l = l'
  | [], [], _, _, _, _ => rfl
  | [], _ :: _, h, _, _, _ => by cases h
  | _ :: _, [], h, _, _, _ => by cases h
  | a :: l, a' :: l', h, h1, h2, h3 => by
    have c1 := h1 a List.mem_cons_self
    have c2 := h2 a' List.mem_cons_self
    have h3 : a + 1099511627776 * pk l = a' + 1099511627776 * pk l' := h3
    unfold cI at c1 c2
    have e1 : a = a' := by omega
    have e2 : pk l = pk l' := by omega
    rw [e1, pk_inj (Nat.succ.inj h) (fun z hz => h1 z (List.mem_cons_of_mem _ hz)) (fun z hz => h2 z (List.mem_cons_of_mem _ hz)) e2]
theorem pk_dv : ∀ {l l' : List Int} {r q : Int}, l.length = l'.length → (∀ z ∈ l, cI z) → (∀ z ∈ l', cI z) → pk (l ++ [r]) - pk l' = (1099511627776 : Int) ^ l'.length * q → l = l' ∧ r = q
  | [], [], r, q, _, _, _, h => by
    have h : (r + 1099511627776 * 0) - 0 = 1 * q := h
    exact ⟨rfl, by omega⟩
  | [], _ :: _, _, _, h, _, _, _ => by cases h
  | _ :: _, [], _, _, h, _, _, _ => by cases h
  | a :: l, a' :: l', r, q, h, h1, h2, h3 => by
    have c1 := h1 a List.mem_cons_self
    have c2 := h2 a' List.mem_cons_self
    unfold cI at c1 c2
    have e : (1099511627776 : Int) ^ (a' :: l').length * q = 1099511627776 * ((1099511627776 : Int) ^ l'.length * q) := by
      rw [List.length_cons, Int.pow_succ, Int.mul_comm ((1099511627776 : Int) ^ l'.length), Int.mul_assoc]
    rw [e] at h3
    have h3 : (a + 1099511627776 * pk (l ++ [r])) - (a' + 1099511627776 * pk l') = 1099511627776 * ((1099511627776 : Int) ^ l'.length * q) := h3
    have e1 : a = a' := by omega
    obtain ⟨e2, e3⟩ := pk_dv (l := l) (l' := l') (r := r) (q := q) (Nat.succ.inj h) (fun z hz => h1 z (List.mem_cons_of_mem _ hz)) (fun z hz => h2 z (List.mem_cons_of_mem _ hz)) (by omega)
    exact ⟨by rw [e1, e2], e3⟩
theorem xbn_pw : ∀ l : List av, xbn l = (1099511627776 : Int) ^ l.length
  | [] => rfl
  | _ :: l => by
    show xB * xbn l = _
    rw [xbn_pw l, List.length_cons, Int.pow_succ, Int.mul_comm]
    rfl
def yXG (sv : Nat → Int32) (L k a _b : Nat) (E : Int) (g : cg) : Prop := match k with
  | 70 => (∀ j : Nat, (j : Int) < E → g 259 j = g 2 j) ∧ ∀ i : Nat, i < 25 → g 89 i = kv i
  | 75 => ∃ (c : cg) (z1 z2 z3 z4 z5 : Int) (f : Nat) (lf : dlf) (rv : Option cv), (∀ z ∈ [z1, z2, z3, z4, z5], cI z) ∧ E = pk [z1, z2, z3, z4, z5] ∧ PRE c g ∧ lf 0 = (4, 0) ∧ lf 1 = (0, z1) ∧ lf 2 = (0, z2) ∧ lf 3 = (0, z3) ∧ lf 4 = (0, z4) ∧ lf 5 = (0, z5) ∧ zr sv L f 271 0 lf [] c (g, rv)
  | 72 => yRG a g
  | 74 => ∃ (c : cg) (al : List Int) (r : Int) (f : Nat) (lf : dlf), (∀ z ∈ al, cI z) ∧ cI r ∧ E = pk (al ++ [r]) ∧ xar a xPR = some al.length ∧ (yR 0 c ∧ aInv ytyt ytyp c ∧ aInv ytyt ytyp g ∧ (∀ k : Nat, 253 ≤ k → k < 270 → g k = c k) ∧ EQd (xzdf a) c g ∧ (xtr a = true → PRE c g) ∧ (xrf a = true → RF c)) ∧ lf 0 = (4, 0) ∧ darl lf 1 al ∧ zr sv L f a 0 lf [] c (g, some (0, r))
  | _ => False
theorem yX70 {sv : Nat → Int32} {L : Nat} : x70 (yXG sv L) := by
  refine ⟨fun a b a' b' E E' g h hE => ⟨fun j hj => h.1 j (by omega), h.2⟩, fun a b E g g' h e2 e89 e259 => ?_⟩
  refine ⟨fun j hj => ?_, fun i hi => ?_⟩
  · rw [e259, e2]; exact h.1 j hj
  · rw [e89]; exact h.2 i hi
theorem yXRL {sv : Nat → Int32} {L : Nat} : xRL (yXG sv L) ydep yAT := ⟨fun _ _ _ _ _ _ _ h e => yRG_fr h e, fun _ _ _ _ _ ha ha' h e => yRG_mv ha ha' h e⟩
section XS
variable {sv : Nat → Int32} {L : Nat} {π : Int} {env : aenv} {fx : List ae} {mem : List am} {gh : List gho} {g g' : cg} {ρ : Nat → Int} {wr : List awr}
theorem xnum_ok {GS : gho → (Nat → Int) → cg → Prop} (hC : coR xh2 ytyt GS env fx mem gh g ρ) {t k : Nat} {i e : ae} (h : xnum env mem t k i = some e) : ∃ j : Nat, ev ρ i = (j : Int) ∧ g k j = ev ρ e := by
  unfold xnum at h
  cases ha : amg env t ((k : Int), []) i mem with
  | none => rw [ha] at h; cases h
  | some v =>
    rw [ha] at h
    obtain ⟨h1, h2⟩ := xcnd h
    have h2 : v.2.2 = e := Option.some.inj h2
    obtain ⟨k', j, w, a1, a2, ⟨q, ww, c1, c2, c3⟩, a4, a5⟩ := amg_okT hC.1 hC.2.2.1 ha
    rw [evc] at a1
    have ek : k' = k := by omega
    subst ek
    subst c3
    refine ⟨j, a2, ?_⟩
    rw [avR_num a4 (Or.inl (xeqb h1)), h2]
theorem xfed_ok {GS : gho → (Nat → Int) → cg → Prop} (hC : coR xh2 ytyt GS env fx mem gh g ρ) {e : ae} (h : xfed ytyt env mem = some e) : g 0 5 = ev ρ e := by
  unfold xfed at h
  split at h
  · cases h
  · obtain ⟨j, h1, h2⟩ := xnum_ok hC h
    rw [show ev ρ ((5, []) : ae) = 5 from ecst_ev ρ 5] at h1
    have : j = 5 := by omega
    rw [← h2, this]
theorem xtap_ok {GS : gho → (Nat → Int) → cg → Prop} (hC : coR xh2 ytyt GS env fx mem gh g ρ) {e : ae} (h : xtap ytyt env mem = some e) : g 253 10 = ev ρ e := by
  unfold xtap at h
  split at h
  · cases h
  · obtain ⟨j, h1, h2⟩ := xnum_ok hC h
    rw [show ev ρ ((10, []) : ae) = 10 from ecst_ev ρ 10] at h1
    have : j = 10 := by omega
    rw [← h2, this]
theorem inv_row {k t cap : Nat} {lo hi a b : Int} {q : Nat × Nat} (h : aInv ytyt ytyp g) (ht : xg ytyt k = some t) (hT : xg ytyp t = some (cap, 900, (lo, hi), [(0, 899, [(0, 899, 1, a, b)])], [q])) : ∀ j : Nat, j < 900 → a ≤ g k j ∧ g k j ≤ b :=
  fun j hj => (h k t _ ht hT).1 (0, 899, [(0, 899, 1, a, b)]) List.mem_cons_self (0, 899, 1, a, b) List.mem_cons_self j (by show (0 : Int) ≤ (j : Int); omega) (by show (j : Int) ≤ 899; omega) ⟨by show (0 : Int) ≤ (j : Int); omega, by show (j : Int) ≤ 899; omega, by show ((j : Int) - 0) % 1 = 0; omega⟩
theorem xprq_ok (hC : coR xh2 ytyt (aGSd sv (xel L) (gGJ (yXG sv L) yfam yAT π)) env fx mem gh g ρ) (hI : aInv ytyt ytyp g) (hI' : aInv ytyt ytyp g') (hfr : ∀ k j : Nat, ¬ awc ytyt wr k j → g' k j = g k j) (h : xprq ytyt wr env fx mem gh = true) : PRE g g' := by
  unfold xprq at h
  split at h
  · cases h
  · rename_i a ha
    split at h
    · cases h
    · rename_i b hb
      obtain ⟨h1, h⟩ := xcnb h
      obtain ⟨h2, h⟩ := xcnb h
      obtain ⟨h3, h⟩ := xcnb h
      obtain ⟨h4, h⟩ := xcnb h
      obtain ⟨h5, h⟩ := xcnb h
      obtain ⟨x, hx, h6⟩ := List.any_eq_true.mp h
      obtain ⟨h7, h8⟩ := xcnb h6
      have h1 := eeq_ok hC.1 h1
      have h2 := elef_ok hC.1 hC.2.1 2 _ h2
      have h3 := elef_ok hC.1 hC.2.1 2 _ h3
      have h8 := elef_ok hC.1 hC.2.1 2 _ h8
      rw [eadc_ev] at h2
      rw [escl_ev] at h3
      rw [eadd_ev] at h8
      have ga := xfed_ok hC ha
      have gb := xtap_ok hC hb
      have hy := hC.2.2.2 x hx
      have ex : x.1 = 70 := xeqb h7
      rw [aGSd_x (by rw [ex]; rfl), ex] at hy
      obtain ⟨y1, y2⟩ := (show (∀ j : Nat, (j : Int) < ev ρ x.2.2.2 → g 259 j = g 2 j) ∧ ∀ i : Nat, i < 25 → g 89 i = kv i from hy)
      obtain ⟨k, hk⟩ : ∃ k : Nat, ev ρ a = (k : Int) := ⟨(ev ρ a).toNat, by omega⟩
      refine ⟨k, by omega, by omega, ?_, inv_row hI rfl rfl, inv_row hI'  rfl rfl, fun j hj => ?_, y2⟩
      · rw [hfr 253 10 (xcw_ok h4)]
        omega
      · rw [hfr 259 j (xrw_ok h5 j)]
        exact y1 j (by omega)
theorem xpk_ok : ∀ {l : List av} {m : List cv} {e : ae}, stR ytyt ρ l m → xpk l = some e → ∃ zl : List Int, m = zl.map (fun z => ((0 : Nat), z)) ∧ (∀ z ∈ zl, cI z) ∧ ev ρ e = pk zl
  | [], [], e, _, h => by
    have h : (0, []) = e := Option.some.inj h
    rw [← h]
    exact ⟨[], rfl, fun z hz => absurd hz List.not_mem_nil, ecst_ev ρ 0⟩
  | [], _ :: _, _, h, _ => h.elim
  | _ :: _, [], _, h, _ => h.elim
  | a :: l, v :: m, e, hs, h => by
    obtain ⟨h1, h2⟩ := xcnd (show cond (Nat.beq a.1 0) (match xpk l with
      | none => none
      | some e => some (eadd a.2.2 e xB)) none = some e from h)
    cases hp : xpk l with
    | none => rw [hp] at h2; cases h2
    | some e' =>
      rw [hp] at h2
      have h2 : eadd a.2.2 e' xB = e := Option.some.inj h2
      obtain ⟨zl, z1, z2, z3⟩ := xpk_ok hs.2 hp
      have ha : avR ytyt ρ a v := hs.1
      obtain ⟨t, ty, ex⟩ := a
      have et : t = 0 := xeqb h1
      subst et
      obtain ⟨a1, a2⟩ := (show v = (0, ev ρ ex) ∧ cI (ev ρ ex) from ha)
      refine ⟨ev ρ ex :: zl, by rw [a1, z1]; rfl, fun z hz => ?_, ?_⟩
      · rcases List.mem_cons.mp hz with q | q
        · rw [q]; exact a2
        · exact z2 z q
      · rw [← h2, eadd_ev, z3]
        rfl
theorem xob_ok {GS : gho → (Nat → Int) → cg → Prop} (hC : coR xh2 ytyt GS env fx mem gh g ρ) {a : av} {v : cv} {k : Nat} (ha : avR ytyt ρ a v) (h : xob env a k = true) : v = (4, (k : Int)) := by
  obtain ⟨h1, h2⟩ := xcnb h
  have h2 := eeq_ok hC.1 h2
  rw [evc] at h2
  obtain ⟨t, ty, ex⟩ := a
  have et : t = 4 := xeqb h1
  subst et
  obtain ⟨k', a1, a2, a3⟩ := (show ∃ k' : Nat, v = (4, (k' : Int)) ∧ ev ρ ex = (k' : Int) ∧ xg ytyt k' = some ty from ha)
  have h2 : ev ρ ex = (k : Int) := h2
  rw [a1, ← a2, h2]
end XS
section Rule
variable {sv : Nat → Int32} {L : Nat} {π : Int}
theorem stR_len {ρ : Nat → Int} : ∀ {l : List av} {m : List cv}, stR ytyt ρ l m → m.length = l.length
  | [], [], _ => rfl
  | [], _ :: _, h => h.elim
  | _ :: _, [], h => h.elim
  | _ :: l, _ :: m, h => congrArg (· + 1) (stR_len h.2)
theorem avR_0 {ρ : Nat → Int} {a : av} {v : cv} (h : avR ytyt ρ a v) (h0 : a.1 = 0) : v = (0, ev ρ a.2.2) ∧ cI (ev ρ a.2.2) := by
  obtain ⟨t, ty, ex⟩ := a
  have h0 : t = 0 := h0
  subst h0
  exact h
theorem xfe_mem {tyt : Lean.RArray (Nat × Nat)} {args : List av} {wr : List awr} {env : aenv} {fx : List ae} {mem : List am} {gh : List gho} {x : gho} (h : x ∈ xfe tyt args wr env fx mem gh) : ∃ t a1 a2 a3 a4 a5 e, args = [t, a1, a2, a3, a4, a5] ∧ xob env t 0 = true ∧ xprq tyt wr env fx mem gh = true ∧ xpk [a1, a2, a3, a4, a5] = some e ∧ x = (75, 0, 0, e) := by
  unfold xfe at h
  split at h
  · rename_i t a1 a2 a3 a4 a5
    cases h1 : xob env t 0 with
    | false => rw [h1] at h; exact absurd h List.not_mem_nil
    | true =>
      rw [h1] at h
      simp only [cond_true] at h
      cases h2 : xprq tyt wr env fx mem gh with
      | false => rw [h2] at h; exact absurd h List.not_mem_nil
      | true =>
        rw [h2] at h
        simp only [cond_true] at h
        cases h3 : xpk [a1, a2, a3, a4, a5] with
        | none => rw [h3] at h; exact absurd h List.not_mem_nil
        | some e =>
          rw [h3] at h
          exact ⟨t, a1, a2, a3, a4, a5, e, rfl, h1, rfl, h3, List.mem_singleton.mp h⟩
  · exact absurd h List.not_mem_nil
theorem xfm_mem {tyt : Lean.RArray (Nat × Nat)} {args : List av} {env0 : aenv} {gh0 : List gho} {env : aenv} {mem : List am} {x : gho} (h : x ∈ xfm tyt args env0 gh0 env mem) : ∃ t a1 a2 a3 a4 a5 e v y, args = [t, a1, a2, a3, a4, a5] ∧ xob env0 t 253 = true ∧ xpk [a1, a2, a3, a4, a5] = some e ∧ y ∈ gh0 ∧ y.1 = 75 ∧ eeq env0 y.2.2.2 e = true ∧ xtap tyt env mem = some v ∧ x = (70, 0, 0, v) := by
  unfold xfm at h
  split at h
  · rename_i t a1 a2 a3 a4 a5
    cases h1 : xob env0 t 253 with
    | false => rw [h1] at h; exact absurd h List.not_mem_nil
    | true =>
      rw [h1] at h
      simp only [cond_true] at h
      cases h3 : xpk [a1, a2, a3, a4, a5] with
      | none => rw [h3] at h; exact absurd h List.not_mem_nil
      | some e =>
        rw [h3] at h
        dsimp only at h
        cases h4 : gh0.any (fun x => cond (Nat.beq x.1 75) (eeq env0 x.2.2.2 e) false) with
        | false => rw [h4] at h; exact absurd h List.not_mem_nil
        | true =>
          rw [h4] at h
          simp only [cond_true] at h
          obtain ⟨y, y1, y2⟩ := List.any_eq_true.mp h4
          obtain ⟨y3, y4⟩ := xcnb y2
          cases h5 : xtap tyt env mem with
          | none => rw [h5] at h; exact absurd h List.not_mem_nil
          | some v =>
            rw [h5] at h
            exact ⟨t, a1, a2, a3, a4, a5, e, v, y, rfl, h1, h3, y1, xeqb y3, y4, rfl, List.mem_singleton.mp h⟩
  · exact absurd h List.not_mem_nil
theorem xan_mem {y : Nat} {A : ae} {n : Int} {r : ae} : ∀ {gh : List gho} {fs : List ae}, xan y A n r gh = some fs → ∃ x ∈ gh, x.1 = 74 ∧ x.2.1 = y ∧ zeq (Int.emod (eadd x.2.2.2 A (-1)).1 n) 0 = true ∧ zdvd n (eadd x.2.2.2 A (-1)).2 = true ∧ fs = [eadd (xdq n (eadd x.2.2.2 A (-1))) r (-1), eadd r (xdq n (eadd x.2.2.2 A (-1))) (-1)]
  | [], _, h => by cases h
  | x :: l, fs, h => by
    have h : cond (cond (Nat.beq x.1 74) (cond (Nat.beq x.2.1 y) (cond (zeq (Int.emod (eadd x.2.2.2 A (-1)).1 n) 0) (zdvd n (eadd x.2.2.2 A (-1)).2) false) false) false) (some [eadd (xdq n (eadd x.2.2.2 A (-1))) r (-1), eadd r (xdq n (eadd x.2.2.2 A (-1))) (-1)]) (xan y A n r l) = some fs := h
    cases hb : cond (Nat.beq x.1 74) (cond (Nat.beq x.2.1 y) (cond (zeq (Int.emod (eadd x.2.2.2 A (-1)).1 n) 0) (zdvd n (eadd x.2.2.2 A (-1)).2) false) false) false with
    | false =>
      rw [hb] at h
      obtain ⟨w, w1, w2⟩ := xan_mem (show xan y A n r l = some fs from h)
      exact ⟨w, List.mem_cons_of_mem _ w1, w2⟩
    | true =>
      rw [hb] at h
      obtain ⟨b1, hb⟩ := xcnb hb
      obtain ⟨b2, hb⟩ := xcnb hb
      obtain ⟨b3, b4⟩ := xcnb hb
      exact ⟨x, List.mem_cons_self, xeqb b1, xeqb b2, b3, b4, (Option.some.inj h).symm⟩
theorem lsnoc : ∀ (l : List Int), l ≠ [] → ∃ a x, l = a ++ [x]
  | [], h => absurd rfl h
  | [x], _ => ⟨[], x, rfl⟩
  | x :: y :: l, _ => by
    obtain ⟨a, z, e⟩ := lsnoc (y :: l) (fun h => by cases h)
    exact ⟨x :: a, z, by rw [e]; rfl⟩
theorem stR_app {ρ : Nat → Int} {r : av} {v : cv} : ∀ {l : List av} {m : List cv}, stR ytyt ρ l m → avR ytyt ρ r v → stR ytyt ρ (l ++ [r]) (m ++ [v])
  | [], [], _, hr => ⟨hr, trivial⟩
  | [], _ :: _, h, _ => h.elim
  | _ :: _, [], h, _ => h.elim
  | _ :: _, _ :: _, h, hr => ⟨h.1, stR_app h.2 hr⟩
theorem yXS {G : xG} (hT : ∀ z : Nat, (xar z xPR).isSome = true → TT sv L z) (hF : ∀ z : Nat, xrf z = true → TF sv L z) (hG : cW sv xcode xmeth xobj (xel L) xeb G) : aXS G xh2 ytyt ytyp (aGSd sv (xel L) (gGJ (yXG sv L) yfam yAT π)) := by
  intro z args wr mem0 env0 fx0 gh0 rva mem env fx gh g g' ρ argc rv f lf hC0 hA hI hI' hfr hl he hC hr
  rw [hG.2 xh2] at he
  have he : zr sv L f z 0 lf [] g (g', rv) := he
  unfold zXS
  cases h1 : xzin z xKR with
  | true =>
    refine ⟨fun _ h => absurd h List.not_mem_nil, fun x hx => ?_⟩
    have hx : x ∈ xkr env fx gh := hx
    unfold xkr at hx
    rcases List.mem_append.mp hx with hx | hx
    · cases h2 : jrl env fx gh 0 with
      | false => rw [h2] at hx; exact absurd hx List.not_mem_nil
      | true =>
        rw [h2] at hx
        rw [List.mem_singleton.mp hx, aGSd_x (show Nat.ble 70 72 = true from rfl)]
        exact jrl_ok yXRL hC h2 _ _
    · cases h2 : jrl env fx gh 4464 with
      | false => rw [h2] at hx; exact absurd hx List.not_mem_nil
      | true =>
        rw [h2] at hx
        rw [List.mem_singleton.mp hx, aGSd_x (show Nat.ble 70 72 = true from rfl)]
        exact jrl_ok yXRL hC h2 _ _
  | false =>
    simp only [cond_false]
    cases h271 : Nat.beq z 271 with
    | true =>
      have ez : z = 271 := xeqb h271
      rw [ez] at he
      refine ⟨fun _ h => absurd h List.not_mem_nil, fun x hx => ?_⟩
      obtain ⟨t, a1, a2, a3, a4, a5, e, rfl, x1, x2, x3, rfl⟩ := xfe_mem hx
      match argc, hA, hl with
      | vt :: vl, hA, hl =>
        have u1 := xob_ok hC0 hA.1 x1
        obtain ⟨zl, b1, b2, b3⟩ := xpk_ok (l := [a1, a2, a3, a4, a5]) (m := vl) hA.2 x3
        have hlen : zl.length = 5 := by
          have q1 := stR_len hA.2
          rw [b1, List.length_map] at q1
          exact q1
        match zl, hlen, b1, b2, b3 with
        | [z1, z2, z3, z4, z5], _, b1, b2, b3 =>
          rw [u1, b1] at hl
          rw [aGSd_x (show Nat.ble 70 75 = true from rfl)]
          exact ⟨g, z1, z2, z3, z4, z5, f, lf, rv, b2, b3, xprq_ok hC0 hI hI' hfr x2, hl (0, (4, 0)) (by exact List.mem_cons_self), hl (1, (0, z1)) (by exact List.mem_cons_of_mem _ List.mem_cons_self), hl (2, (0, z2)) (by exact List.mem_cons_of_mem _ (List.mem_cons_of_mem _ List.mem_cons_self)), hl (3, (0, z3)) (by exact List.mem_cons_of_mem _ (List.mem_cons_of_mem _ (List.mem_cons_of_mem _ List.mem_cons_self))), hl (4, (0, z4)) (by exact List.mem_cons_of_mem _ (List.mem_cons_of_mem _ (List.mem_cons_of_mem _ (List.mem_cons_of_mem _ List.mem_cons_self)))), hl (5, (0, z5)) (by exact List.mem_cons_of_mem _ (List.mem_cons_of_mem _ (List.mem_cons_of_mem _ (List.mem_cons_of_mem _ (List.mem_cons_of_mem _ List.mem_cons_self))))), he⟩
      | [], hA, _ => exact hA.elim
    | false =>
      simp only [cond_false]
      cases h272 : Nat.beq z 272 with
      | true =>
        have ez : z = 272 := xeqb h272
        rw [ez] at he
        refine ⟨fun _ h => absurd h List.not_mem_nil, fun x hx => ?_⟩
        obtain ⟨t, a1, a2, a3, a4, a5, e, v, y, rfl, x1, x2, y1, y2, y3, y4, rfl⟩ := xfm_mem hx
        match argc, hA, hl with
        | vt :: vl, hA, hl =>
          have u1 := xob_ok hC0 hA.1 x1
          obtain ⟨zl, b1, b2, b3⟩ := xpk_ok (l := [a1, a2, a3, a4, a5]) (m := vl) hA.2 x2
          have hlen : zl.length = 5 := by
            have q1 := stR_len hA.2
            rw [b1, List.length_map] at q1
            exact q1
          match zl, hlen, b1, b2, b3 with
          | [z1, z2, z3, z4, z5], _, b1, b2, b3 =>
            rw [u1, b1] at hl
            have hy := hC0.2.2.2 y y1
            rw [aGSd_x (by rw [y2]; rfl), y2] at hy
            obtain ⟨c, p1, p2, p3, p4, p5, f0, lf0, rv0, d1, d2, d3, d4, d5, d6, d7, d8, d9, d10⟩ := (show ∃ (c : cg) (z1 z2 z3 z4 z5 : Int) (f : Nat) (lf : dlf) (rv : Option cv), (∀ z ∈ [z1, z2, z3, z4, z5], cI z) ∧ ev ρ y.2.2.2 = pk [z1, z2, z3, z4, z5] ∧ PRE c g ∧ lf 0 = (4, 0) ∧ lf 1 = (0, z1) ∧ lf 2 = (0, z2) ∧ lf 3 = (0, z3) ∧ lf 4 = (0, z4) ∧ lf 5 = (0, z5) ∧ zr sv L f 271 0 lf [] c (g, rv) from hy)
            have hpk := eeq_ok hC0.1 y3
            rw [d2, b3] at hpk
            have hzl := pk_inj (l := [p1, p2, p3, p4, p5]) (l' := [z1, z2, z3, z4, z5]) rfl d1 b2 hpk
            injection hzl with i1 hzl
            injection hzl with i2 hzl
            injection hzl with i3 hzl
            injection hzl with i4 hzl
            injection hzl with i5 hzl
            rw [i1] at d5
            rw [i2] at d6
            rw [i3] at d7
            rw [i4] at d8
            rw [i5] at d9
            rw [aGSd_x (show Nat.ble 70 70 = true from rfl)]
            have hfin := feed_eq d3 d10 d4 d5 d6 d7 d8 d9 he (hl (0, (4, 253)) (by exact List.mem_cons_self)) (hl (1, (0, z1)) (by exact List.mem_cons_of_mem _ List.mem_cons_self)) (hl (2, (0, z2)) (by exact List.mem_cons_of_mem _ (List.mem_cons_of_mem _ List.mem_cons_self))) (hl (3, (0, z3)) (by exact List.mem_cons_of_mem _ (List.mem_cons_of_mem _ (List.mem_cons_of_mem _ List.mem_cons_self)))) (hl (4, (0, z4)) (by exact List.mem_cons_of_mem _ (List.mem_cons_of_mem _ (List.mem_cons_of_mem _ (List.mem_cons_of_mem _ List.mem_cons_self))))) (hl (5, (0, z5)) (by exact List.mem_cons_of_mem _ (List.mem_cons_of_mem _ (List.mem_cons_of_mem _ (List.mem_cons_of_mem _ (List.mem_cons_of_mem _ List.mem_cons_self))))))
            rw [xtap_ok hC y4] at hfin
            exact hfin
        | [], hA, _ => exact hA.elim
      | false =>
        simp only [cond_false]
        cases h2 : xar z xPR with
        | some k =>
          dsimp only
          refine ⟨fun _ h => absurd h List.not_mem_nil, fun x hx => ?_⟩
          unfold xzcl at hx
          match args, rva, argc, rv, hA, hr, hl, he, hx with
          | [], _, _, _, _, _, _, _, hx => exact absurd hx List.not_mem_nil
          | _ :: _, none, _, _, _, _, _, _, hx => exact absurd hx List.not_mem_nil
          | _ :: _, some _, [], _, hA, _, _, _, _ => exact hA.elim
          | _ :: _, some _, _ :: _, none, _, hr, _, _, _ => exact hr.elim
          | t :: l, some r, vt :: vl, some vr, hA, hr, hl, he, hx =>
            cases h3 : cond (xob env0 t 0) (Nat.beq l.length k) false with
            | false => simp only [h3, cond_false] at hx; exact absurd hx List.not_mem_nil
            | true =>
              simp only [h3, cond_true] at hx
              cases h4 : cond (cond (xrl gh0 0) (cond (xrf z) (xrl gh0 9999) true) false) (cond (xw1 ytyt wr) (cond ((xzdf z).all (fun q => jwq ytyt wr q)) (cond (xtr z) (xprq ytyt wr env0 fx0 mem0 gh0) true) false) false) false with
              | false => simp only [h4, cond_false] at hx; exact absurd hx List.not_mem_nil
              | true =>
                simp only [h4, cond_true] at hx
                cases h5 : xpk (l ++ [r]) with
                | none => simp only [h5] at hx; exact absurd hx List.not_mem_nil
                | some e =>
                  simp only [h5] at hx
                  rw [List.mem_singleton.mp hx, aGSd_x (show Nat.ble 70 74 = true from rfl)]
                  obtain ⟨a1, a2⟩ := xcnb h3
                  obtain ⟨a3, a4⟩ := xcnb h4
                  obtain ⟨a3, a3f⟩ := xcnb a3
                  obtain ⟨a4, a5⟩ := xcnb a4
                  obtain ⟨a5, a7⟩ := xcnb a5
                  have hs : stR ytyt ρ l vl := hA.2
                  have hr : avR ytyt ρ r vr := hr
                  obtain ⟨zl, b1, b2, b3⟩ := xpk_ok (stR_app hs hr) h5
                  have hlen : vl.length = l.length := stR_len hs
                  -- the last of zl is the answer
                  obtain ⟨al, zr', e1⟩ : ∃ al zr', zl = al ++ [zr'] := by
                    have : zl ≠ [] := fun e0 => by
                      rw [e0] at b1
                      have := congrArg List.length b1
                      simp at this
                    exact lsnoc zl this
                  rw [e1, List.map_append] at b1
                  obtain ⟨c1, c2⟩ := List.append_inj' b1 rfl
                  have c2 : vr = (0, zr') := (List.cons.inj c2).1
                  rw [c2] at he
                  rw [xob_ok hC0 hA.1 a1, c1] at hl
                  obtain ⟨x, x1, x2, x3⟩ := xrl_ok a3
                  have hx2 := hC0.2.2.2 x x1
                  rw [aGSd_x (by rw [x2]; rfl), x2, x3] at hx2
                  have hal : al.length = l.length := by
                    rw [c1, List.length_map] at hlen
                    exact hlen
                  exact ⟨g, al, zr', f, lf, fun z hz => b2 z (by rw [e1]; exact List.mem_append.mpr (Or.inl hz)), b2 zr' (by rw [e1]; exact List.mem_append.mpr (Or.inr List.mem_cons_self)), by rw [← e1]; exact b3, by rw [h2, hal, xeqb a2], ⟨hx2, hI, hI', fun k' q1 q2 => funext fun j => hfr k' j (xw1_ok a4 q1 q2), fun q hq j q1 q2 => hfr q.1 j (jwq_ok (List.all_eq_true.mp a5 q hq) q1 q2), fun hx => xprq_ok hC0 hI hI' hfr (by rw [hx] at a7; exact a7), fun hx => by
                    rw [hx] at a3f
                    obtain ⟨w, w1, w2, w3⟩ := xrl_ok a3f
                    have hw2 := hC0.2.2.2 w w1
                    rw [aGSd_x (by rw [w2]; rfl), w2, w3] at hw2
                    exact hw2⟩, hl (0, (4, 0)) List.mem_cons_self, darl_of (fun q hq => hl q (List.mem_cons_of_mem _ hq)), he⟩
        | none =>
          dsimp only
          cases h3 : xar (Nat.pred z) xPR with
          | none => exact ⟨fun _ h => absurd h List.not_mem_nil, fun _ h => absurd h List.not_mem_nil⟩
          | some k =>
            dsimp only
            have hz : z = Nat.pred z + 1 := by
              cases z with
              | zero => rw [show Nat.pred 0 = 0 from rfl] at h3; cases h3
              | succ z => rfl
            unfold xzml
            match args, rva, argc, rv, hA, hr, hl, he with
            | [], _, _, _, _, _, _, _ => exact ⟨fun _ h => absurd h List.not_mem_nil, fun _ h => absurd h List.not_mem_nil⟩
            | _ :: _, none, _, _, _, _, _, _ => exact ⟨fun _ h => absurd h List.not_mem_nil, fun _ h => absurd h List.not_mem_nil⟩
            | _ :: _, some _, [], _, hA, _, _, _ => exact hA.elim
            | _ :: _, some _, _ :: _, none, _, hr, _, _ => exact hr.elim
            | t :: l, some r, vt :: vl, some vr, hA, hr, hl, he =>
              cases h4 : cond (xob env0 t 253) (Nat.beq l.length k) false with
              | false => simp only [h4, cond_false]; exact ⟨fun _ h => absurd h List.not_mem_nil, fun _ h => absurd h List.not_mem_nil⟩
              | true =>
                simp only [h4, cond_true]
                cases h5 : cond (Nat.beq r.1 0) (cond (xw2 wr) ((xzmf (Nat.pred z)).all (fun q => jwq ytyt wr q)) false) false with
                | false => simp only [cond_false]; exact ⟨fun _ h => absurd h List.not_mem_nil, fun _ h => absurd h List.not_mem_nil⟩
                | true =>
                  simp only [cond_true]
                  cases h6 : xpk l with
                  | none => exact ⟨fun _ h => absurd h List.not_mem_nil, fun _ h => absurd h List.not_mem_nil⟩
                  | some A =>
                    dsimp only
                    cases h7 : xan (Nat.pred z) A (xbn l) r.2.2 gh0 with
                    | none => exact ⟨fun _ h => absurd h List.not_mem_nil, fun _ h => absurd h List.not_mem_nil⟩
                    | some fs =>
                      dsimp only
                      obtain ⟨a1, a2⟩ := xcnb h4
                      obtain ⟨a3, a4⟩ := xcnb h5
                      obtain ⟨a4, a6⟩ := xcnb a4
                      obtain ⟨y, y1, y2, y3, y4, y5, y6⟩ := xan_mem h7
                      have hs : stR ytyt ρ l vl := hA.2
                      obtain ⟨c1, c2⟩ := avR_0 (show avR ytyt ρ r vr from hr) (xeqb a3)
                      obtain ⟨zl, b1, b2, b3⟩ := xpk_ok hs h6
                      rw [c1] at he
                      rw [xob_ok hC0 hA.1 a1, b1] at hl
                      have hy := hC0.2.2.2 y y1
                      rw [aGSd_x (by rw [y2]; rfl), y2, y3] at hy
                      obtain ⟨c, al, r0, f0, lf0, d1, d2, d3, d4, ⟨d5, d6, d7, d8, d8', d12, d13⟩, d9, d10, d11⟩ := (show ∃ (c : cg) (al : List Int) (r : Int) (f : Nat) (lf : dlf), (∀ z ∈ al, cI z) ∧ cI r ∧ ev ρ y.2.2.2 = pk (al ++ [r]) ∧ xar (Nat.pred z) xPR = some al.length ∧ (yR 0 c ∧ aInv ytyt ytyp c ∧ aInv ytyt ytyp g ∧ (∀ k : Nat, 253 ≤ k → k < 270 → g k = c k) ∧ EQd (xzdf (Nat.pred z)) c g ∧ (xtr (Nat.pred z) = true → PRE c g) ∧ (xrf (Nat.pred z) = true → RF c)) ∧ lf 0 = (4, 0) ∧ darl lf 1 al ∧ zr sv L f (Nat.pred z) 0 lf [] c (g, some (0, r)) from hy)
                      have hlen : zl.length = al.length := by
                        have q1 := stR_len hs
                        rw [b1, List.length_map] at q1
                        rw [h3] at d4
                        have q2 := Option.some.inj d4
                        have q3 := xeqb a2
                        omega
                      have hl2 : l.length = zl.length := by
                        have q1 := stR_len hs
                        rw [b1, List.length_map] at q1
                        exact q1.symm
                      have hd := xdq_ev ρ y4 y5
                      rw [eadd_ev, d3, b3, xbn_pw, hl2] at hd
                      obtain ⟨e1, e2⟩ := pk_dv hlen.symm d1 b2 (show pk (al ++ [r0]) - pk zl = (1099511627776 : Int) ^ zl.length * ev ρ (xdq (xbn l) (eadd y.2.2.2 A (-1))) by rw [xbn_pw, hl2]; omega)
                      rw [e1] at d10 d4 d1
                      rw [hz] at he
                      have hPT : PT (Nat.pred z) c g g' := ⟨d5, d6, d7, d8, fun k' q => funext fun j => hfr k' j (xw2_ok a4 q), d8', fun q hq j q1 q2 => hfr q.1 j (jwq_ok (List.all_eq_true.mp a6 q hq) q1 q2), d12⟩
                      have key := hT (Nat.pred z) (by rw [h3]; rfl) c g g' zl r0 (ev ρ r.2.2) f0 f lf0 lf hPT d13 d4 b2 d9 d10 d11 (hl (0, (4, 253)) List.mem_cons_self) (darl_of (fun q hq => hl q (List.mem_cons_of_mem _ hq))) he
                      refine ⟨fun q hq => ?_, fun x hx => ?_⟩
                      · have hq : q ∈ fs := hq
                        rw [y6] at hq
                        rcases List.mem_cons.mp hq with e | hq
                        · rw [e, eadd_ev, ← e2, key.2]; omega
                        · rw [List.mem_singleton.mp hq, eadd_ev, ← e2, key.2]; omega
                      · have hx : x ∈ cond (cond (xtr (Nat.pred z)) (elef env fx 2 (escl r.2.2 (-1))) true) [(72, 0, 0, ((0, []) : ae))] [] ++ cond (xrf (Nat.pred z)) [(72, 9999, 0, ((0, []) : ae))] [] := hx
                        rcases List.mem_append.mp hx with hx | hx
                        · cases h9 : cond (xtr (Nat.pred z)) (elef env fx 2 (escl r.2.2 (-1))) true with
                          | false => rw [h9] at hx; exact absurd hx List.not_mem_nil
                          | true =>
                            rw [h9] at hx
                            rw [List.mem_singleton.mp hx, aGSd_x (show Nat.ble 70 72 = true from rfl)]
                            refine key.1 (fun e => ?_)
                            rw [e] at h9
                            have h10 := elef_ok hC.1 hC.2.1 2 _ h9
                            rw [escl_ev] at h10
                            omega
                        · cases h9 : xrf (Nat.pred z) with
                          | false => rw [h9] at hx; exact absurd hx List.not_mem_nil
                          | true =>
                            rw [h9] at hx
                            rw [List.mem_singleton.mp hx, aGSd_x (show Nat.ble 70 72 = true from rfl)]
                            exact hF (Nat.pred z) h9 c g g' zl r0 (ev ρ r.2.2) f0 f lf0 lf hPT (d13 h9) d4 b2 d9 d10 d11 (hl (0, (4, 253)) List.mem_cons_self) (darl_of (fun q hq => hl q (List.mem_cons_of_mem _ hq))) he
end Rule
theorem xar_mem {z : Nat} : ∀ {l : List (Nat × Nat)}, (xar z l).isSome = true → ∃ q ∈ l, q.1 = z
  | [], h => by cases h
  | q :: l, h => by
    have h : (cond (Nat.beq q.1 z) (some q.2) (xar z l)).isSome = true := h
    cases hb : Nat.beq q.1 z with
    | true => exact ⟨q, List.mem_cons_self, xeqb hb⟩
    | false =>
      rw [hb] at h
      obtain ⟨x, x1, x2⟩ := xar_mem (show (xar z l).isSome = true from h)
      exact ⟨x, List.mem_cons_of_mem _ x1, x2⟩
theorem yT {sv : Nat → Int32} {L : Nat} (z : Nat) (h : (xar z xPR).isSome = true) : TT sv L z := by
  obtain ⟨q, hq, e⟩ := xar_mem h
  subst e
  rcases List.mem_cons.mp hq with e | hq
  · rw [e]; exact tt_court
  rcases List.mem_cons.mp hq with e | hq
  · rw [e]; exact tt_trials rfl
  rcases List.mem_cons.mp hq with e | hq
  · rw [e]; exact tt_mark
  rcases List.mem_cons.mp hq with e | hq
  · rw [e]; exact tt_undo
  rcases List.mem_cons.mp hq with e | hq
  · rw [e]; exact tt_ride rfl
  rcases List.mem_cons.mp hq with e | hq
  · rw [e]; exact tt_swear rfl
  rcases List.mem_cons.mp hq with e | hq
  · rw [e]; exact tt_find rfl
  rcases List.mem_cons.mp hq with e | hq
  · rw [e]; exact tt_recant rfl
  rcases List.mem_cons.mp hq with e | hq
  · rw [e]; exact tt_earn rfl
  rcases List.mem_cons.mp hq with e | hq
  · rw [e]; exact tt_meet rfl
  rcases List.mem_cons.mp hq with e | hq
  · rw [e]; exact tt_live rfl
  rw [List.mem_singleton.mp hq]; exact tt_why rfl

theorem yTF {sv : Nat → Int32} {L : Nat} (z : Nat) (h : xrf z = true) : TF sv L z := by
  cases h

