/-! Runs: cells, switches, calls, answers -/
def cval (w : xv) (z : Int) : cv := match w.1 with
  | 0 => (0, z)
  | 2 => (2, z)
  | t => (t, (w.2 : Int))
theorem cval_enc : ∀ (w : xv) (z : Int), cenc (cval w z) = cpl w z
  | (0, _), _ => rfl
  | (1, _), _ => rfl
  | (2, _), _ => rfl
  | (_ + 3, _), _ => rfl
def cup (g : cg) (k j : Nat) (z : Int) : cg := fun k' j' => if k' = k ∧ j' = j then z else g k' j'
theorem c32_xnu (x : Int32) : c32 x.toInt = xnu x := by
  have h := i32_of x
  have h2 : xnu (nI (c32 x.toInt)) = xnu x := congrArg xnu h
  have h3 : c32 x.toInt < 4294967296 := by unfold c32; omega
  have h4 : xnu (nI (c32 x.toInt)) = c32 x.toInt := by
    show (BitVec.ofNat 32 _).toNat = _
    rw [BitVec.toNat_ofNat]
    exact Nat.mod_eq_of_lt h3
  rw [← h2, h4]
theorem c32_nat {z : Int} (h1 : 0 ≤ z) (h2 : z < 4294967296) : c32 z = z.toNat := by unfold c32; omega
theorem cHR.set {h0 h : xheap} {g : cg} (hh : cHR h0 h g) {k j : Nat} {q : xcell} {w : xv} {t : xct} {v : cv} (hq : xg h0 k = some q) (hw : xg q.2.2 j = some w) (ht : xg h k = some (q.1, q.2.1, t)) (hv : cenc v = cpl w v.2) : cHR h0 (xw h k (q.1, q.2.1, xw t j (cenc v))) (cup g k j v.2) := by
  intro k' q' hq'
  by_cases e : k' = k
  · subst e
    have e2 : q' = q := Option.some.inj (hq'.symm.trans hq)
    subst e2
    refine ⟨xw t j (cenc v), xg_self _ _ _ _ ht, fun j' w' hw' => ?_⟩
    obtain ⟨t2, a1, a2⟩ := hh k' q' hq
    have e3 : t2 = t := by
      have := Option.some.inj (a1.symm.trans ht)
      exact congrArg (fun c : xcell => c.2.2) this
    subst e3
    unfold cup
    by_cases ej : j' = j
    · subst ej
      have e4 : w' = w := Option.some.inj (hw'.symm.trans hw)
      subst e4
      rw [if_pos ⟨rfl, rfl⟩, xg_self _ _ _ _ (a2 _ _ hw), hv]
    · rw [if_neg (fun z => ej z.2), xg_other _ _ _ _ ej]
      exact a2 _ _ hw'
  · obtain ⟨t2, a1, a2⟩ := hh k' q' hq'
    refine ⟨t2, by rw [xg_other _ _ _ _ e]; exact a1, fun j' w' hw' => ?_⟩
    unfold cup
    rw [if_neg (fun z => e z.1)]
    exact a2 _ _ hw'
/-- the fixed cells are as their kinds say -/
def cH0 (h0 : xheap) : Prop := ∀ (k : Nat) (q : xcell), xg h0 k = some q → (q.2.1 < 2147483648) ∧ ∀ j : Nat, j < q.2.1 → ∃ w : xv, xg q.2.2 j = some w ∧ (q.1 = 13 ∨ q.1 = 15 → w.1 = 0) ∧ (q.1 = 14 → w.1 = 2) ∧ (20 ≤ q.1 → w.1 = 4)
def cpop {α : Type} : Nat → List α → List α → Option (List α × List α)
  | 0, acc, st => some (acc, st)
  | _ + 1, _, [] => none
  | n + 1, acc, w :: st => cpop n (w :: acc) st
theorem cpop_map : ∀ (n : Nat) (acc st : List cv), xpop n (acc.map cenc) (st.map cenc) = (cpop n acc st).map (fun q => (q.1.map cenc, q.2.map cenc))
  | 0, _, _ => rfl
  | _ + 1, _, [] => rfl
  | n + 1, acc, w :: st => cpop_map n (w :: acc) st
def carg : Nat → List cv → List (Nat × cv)
  | _, [] => []
  | i, w :: l => (i, w) :: carg (cond (Nat.beq (xkd w.1) 1) (i + 2) (i + 1)) l
theorem carg_map : ∀ (i : Nat) (a : List cv), xarg i (a.map cenc) = (carg i a).map cle
  | _, [] => rfl
  | i, w :: l => by
    show (i, cenc w) :: xarg (cond (Nat.beq (xkd (cenc w).1) 1) (i + 2) (i + 1)) (l.map cenc) = cle (i, w) :: (carg (cond (Nat.beq (xkd w.1) 1) (i + 2) (i + 1)) l).map cle
    rw [cenc_1, carg_map]; rfl
def cwds : List cv → Nat
  | [] => 0
  | w :: l => cond (Nat.beq (xkd w.1) 1) 2 1 + cwds l
theorem cwds_map : ∀ a : List cv, xwds (a.map cenc) = cwds a
  | [] => rfl
  | w :: l => by
    show cond (Nat.beq (xkd (cenc w).1) 1) 2 1 + xwds (l.map cenc) = _
    rw [cenc_1, cwds_map]; rfl
theorem xcp_fw {t1 : xct} : ∀ (m sp dp : Nat) (t2 : xct), (∀ j, sp ≤ j → j < sp + m → ∃ w : xv, xg t1 j = some w) → (∀ j, dp ≤ j → j < dp + m → ∃ w : xv, xg t2 j = some w) →
    ∃ t : xct, (∀ c : xct → xR, xcp t1 m sp dp t2 c = c t) ∧ (∀ j, dp ≤ j → j < dp + m → xg t j = xg t1 (sp + (j - dp))) ∧ (∀ j, j < dp ∨ dp + m ≤ j → xg t j = xg t2 j)
  | 0, sp, dp, t2, _, _ => ⟨t2, fun _ => rfl, fun j a b => by omega, fun _ _ => rfl⟩
  | m + 1, sp, dp, t2, h1, h2 => by
    obtain ⟨w, hw⟩ := h1 sp (Nat.le_refl _) (by omega)
    obtain ⟨w2, hw2⟩ := h2 dp (Nat.le_refl _) (by omega)
    obtain ⟨t, e1, e2, e3⟩ := xcp_fw m (sp + 1) (dp + 1) (xw t2 dp w) (fun j a b => h1 j (by omega) (by omega)) (fun j a b => by
      rw [xg_other _ _ _ _ (by omega)]
      exact h2 j (by omega) (by omega))
    refine ⟨t, fun c => ?_, fun j a b => ?_, fun j a => ?_⟩
    · show (match xg t1 sp with
        | none => none
        | some w => xsK t2 dp w (fun t => xcp t1 m (sp + 1) (dp + 1) t c)) = _
      rw [hw]
      dsimp only
      rw [xsK_eq, e1]
    · by_cases ej : j = dp
      · subst ej
        rw [e3 j (by omega), xg_self _ _ _ _ hw2, Nat.sub_self, Nat.add_zero, hw]
      · rw [e2 j (by omega) (by omega)]
        congr 1
        omega
    · rw [e3 j (by omega), xg_other _ _ _ _ (by omega)]
section Run2
variable {sv : Nat → Int32} {cd : xcd} {mi : xmi} {df : xdf} {el : Nat → Nat} {eb : Nat → List Nat} {G : xG0} {h0 : xheap} {n0 : Nat}
variable {y d pc pc' nx tg r1 r2 cn sn : Nat} {ins : Instr} {ls ls' : List (Nat × cv)} {st st' : List cv} {g g' : cg} {Q Q' : cg → Option cv → Prop}
theorem cU_tab (hG : cV sv cd mi df el eb G) {a b e : Int} {f : Array Int} (hc : cC cd y pc (.tableswitch a b e f, nx, tg, r1, r2)) {z : Int} (hz : cI z) {t : Nat} (ht : xts a b e f pc z = some t)
    (k : cU G h0 n0 y d t ls st g cn sn Q) : cU G h0 n0 y d pc ls ((0, z) :: st) g cn sn Q := by
  refine cU_s0 hG hc (st.map cenc) (fun rec h => ?_) k (ximS.rf sv _)
  show (match xts a b e f pc (xz (c32 z)) with
      | some t => rec y d t (ls.map cle) (st.map cenc) [] h n0 cn sn
      | none => none) = _
  rw [show xz (c32 z) = z from i32_int hz, ht]
theorem cU_lkp (hG : cV sv cd mi df el eb G) {a : Int} {f : Array (Int × Int)} (hc : cC cd y pc (.lookupswitch a f, nx, tg, r1, r2)) {z : Int} (hz : cI z) (ht : 0 ≤ (pc : Int) + Op.lookupswitch.offset f.toList a z)
    (k : cU G h0 n0 y d ((pc : Int) + Op.lookupswitch.offset f.toList a z).toNat ls st g cn sn Q) : cU G h0 n0 y d pc ls ((0, z) :: st) g cn sn Q := by
  refine cU_s0 hG hc (st.map cenc) (fun rec h => ?_) k (ximS.rf sv _)
  show (if 0 ≤ (pc : Int) + Op.lookupswitch.offset f.toList a (xz (c32 z)) then rec y d ((pc : Int) + Op.lookupswitch.offset f.toList a (xz (c32 z))).toNat (ls.map cle) (st.map cenc) [] h n0 cn sn else none) = _
  rw [show xz (c32 z) = z from i32_int hz, if_pos ht]
theorem xnb1 {a b : Nat} (h : a = b) : Nat.beq a b = true := by rw [h]; exact Nat.beq_refl b
theorem xlt1 {a b : Nat} (h : a < b) : Nat.blt a b = true := Nat.ble_eq_true_of_le h
theorem xle1 {a b : Nat} (h : a ≤ b) : Nat.ble a b = true := Nat.ble_eq_true_of_le h
theorem cU_get (hG : cV sv cd mi df el eb G) {i : Nat} (hc : cC cd y pc (.getfield i, nx, tg, r1, r2)) {k : Nat} {q : xcell} {w : xv} (hq : xg h0 k = some q) (hk : q.1 = r1) (h13 : r1 < 13) (hw : xg q.2.2 r2 = some w)
    (kk : cU G h0 n0 y d nx ls (cval w (g k r2) :: st) g cn sn Q) : cU G h0 n0 y d pc ls ((4, (k : Int)) :: st) g cn sn Q := by
  refine cU_st (g' := g) hG hc (fun h hh => ⟨h, hh, ls.map cle, cenc (cval w (g k r2)) :: st.map cenc, fun rec => ?_, cls_rf ls, ximS.rf sv _⟩) kk
  obtain ⟨t, a1, a2⟩ := hh k q hq
  show (cond (Nat.beq 4 4) (match xg h k with
        | none => none
        | some q => cond (Nat.beq q.1 r1 && Nat.blt r1 13)
            (match xg q.2.2 r2 with
              | none => none
              | some v => rec y d nx (ls.map cle) (v :: st.map cenc) [] h n0 cn sn) none) none) = _
  rw [a1]
  show cond (Nat.beq q.1 r1 && Nat.blt r1 13) (match xg t r2 with
              | none => none
              | some v => rec y d nx (ls.map cle) (v :: st.map cenc) [] h n0 cn sn) none = _
  rw [xnb1 hk, xlt1 h13, a2 _ _ hw, cval_enc]
  rfl
theorem cU_getE (hG : cV sv cd mi df el eb G) {i : Nat} (hc : cC cd y pc (.getfield i, nx, tg, r1, r2)) {k : Nat} (hk : k = 1 ∨ k = 3) (h98 : r1 = 98)
    (kk : cU G h0 n0 y d nx ls ((cond (Nat.beq r2 0) (6, ((k + 1 : Nat) : Int)) (0, 0)) :: st) g cn sn Q) : cU G h0 n0 y d pc ls ((6, (k : Int)) :: st) g cn sn Q := by
  refine cU_s0 hG hc (cenc (cond (Nat.beq r2 0) (6, ((k + 1 : Nat) : Int)) (0, 0)) :: st.map cenc) (fun rec h => ?_) kk (ximS.rf sv _)
  subst h98
  show cond (Nat.beq 6 6 && (Nat.beq k 1 || Nat.beq k 3) && Nat.beq 98 98) (rec y d nx (ls.map cle) ((cond (Nat.beq r2 0) (6, k + 1) (0, 0)) :: st.map cenc) [] h n0 cn sn) none = _
  have : (Nat.beq k 1 || Nat.beq k 3) = true := by rcases hk with e | e <;> subst e <;> rfl
  rw [this]
  cases Nat.beq r2 0 <;> rfl
theorem cU_put (hG : cV sv cd mi df el eb G) {i : Nat} (hc : cC cd y pc (.putfield i, nx, tg, r1, r2)) {k : Nat} {q : xcell} {w : xv} {v : cv} (hq : xg h0 k = some q) (hk : q.1 = r1) (hl : r2 < q.2.1) (hw : xg q.2.2 r2 = some w) (hv : cenc v = cpl w v.2) (hf : xfit tg (cenc v) = true)
    (kk : cU G h0 n0 y d nx ls st (cup g k r2 v.2) cn sn Q) : cU G h0 n0 y d pc ls (v :: (4, (k : Int)) :: st) g cn sn Q := by
  refine cU_st (g' := cup g k r2 v.2) hG hc (fun h hh => ?_) kk
  obtain ⟨t, a1, a2⟩ := hh k q hq
  refine ⟨_, hh.set hq hw a1 hv, ls.map cle, st.map cenc, fun rec => ?_, cls_rf ls, ximS.rf sv _⟩
  show cond (Nat.beq 4 4 && xfit tg (cenc v)) (match xg h k with
        | none => none
        | some q => cond (Nat.beq q.1 r1 && Nat.blt r2 q.2.1)
            (match xg q.2.2 r2 with
              | none => none
              | some _ => xsK q.2.2 r2 (cenc v) (fun t => xsK h k (q.1, q.2.1, t) (fun h' => rec y d nx (ls.map cle) (st.map cenc) [] h' n0 cn sn))) none) none = _
  rw [hf, a1]
  show cond (Nat.beq q.1 r1 && Nat.blt r2 q.2.1)
            (match xg t r2 with
              | none => none
              | some _ => xsK t r2 (cenc v) (fun t => xsK h k (q.1, q.2.1, t) (fun h' => rec y d nx (ls.map cle) (st.map cenc) [] h' n0 cn sn))) none = _
  rw [xnb1 hk, xlt1 hl, a2 _ _ hw]
  show xsK t r2 (cenc v) (fun t => xsK h k (q.1, q.2.1, t) (fun h' => rec y d nx (ls.map cle) (st.map cenc) [] h' n0 cn sn)) = _
  rw [xsK_eq, xsK_eq]
theorem cU_len (hG : cV sv cd mi df el eb G) (hc : cC cd y pc (.arraylength, nx, tg, r1, r2)) {k : Nat} {q : xcell} (hq : xg h0 k = some q) (h13 : 13 ≤ q.1) (hl : q.2.1 < 2147483648)
    (kk : cU G h0 n0 y d nx ls ((0, (q.2.1 : Int)) :: st) g cn sn Q) : cU G h0 n0 y d pc ls ((4, (k : Int)) :: st) g cn sn Q := by
  refine cU_st (g' := g) (ls' := ls) (st' := (0, (q.2.1 : Int)) :: st) hG hc (fun h hh => ⟨h, hh, ls.map cle, (0, q.2.1) :: st.map cenc, fun rec => ?_, cls_rf ls, ⟨Or.inl ?_, ximS.rf sv _⟩⟩) kk
  · obtain ⟨t, a1, a2⟩ := hh k q hq
    show (cond (Nat.beq 4 4) (match xg h k with
        | none => none
        | some q => cond (Nat.ble 13 q.1) (rec y d nx (ls.map cle) ((0, q.2.1) :: st.map cenc) [] h n0 cn sn) none) none) = _
    rw [a1]
    show cond (Nat.ble 13 q.1) (rec y d nx (ls.map cle) ((0, q.2.1) :: st.map cenc) [] h n0 cn sn) none = _
    rw [xle1 h13]; rfl
  · show (0, q.2.1) = (0, c32 (q.2.1 : Int))
    rw [c32_nat (by omega) (by omega)]; rfl
theorem cU_lenE (hG : cV sv cd mi df el eb G) (hc : cC cd y pc (.arraylength, nx, tg, r1, r2)) {k : Nat} (hk : k = 0 ∨ k = 2 ∨ k = 4) (hl : el k < 2147483648)
    (kk : cU G h0 n0 y d nx ls ((0, (el k : Int)) :: st) g cn sn Q) : cU G h0 n0 y d pc ls ((6, (k : Int)) :: st) g cn sn Q := by
  refine cU_s0 hG hc ((0, el k) :: st.map cenc) (fun rec h => ?_) kk ⟨Or.inl ?_, ximS.rf sv _⟩
  · show cond (Nat.beq 6 6 && (Nat.beq k 0 || (Nat.beq k 2 || Nat.beq k 4))) (rec y d nx (ls.map cle) ((0, el k) :: st.map cenc) [] h n0 cn sn) none = _
    rcases hk with e | e | e <;> subst e <;> rfl
  · show (0, el k) = (0, c32 (el k : Int))
    rw [c32_nat (by omega) (by omega)]; rfl
theorem cU_ald (hG : cV sv cd mi df el eb G) (hc : cC cd y pc (ins, nx, tg, r1, r2)) {kd : Nat} (he : ∀ (rec : xF) (lx : List (Nat × xv)) (sx : List xv) (h : xheap), xex mi df el eb rec ins nx tg r1 r2 y d pc lx sx [] h n0 cn sn = x_ald el eb rec nx y d pc lx sx [] h n0 cn sn kd)
    {k i : Nat} {q : xcell} {w : xv} (hq : xg h0 k = some q) (hk : q.1 = kd ∨ (kd = 20 ∧ 20 ≤ q.1)) (hl : i < q.2.1) (h31 : i < 2147483648) (hw : xg q.2.2 i = some w)
    (kk : cU G h0 n0 y d nx ls (cval w (g k i) :: st) g cn sn Q) : cU G h0 n0 y d pc ls ((0, (i : Int)) :: (4, (k : Int)) :: st) g cn sn Q := by
  refine cU_st (g' := g) hG hc (fun h hh => ⟨h, hh, ls.map cle, cenc (cval w (g k i)) :: st.map cenc, fun rec => ?_, cls_rf ls, ximS.rf sv _⟩) kk
  obtain ⟨t, a1, a2⟩ := hh k q hq
  have hi : c32 (i : Int) = i := by rw [c32_nat (by omega) (by omega)]; rfl
  rw [he]
  show cond (Nat.blt (c32 (i : Int)) 2147483648) (cond (Nat.beq 4 4)
        (match xg h k with
          | none => none
          | some q => cond ((Nat.beq q.1 kd || (Nat.beq kd 20 && Nat.ble 20 q.1)) && Nat.blt (c32 (i : Int)) q.2.1)
              (match xg q.2.2 (c32 (i : Int)) with
                | none => none
                | some v => rec y d nx (ls.map cle) (v :: st.map cenc) [] h n0 cn sn) none) _) none = _
  rw [hi, xlt1 h31, a1]
  have hb : (Nat.beq q.1 kd || (Nat.beq kd 20 && Nat.ble 20 q.1)) = true := by
    rcases hk with e | ⟨e1, e2⟩
    · rw [xnb1 e]; rfl
    · rw [xnb1 e1, xle1 e2]; cases Nat.beq q.1 kd <;> rfl
  show cond ((Nat.beq q.1 kd || (Nat.beq kd 20 && Nat.ble 20 q.1)) && Nat.blt i q.2.1)
              (match xg t i with
                | none => none
                | some v => rec y d nx (ls.map cle) (v :: st.map cenc) [] h n0 cn sn) none = _
  rw [hb, xlt1 hl, a2 _ _ hw, cval_enc]
  rfl
theorem cU_aldS (hG : cV sv cd mi df el eb G) (hc : cC cd y pc (.iaload, nx, tg, r1, r2)) {i : Nat} (hl : i < el 0) (h31 : i < 2147483648)
    (kk : cU G h0 n0 y d nx ls ((0, (sv i).toInt) :: st) g cn sn Q) : cU G h0 n0 y d pc ls ((0, (i : Int)) :: (6, 0) :: st) g cn sn Q := by
  refine cU_s0 hG hc ((1, i) :: st.map cenc) (fun rec h => ?_) kk ⟨xim1 i, ximS.rf sv _⟩
  have hi : c32 (i : Int) = i := by rw [c32_nat (by omega) (by omega)]; rfl
  show cond (Nat.blt (c32 (i : Int)) 2147483648) (cond (Nat.beq 6 6 && Nat.beq 0 0 && Nat.beq 13 13 && Nat.blt (c32 (i : Int)) (el 0)) (rec y d nx (ls.map cle) ((1, (c32 (i : Int))) :: st.map cenc) [] h n0 cn sn) _) none = _
  rw [hi, xlt1 h31, xlt1 hl]; rfl
theorem cU_aldT (hG : cV sv cd mi df el eb G) (hc : cC cd y pc (.baload, nx, tg, r1, r2)) {i k : Nat} (hk : k = 2 ∨ k = 4) (hl : i < el k) (h31 : i < 2147483648)
    (kk : cU G h0 n0 y d nx ls ((0, (nI ((eb k).getD i 0)).toInt) :: st) g cn sn Q) : cU G h0 n0 y d pc ls ((0, (i : Int)) :: (6, (k : Int)) :: st) g cn sn Q := by
  refine cU_s0 hG hc ((0, (eb k).getD i 0) :: st.map cenc) (fun rec h => ?_) kk ⟨xim32 _, ximS.rf sv _⟩
  have hi : c32 (i : Int) = i := by rw [c32_nat (by omega) (by omega)]; rfl
  show cond (Nat.blt (c32 (i : Int)) 2147483648) (cond (Nat.beq 6 6 && Nat.beq k 0 && Nat.beq 15 13 && Nat.blt (c32 (i : Int)) (el 0)) (rec y d nx (ls.map cle) ((1, (c32 (i : Int))) :: st.map cenc) [] h n0 cn sn)
    (cond (Nat.beq 6 6 && (Nat.beq k 2 || Nat.beq k 4) && Nat.beq 15 15 && Nat.blt (c32 (i : Int)) (el k)) (rec y d nx (ls.map cle) ((0, (eb k).getD (c32 (i : Int)) 0) :: st.map cenc) [] h n0 cn sn) none)) none = _
  rw [hi, xlt1 h31, xlt1 hl]
  rcases hk with e | e <;> subst e <;> rfl
/-- the value that is stored -/
def cstv (kd : Nat) (v : cv) : cv := cond (Nat.beq kd 15) (0, (i32 v.2).toInt8.toInt32.toInt) v
theorem cU_ast (hG : cV sv cd mi df el eb G) (hc : cC cd y pc (ins, nx, tg, r1, r2)) {kd : Nat} (he : ∀ (rec : xF) (lx : List (Nat × xv)) (sx : List xv) (h : xheap), xex mi df el eb rec ins nx tg r1 r2 y d pc lx sx [] h n0 cn sn = x_ast rec nx y d pc lx sx [] h n0 cn sn kd)
    {k i : Nat} {q : xcell} {w : xv} {v : cv} (hq : xg h0 k = some q) (hk : q.1 = kd) (hl : i < q.2.1) (h31 : i < 2147483648) (hw : xg q.2.2 i = some w) (hv : (kd = 14 ∧ v.1 = 2 ∧ w.1 = 2) ∨ ((kd = 13 ∨ kd = 15) ∧ v.1 = 0 ∧ w.1 = 0))
    (kk : cU G h0 n0 y d nx ls st (cup g k i (cstv kd v).2) cn sn Q) : cU G h0 n0 y d pc ls (v :: (0, (i : Int)) :: (4, (k : Int)) :: st) g cn sn Q := by
  have hi : c32 (i : Int) = i := by rw [c32_nat (by omega) (by omega)]; rfl
  obtain ⟨vt, vz⟩ := v
  obtain ⟨wt, wn⟩ := w
  have hsv : cenc (cstv kd (vt, vz)) = cpl (wt, wn) (cstv kd (vt, vz)).2 ∧ cond (Nat.beq kd 15) (xb8 (cenc (vt, vz))) (cenc (vt, vz)) = cenc (cstv kd (vt, vz)) ∧ xfit (cond (Nat.beq kd 14) 1 0) (cenc (vt, vz)) = true := by
    rcases hv with ⟨e1, e2, e3⟩ | ⟨e1, e2, e3⟩
    · have e2 : vt = 2 := e2
      have e3 : wt = 2 := e3
      subst e1; subst e2; subst e3
      exact ⟨rfl, rfl, rfl⟩
    · have e2 : vt = 0 := e2
      have e3 : wt = 0 := e3
      subst e2; subst e3
      rcases e1 with e1 | e1
      · subst e1; exact ⟨rfl, rfl, rfl⟩
      · subst e1
        refine ⟨rfl, ?_, rfl⟩
        show (0, xnu (nI (c32 vz)).toInt8.toInt32) = (0, c32 (i32 vz).toInt8.toInt32.toInt)
        rw [c32_xnu]; rfl
  refine cU_st (g' := cup g k i (cstv kd (vt, vz)).2) hG hc (fun h hh => ?_) kk
  obtain ⟨t, a1, a2⟩ := hh k q hq
  refine ⟨_, hh.set hq hw a1 hsv.1, ls.map cle, st.map cenc, fun rec => ?_, cls_rf ls, ximS.rf sv _⟩
  rw [he]
  show cond (Nat.blt (c32 (i : Int)) 2147483648) (cond (Nat.beq 4 4 && xfit (cond (Nat.beq kd 14) 1 0) (cenc (vt, vz)))
        (match xg h k with
          | none => none
          | some q => cond (Nat.beq q.1 kd && Nat.blt (c32 (i : Int)) q.2.1)
              (xsK q.2.2 (c32 (i : Int)) (cond (Nat.beq kd 15) (xb8 (cenc (vt, vz))) (cenc (vt, vz))) (fun t => xsK h k (q.1, q.2.1, t) (fun h' => rec y d nx (ls.map cle) (st.map cenc) [] h' n0 cn sn))) none) none) none = _
  rw [hi, xlt1 h31, hsv.2.2, a1, hsv.2.1]
  show cond (Nat.beq q.1 kd && Nat.blt i q.2.1)
              (xsK t i (cenc (cstv kd (vt, vz))) (fun t => xsK h k (q.1, q.2.1, t) (fun h' => rec y d nx (ls.map cle) (st.map cenc) [] h' n0 cn sn))) none = _
  rw [xnb1 hk, xlt1 hl]
  show xsK t i (cenc (cstv kd (vt, vz))) (fun t => xsK h k (q.1, q.2.1, t) (fun h' => rec y d nx (ls.map cle) (st.map cenc) [] h' n0 cn sn)) = _
  rw [xsK_eq, xsK_eq]
/-- a copy of m places -/
def ccp (g : cg) (ka kb sp dp m : Nat) : cg := fun k j => if k = kb ∧ dp ≤ j ∧ j < dp + m then g ka (sp + (j - dp)) else g k j
theorem cU_cpy (hG : cV sv cd mi df el eb G) (h00 : cH0 h0) {i : Nat} (hc : cC cd y (pc) (.invokestatic i, nx, tg, r1, r2)) (h8 : r2 = 8) {ka kb sp dp m : Nat} {qa qb : xcell} (hqa : xg h0 ka = some qa) (hqb : xg h0 kb = some qb) (hk : qa.1 = 13 ∨ qa.1 = 14) (hk2 : qb.1 = qa.1) (hs : sp + m ≤ qa.2.1) (hd : dp + m ≤ qb.2.1) (hw : cwds st ≤ 8) (hdp : 1 ≤ d)
    (kk : cU G h0 n0 y d nx ls st (ccp g ka kb sp dp m) cn sn Q) : cU G h0 n0 y d pc ls ((0, (m : Int)) :: (0, (dp : Int)) :: (4, (kb : Int)) :: (0, (sp : Int)) :: (4, (ka : Int)) :: st) g cn sn Q := by
  subst h8
  obtain ⟨la, wa⟩ := h00 ka qa hqa
  obtain ⟨lb, wb⟩ := h00 kb qb hqb
  have e1 : c32 (m : Int) = m := by rw [c32_nat (by omega) (by omega)]; rfl
  have e2 : c32 (dp : Int) = dp := by rw [c32_nat (by omega) (by omega)]; rfl
  have e3 : c32 (sp : Int) = sp := by rw [c32_nat (by omega) (by omega)]; rfl
  refine cU_st (g' := ccp g ka kb sp dp m) hG hc (fun h hh => ?_) kk
  obtain ⟨ta, a1, a2⟩ := hh ka qa hqa
  obtain ⟨tb, b1, b2⟩ := hh kb qb hqb
  obtain ⟨t, f1, f2, f3⟩ := xcp_fw (t1 := ta) m sp dp tb (fun j x1 x2 => by
      obtain ⟨w, w1, -⟩ := wa j (by omega)
      exact ⟨_, a2 _ _ w1⟩) (fun j x1 x2 => by
      obtain ⟨w, w1, -⟩ := wb j (by omega)
      exact ⟨_, b2 _ _ w1⟩)
  refine ⟨xw h kb (qb.1, qb.2.1, t), ?_, ls.map cle, st.map cenc, fun rec => ?_, cls_rf ls, ximS.rf sv _⟩
  · intro k' q' hq'
    by_cases e : k' = kb
    · subst e
      have e4 : q' = qb := Option.some.inj (hq'.symm.trans hqb)
      subst e4
      refine ⟨t, xg_self _ _ _ _ b1, fun j w hw => ?_⟩
      unfold ccp
      by_cases hin : dp ≤ j ∧ j < dp + m
      · rw [if_pos ⟨rfl, hin.1, hin.2⟩, f2 j hin.1 hin.2]
        obtain ⟨w2, w3, w4, w5, -⟩ := wa (sp + (j - dp)) (by omega)
        obtain ⟨w6, w7, w8, w9, -⟩ := wb j (by omega)
        have e5 : w6 = w := Option.some.inj (w7.symm.trans hw)
        subst e5
        rw [a2 _ _ w3]
        obtain ⟨t2, n2⟩ := w2
        obtain ⟨t6, n6⟩ := w6
        rcases hk with hk | hk
        · have x1 : t2 = 0 := w4 (Or.inl hk)
          have x2 : t6 = 0 := w8 (Or.inl (by rw [hk2]; exact hk))
          subst x1; subst x2; rfl
        · have x1 : t2 = 2 := w5 hk
          have x2 : t6 = 2 := w9 (by rw [hk2]; exact hk)
          subst x1; subst x2; rfl
      · rw [if_neg (fun z => hin z.2), f3 j (by omega)]
        exact b2 _ _ hw
    · obtain ⟨t2, c1, c2⟩ := hh k' q' hq'
      refine ⟨t2, by rw [xg_other _ _ _ _ e]; exact c1, fun j w hw => ?_⟩
      unfold ccp
      rw [if_neg (fun z => e z.1)]
      exact c2 _ _ hw
  · show cond (Nat.beq 4 4 && Nat.beq 4 4 && Nat.ble (xwds (st.map cenc)) 8 && Nat.ble 1 d)
            (match xg h ka with
              | none => none
              | some qa => match xg h kb with
                | none => none
                | some qb => cond ((Nat.beq qa.1 13 || Nat.beq qa.1 14) && Nat.beq qb.1 qa.1 && Nat.ble (c32 (sp : Int) + c32 (m : Int)) qa.2.1 && Nat.ble (c32 (dp : Int) + c32 (m : Int)) qb.2.1 && Nat.blt (c32 (sp : Int) + c32 (m : Int)) 2147483648 && Nat.blt (c32 (dp : Int) + c32 (m : Int)) 2147483648)
                    (xcp qa.2.2 (c32 (m : Int)) (c32 (sp : Int)) (c32 (dp : Int)) qb.2.2 (fun t => xsK h kb (qb.1, qb.2.1, t) (fun h' => rec y d nx (ls.map cle) (st.map cenc) [] h' n0 cn sn))) none) none = _
    rw [e1, e2, e3, cwds_map, xle1 hw, xle1 hdp, a1, b1]
    show cond ((Nat.beq qa.1 13 || Nat.beq qa.1 14) && Nat.beq qb.1 qa.1 && Nat.ble (sp + m) qa.2.1 && Nat.ble (dp + m) qb.2.1 && Nat.blt (sp + m) 2147483648 && Nat.blt (dp + m) 2147483648)
                    (xcp ta m sp dp tb (fun t => xsK h kb (qb.1, qb.2.1, t) (fun h' => rec y d nx (ls.map cle) (st.map cenc) [] h' n0 cn sn))) none = _
    have hb : (Nat.beq qa.1 13 || Nat.beq qa.1 14) = true := by
      rcases hk with e | e <;> rw [e] <;> rfl
    rw [hb, xnb1 hk2, xle1 hs, xle1 hd, xlt1 (show sp + m < 2147483648 by omega), xlt1 (show dp + m < 2147483648 by omega)]
    show xcp ta m sp dp tb (fun t => xsK h kb (qb.1, qb.2.1, t) (fun h' => rec y d nx (ls.map cle) (st.map cenc) [] h' n0 cn sn)) = _
    rw [f1, xsK_eq]
/-- the receiver -/
def crcv (h0 : xheap) (inst virt : Bool) (kd : Nat) (args : List cv) : Prop :=
  inst = false ∨ ∃ (v : cv) (l : List cv), args = v :: l ∧ ((∃ (k : Nat) (q : xcell), v = (4, (k : Int)) ∧ xg h0 k = some q ∧ q.1 = kd ∧ kd < 13) ∨ (virt = true ∧ (v = (6, 1) ∨ v = (6, 3)) ∧ kd = 98))
def cpsh (rv : Option cv) (st : List cv) : List cv := match rv with
  | none => st
  | some v => v :: st
theorem cU_call (hG : cV sv cd mi df el eb G) (hc : cC cd y pc (ins, nx, tg, r1, r2)) {inst virt : Bool} {d' : Nat} (he : ∀ (rec : xF) (lx : List (Nat × xv)) (sx : List xv) (h : xheap), xex mi df el eb rec ins nx tg r1 r2 y (d' + 1) pc lx sx [] h n0 cn sn = x_call mi rec nx r1 y (d' + 1) lx sx [] h n0 cn sn inst virt)
    {q u : Nat × Nat × Nat × Nat × Nat × Nat} {args rest : List cv} (hq : xg mi y = some q) (hu : xg mi r1 = some u) (hp : cpop (cond inst (u.2.2.1 + 1) u.2.2.1) [] st = some (args, rest)) (hr : crcv h0 inst virt u.2.2.2.1 args)
    (hw : cwds rest ≤ 8) (ha : cwds args ≤ u.2.2.2.2.2) (hu1 : u.1 = 0) (hu2 : u.2.1 = 0) (hcn : cn ≤ q.1) (hsn : sn ≤ q.2.1) (hinst : args = [] → inst = false) {Q1 : cg → Option cv → Prop}
    (k1 : cU G h0 n0 r1 d' 0 (carg 0 args) [] g 0 0 Q1) (k2 : ∀ (g1 : cg) (rv : Option cv), Q1 g1 rv → cU G h0 n0 y (d' + 1) nx ls (cpsh rv rest) g1 cn sn Q) : cU G h0 n0 y (d' + 1) pc ls st g cn sn Q := by
  intro h hh
  obtain ⟨h1, g1, rv1, a1, b1, c1⟩ := k1 h hh
  obtain ⟨h2, g2, rv2, a2, b2, c2⟩ := k2 g1 rv1 b1 h1 a1
  refine ⟨h2, g2, rv2, a2, b2, ?_⟩
  refine hG.1 (xtwo (r1, d', 0, (carg 0 args).map cle, [], [], h, n0, 0, 0) (y, d' + 1, nx, ls.map cle, (cpsh rv1 rest).map cenc, [], h1, n0, cn, sn) [([], h1, n0, rv1.map cenc)] [([], h2, n0, rv2.map cenc)]) (xtwo_ok c1 c2) _ _ _ _ _ _ _ _ _ _ _ ?_
  rw [hc.step, he]
  generalize hrec : (xtwo (r1, d', 0, (carg 0 args).map cle, [], [], h, n0, 0, 0) (y, d' + 1, nx, ls.map cle, (cpsh rv1 rest).map cenc, [], h1, n0, cn, sn) [([], h1, n0, rv1.map cenc)] [([], h2, n0, rv2.map cenc)]) = rec
  have r1' : rec r1 d' 0 ((carg 0 args).map cle) [] [] h n0 0 0 = some [([], h1, n0, rv1.map cenc)] := by rw [← hrec]; exact xtwo_1
  have r2' : rec y (d' + 1) nx (ls.map cle) ((cpsh rv1 rest).map cenc) [] h1 n0 cn sn = some [([], h2, n0, rv2.map cenc)] := by rw [← hrec]; exact xtwo_2 (by show d' ≠ d' + 1; omega)
  have hgo : x_go mi rec nx y (d' + 1) (ls.map cle) [] h n0 cn sn r1 (args.map cenc) (rest.map cenc) = some [([], h2, n0, rv2.map cenc)] := by
    unfold x_go
    dsimp only
    rw [hq, hu]
    dsimp only
    rw [cwds_map, cwds_map, hu1, hu2, xle1 hw, xle1 ha, xle1 (show cn + 0 ≤ q.1 from hcn), xle1 (show sn + 0 ≤ q.2.1 from hsn), carg_map, r1']
    show xfrc (cn + 0) (fun c' => xfrc (sn + 0) (fun s' => xbind (fun l => rec y (d' + 1) nx (ls.map cle) (match l.2.2.2 with
                | none => rest.map cenc
                | some w => w :: rest.map cenc) l.1 l.2.1 l.2.2.1 c' s') [([], h1, n0, rv1.map cenc)])) = _
    rw [xfrc_eq, xfrc_eq]
    show xapp (rec y (d' + 1) nx (ls.map cle) (match rv1.map cenc with
                | none => rest.map cenc
                | some w => w :: rest.map cenc) [] h1 n0 cn sn) (some []) = _
    have e : (match rv1.map cenc with
                | none => rest.map cenc
                | some w => w :: rest.map cenc) = (cpsh rv1 rest).map cenc := by cases rv1 <;> rfl
    rw [e, r2']
    rfl
  unfold x_call
  rw [hu]
  dsimp only
  have hpm := cpop_map (cond inst (u.2.2.1 + 1) u.2.2.1) [] st
  rw [hp] at hpm
  rw [show xpop (cond inst (u.2.2.1 + 1) u.2.2.1) [] (st.map cenc) = some (args.map cenc, rest.map cenc) from hpm]
  dsimp only
  cases args with
  | nil =>
    rw [hinst rfl]
    exact hgo
  | cons v l =>
    show cond (!inst || cond virt (xrcv u.2.2.2.1 h (cenc v)) (Nat.beq (cenc v).1 4)) (x_go mi rec nx y (d' + 1) (ls.map cle) [] h n0 cn sn r1 (cenc v :: l.map cenc) (rest.map cenc)) none = _
    have hcd : (!inst || cond virt (xrcv u.2.2.2.1 h (cenc v)) (Nat.beq (cenc v).1 4)) = true := by
      rcases hr with e | ⟨v', l', e1, e2⟩
      · rw [e]; rfl
      · have e3 : v = v' := (List.cons.inj e1).1
        subst e3
        rcases e2 with ⟨k, qk, e4, e5, e6, e7⟩ | ⟨e4, e5, e6⟩
        · subst e4
          obtain ⟨t, t1, -⟩ := hh k qk e5
          have e8 : xrcv u.2.2.2.1 h (cenc (4, (k : Int))) = true := by
            show (match xg h k with
              | none => false
              | some q => Nat.beq q.1 u.2.2.2.1 && Nat.blt u.2.2.2.1 13) = true
            rw [t1]
            show (Nat.beq qk.1 u.2.2.2.1 && Nat.blt u.2.2.2.1 13) = true
            rw [xnb1 e6, xlt1 e7]; rfl
          rw [e8]
          cases inst <;> cases virt <;> rfl
        · subst e4
          rw [e6]
          rcases e5 with e5 | e5 <;> subst e5 <;> cases inst <;> rfl
    rw [hcd]
    exact hgo
/-! answers -/
theorem cU_ret (hG : cV sv cd mi df el eb G) (hc : cC cd y pc (.return_, nx, tg, r1, r2)) {q : Nat × Nat × Nat × Nat × Nat × Nat} (hq : xg mi y = some q) (h0' : q.2.2.2.2.1 = 0) (k : Q g none) : cU G h0 n0 y d pc ls [] g cn sn Q := by
  intro h hh
  refine ⟨h, g, none, hh, k, ?_⟩
  refine hG.1 (fun _ _ _ _ _ _ _ _ _ _ => none) (fun _ _ _ _ _ _ _ _ _ _ _ z => by cases z) _ _ _ _ _ _ _ _ _ _ _ ?_
  rw [hc.step]
  show x_ret mi y [] [] h n0 = _
  unfold x_ret
  rw [hq]
  dsimp only
  rw [h0']
  rfl
theorem cU_iret (hG : cV sv cd mi df el eb G) (hc : cC cd y pc (.ireturn, nx, tg, r1, r2)) {q : Nat × Nat × Nat × Nat × Nat × Nat} {v : cv} (hq : xg mi y = some q) (hr : xrok q.2.2.2.2.1 (cenc v) = true) (k : Q g (some v)) : cU G h0 n0 y d pc ls [v] g cn sn Q := by
  intro h hh
  refine ⟨h, g, some v, hh, k, ?_⟩
  refine hG.1 (fun _ _ _ _ _ _ _ _ _ _ => none) (fun _ _ _ _ _ _ _ _ _ _ _ z => by cases z) _ _ _ _ _ _ _ _ _ _ _ ?_
  rw [hc.step]
  show x_iret mi y [cenc v] [] h n0 = _
  unfold x_iret
  rw [hq]
  dsimp only
  rw [hr]
  rfl
theorem cU_lret (hG : cV sv cd mi df el eb G) (hc : cC cd y pc (.lreturn, nx, tg, r1, r2)) {q : Nat × Nat × Nat × Nat × Nat × Nat} {v : cv} (hq : xg mi y = some q) (h2 : q.2.2.2.2.1 = 2) (hv : v.1 = 2) (k : Q g (some v)) : cU G h0 n0 y d pc ls [v] g cn sn Q := by
  intro h hh
  refine ⟨h, g, some v, hh, k, ?_⟩
  refine hG.1 (fun _ _ _ _ _ _ _ _ _ _ => none) (fun _ _ _ _ _ _ _ _ _ _ _ z => by cases z) _ _ _ _ _ _ _ _ _ _ _ ?_
  rw [hc.step]
  show x_lret mi y [cenc v] [] h n0 = _
  unfold x_lret
  rw [hq]
  dsimp only
  rw [h2]
  show cond (Nat.beq (xkd (cenc v).1) 1) _ _ = _
  rw [cenc_1, hv]
  rfl
/-- fewer locals -/
theorem cU_drop (hG : cV sv cd mi df el eb G) (hs : ∀ q ∈ ls', q ∈ ls) (k : cU G h0 n0 y d pc ls' st g cn sn Q) : cU G h0 n0 y d pc ls st g cn sn Q := by
  intro h hh
  obtain ⟨h2, g2, rv, a, b, c⟩ := k h hh
  refine ⟨h2, g2, rv, a, b, hG.2 _ _ _ _ _ _ _ _ _ _ _ _ _ (fun q' hq' => ?_) (ximS.rf sv _) c⟩
  obtain ⟨q, h1, h2⟩ := List.mem_map.mp hq'
  exact ⟨q', List.mem_map.mpr ⟨q, hs q h1, h2⟩, rfl, Or.inl rfl⟩
end Run2
