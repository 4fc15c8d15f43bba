/-! Runs over plain numbers: a value is a tag and an Int; the heap's numbers are a function of cell and place over fixed cells -/
abbrev cv : Type := Nat × Int
abbrev cg : Type := Nat → Nat → Int
def c32 (z : Int) : Nat := (z % 4294967296).toNat
def c64 (z : Int) : Nat := (z % 18446744073709551616).toNat
def i32 (z : Int) : Int32 := nI (c32 z)
def i64 (z : Int) : Int64 := lN (c64 z)
def cI (z : Int) : Prop := -2147483648 ≤ z ∧ z < 2147483648
def cL (z : Int) : Prop := -9223372036854775808 ≤ z ∧ z < 9223372036854775808
theorem i32_int {z : Int} (h : cI z) : (i32 z).toInt = z := by
  unfold i32
  rw [nI_int]
  unfold c32
  unfold cI at h
  split <;> omega
theorem i64_int {z : Int} (h : cL z) : (i64 z).toInt = z := by
  unfold i64
  rw [lN_int]
  unfold c64
  unfold cL at h
  split <;> omega
theorem cI_of (x : Int32) : cI x.toInt := i32_lo x
theorem cL_of (x : Int64) : cL x.toInt := i64_lo x
theorem i32_of (x : Int32) : i32 x.toInt = x := Int32.toInt_inj.mp (i32_int (cI_of x))
theorem i64_of (x : Int64) : i64 x.toInt = x := Int64.toInt_inj.mp (i64_int (cL_of x))
def cenc (v : cv) : xv := match v.1 with
  | 0 => (0, c32 v.2)
  | 2 => (2, c64 v.2)
  | t => (t, v.2.toNat)
theorem cenc_1 : ∀ v : cv, (cenc v).1 = v.1
  | (0, _) => rfl
  | (1, _) => rfl
  | (2, _) => rfl
  | (_ + 3, _) => rfl
theorem cenc_4 (k : Nat) : cenc (4, (k : Int)) = (4, k) := rfl
theorem cenc_6 (k : Nat) : cenc (6, (k : Int)) = (6, k) := rfl
def cle (q : Nat × cv) : Nat × xv := (q.1, cenc q.2)
/-- what may stand for what -/
def xim (sv : Nat → Int32) (w w' : xv) : Prop := w = w' ∨ (w.1 = 1 ∧ w' = (0, xnu (sv w.2))) ∨ (w.1 = 0 ∧ w'.1 = 0 ∧ nI w.2 = nI w'.2) ∨ (w.1 = 2 ∧ w'.1 = 2 ∧ lN w.2 = lN w'.2)
def ximS (sv : Nat → Int32) : List xv → List xv → Prop
  | [], [] => True
  | w :: l, v :: m => xim sv w v ∧ ximS sv l m
  | _, _ => False
theorem ximS.rf (sv : Nat → Int32) : ∀ l, ximS sv l l
  | [] => trivial
  | _ :: l => ⟨Or.inl rfl, ximS.rf sv l⟩
theorem xim_ok {sv : Nat → Int32} {ex : Nat → Nat} {as : List Nat} {w w' : xv} {v : Value} (h : xim sv w w') (hv : xden sv ex as w v) : xden sv ex as w' v := by
  obtain ⟨t, k⟩ := w
  obtain ⟨t', k'⟩ := w'
  rcases h with h | ⟨h1, h2⟩ | ⟨h1, h2, h3⟩ | ⟨h1, h2, h3⟩
  · rw [← h]; exact hv
  · have h1 : t = 1 := h1
    subst h1
    rw [h2]
    show v = .int (nI (xnu _))
    rw [nI_xnu]; exact hv
  · have h1 : t = 0 := h1
    have h2 : t' = 0 := h2
    subst h1; subst h2
    have hv : v = .int (nI k) := hv
    show v = .int (nI k')
    rw [hv]; exact congrArg _ h3
  · have h1 : t = 2 := h1
    have h2 : t' = 2 := h2
    subst h1; subst h2
    have hv : v = .long (lN k) := hv
    show v = .long (lN k')
    rw [hv]; exact congrArg _ h3
abbrev xG0 : Type := Nat → Nat → Nat → List (Nat × xv) → List xv → xbox → xheap → Nat → Nat → Nat → List xleaf → Prop
def cG1 (cd : xcd) (mi : xmi) (df : xdf) (el : Nat → Nat) (eb : Nat → List Nat) (G : xG0) : Prop :=
  ∀ rec : xF, (∀ (y d pc : Nat) (ls : List (Nat × xv)) (st : List xv) (bx : xbox) (h : xheap) (n c s : Nat) (L : List xleaf), rec y d pc ls st bx h n c s = some L → G y d pc ls st bx h n c s L) → ∀ (y d pc : Nat) (ls : List (Nat × xv)) (st : List xv) (bx : xbox) (h : xheap) (n c s : Nat) (L : List xleaf), xstep cd mi df el eb rec y d pc ls st bx h n c s = some L → G y d pc ls st bx h n c s L
def cG2 (sv : Nat → Int32) (G : xG0) : Prop :=
  ∀ (y d pc : Nat) (ls ls' : List (Nat × xv)) (st st' : List xv) (bx : xbox) (h : xheap) (n c s : Nat) (L : List xleaf), (∀ q' ∈ ls', ∃ q ∈ ls, q.1 = q'.1 ∧ xim sv q.2 q'.2) → ximS sv st st' → G y d pc ls' st' bx h n c s L → G y d pc ls st bx h n c s L
section GoG
variable {l : Launch} {D : va_G} {cl : List vw_C} {A : Nat → Prop} {sv : Nat → Int32} {ex : Nat → Nat} {el : Nat → Nat} {eb : Nat → List Nat} {nest : List (String × Nat × MethodName × String)} {txt : Nat → String × Nat × String} {ovr : List String}
variable {cd : xcd} {mi : xmi} {df : xdf} {bys : Nat → ByteArray} {nm : Nat → MethodName} {rtt : Nat → Option FieldType} {gw : List Cond}
theorem xGo_1 (hgw : xGood gw) (hOK : xOK cl nest txt ovr cd mi df bys nm rtt gw) : cG1 cd mi df el eb (xGo l D cl A sv ex el eb nest txt ovr mi bys nm rtt gw) :=
  fun _ hrec => xstep_snd hgw hOK hrec
theorem ximS_ok {as : List Nat} : ∀ {a a' : List xv} {b : List Value}, ximS sv a a' → xstR sv ex as a b → xstR sv ex as a' b
  | [], [], [], _, _ => trivial
  | [], [], _ :: _, _, h => h.elim
  | [], _ :: _, _, h, _ => h.elim
  | _ :: _, [], _, h, _ => h.elim
  | _ :: _, _ :: _, [], _, h => h.elim
  | w :: l, w' :: l', v :: m, h, k => ⟨xim_ok h.1 k.1, ximS_ok h.2 k.2⟩
theorem xlsR_mem {as : List Nat} : ∀ {a : List (Nat × xv)} {b : List (Nat × Value)}, xlsR sv ex as a b → ∀ q ∈ a, ∃ v, (q.1, v) ∈ b ∧ xden sv ex as q.2 v
  | [], _, _, q, hq => absurd hq (List.not_mem_nil)
  | _ :: _, [], h, _, _ => h.elim
  | p :: l, r :: m, h, q, hq => by
    rcases List.mem_cons.mp hq with e | hq
    · subst e
      refine ⟨r.2, ?_, h.2.1⟩
      have : r = (q.1, r.2) := by rw [← h.1]
      rw [← this]
      exact List.mem_cons_self
    · obtain ⟨v, h1, h2⟩ := xlsR_mem h.2.2 q hq
      exact ⟨v, List.mem_cons_of_mem _ h1, h2⟩
theorem xlsR_sub {as : List Nat} {b : List (Nat × Value)} : ∀ {a : List (Nat × xv)}, (∀ q ∈ a, ∃ v, (q.1, v) ∈ b ∧ xden sv ex as q.2 v) → ∃ b', (∀ r ∈ b', r ∈ b) ∧ xlsR sv ex as a b'
  | [], _ => ⟨[], fun _ h => absurd h (List.not_mem_nil), trivial⟩
  | q :: l, h => by
    obtain ⟨v, h1, h2⟩ := h q List.mem_cons_self
    obtain ⟨b', h3, h4⟩ := xlsR_sub (fun p hp => h p (List.mem_cons_of_mem _ hp))
    refine ⟨(q.1, v) :: b', fun r hr => ?_, rfl, h2, h4⟩
    rcases List.mem_cons.mp hr with e | hr
    · rw [e]; exact h1
    · exact h3 r hr
theorem xGo_2 : cG2 sv (xGo l D cl A sv ex el eb nest txt ovr mi bys nm rtt gw) := by
  intro y d pc ls ls' st st' bx h n c s L hls hst hG p e R s0 m args below meth co Q as ws H locs la stv hC hc hs hw hf hr
  obtain ⟨⟨lv, h1, h2⟩, h3⟩ := hf
  obtain ⟨lv', h4, h5⟩ := xlsR_sub (sv := sv) (ex := ex) (as := as) (b := lv) (a := ls') (fun q' hq' => by
    obtain ⟨q, g1, g2, g3⟩ := hls q' hq'
    obtain ⟨v, g4, g5⟩ := xlsR_mem h2 q g1
    exact ⟨v, by rw [← g2]; exact g4, xim_ok g3 g5⟩)
  exact hG p e R s0 m args below meth co Q as ws H locs la stv hC hc hs hw ⟨⟨lv', ⟨h1.1, h1.2.1, fun q hq => h1.2.2 q (h4 q hq)⟩, h5⟩, ximS_ok hst h3⟩ hr
end GoG
/-- a run that knows one or two states -/
noncomputable def xtwo (S T : Nat × Nat × Nat × List (Nat × xv) × List xv × xbox × xheap × Nat × Nat × Nat) (L M : List xleaf) : xF := fun y d pc ls st bx h n c s =>
  @ite _ ((y, d, pc, ls, st, bx, h, n, c, s) = S) (Classical.propDecidable _) (some L) (@ite _ ((y, d, pc, ls, st, bx, h, n, c, s) = T) (Classical.propDecidable _) (some M) none)
theorem xtwo_1 {y d pc : Nat} {ls : List (Nat × xv)} {st : List xv} {bx : xbox} {h : xheap} {n c s : Nat} {T : Nat × Nat × Nat × List (Nat × xv) × List xv × xbox × xheap × Nat × Nat × Nat} {L M : List xleaf} : xtwo (y, d, pc, ls, st, bx, h, n, c, s) T L M y d pc ls st bx h n c s = some L := by
  unfold xtwo; rw [if_pos rfl]
theorem xtwo_2 {y d pc : Nat} {ls : List (Nat × xv)} {st : List xv} {bx : xbox} {h : xheap} {n c s : Nat} {S : Nat × Nat × Nat × List (Nat × xv) × List xv × xbox × xheap × Nat × Nat × Nat} {L M : List xleaf} (hd : S.2.1 ≠ d) : xtwo S (y, d, pc, ls, st, bx, h, n, c, s) L M y d pc ls st bx h n c s = some M := by
  unfold xtwo
  rw [if_neg (fun e => hd (by rw [← e])), if_pos rfl]
theorem xtwo_ok {G : xG0} {y d pc y' d' pc' : Nat} {ls ls' : List (Nat × xv)} {st st' : List xv} {bx bx' : xbox} {h h' : xheap} {n c s n' c' s' : Nat} {L M : List xleaf} (h1 : G y d pc ls st bx h n c s L) (h2 : G y' d' pc' ls' st' bx' h' n' c' s' M) :
    ∀ (y1 d1 pc1 : Nat) (ls1 : List (Nat × xv)) (st1 : List xv) (bx1 : xbox) (hh1 : xheap) (n1 c1 s1 : Nat) (L1 : List xleaf), xtwo (y, d, pc, ls, st, bx, h, n, c, s) (y', d', pc', ls', st', bx', h', n', c', s') L M y1 d1 pc1 ls1 st1 bx1 hh1 n1 c1 s1 = some L1 → G y1 d1 pc1 ls1 st1 bx1 hh1 n1 c1 s1 L1 := by
  intro y1 d1 pc1 ls1 st1 bx1 hh1 n1 c1 s1 L1 hx
  unfold xtwo at hx
  split at hx
  · rename_i e
    cases e
    cases hx
    exact h1
  · split at hx
    · rename_i e
      cases e
      cases hx
      exact h2
    · cases hx
