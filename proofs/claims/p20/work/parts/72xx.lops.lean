/-! what the one who lives does, on both sides -/
theorem qdi_n {a b : Nat} (ha : a < 2147483648) (h0 : 0 < b) (hb : b < 2147483648) : qdi (a : Int) (b : Int) = ((a / b : Nat) : Int) := by
  have hq : a / b ≤ a := Nat.div_le_self a b
  unfold qdi
  rw [i32_div ⟨by omega, by omega⟩ ⟨by omega, by omega⟩, Int.tdiv_eq_ediv_of_nonneg (by omega), show ((a : Int) / (b : Int)) = ((a / b : Nat) : Int) from rfl]
  generalize a / b = q at hq ⊢
  exact i32_int ⟨by omega, by omega⟩
theorem qre_n {a b : Nat} (ha : a < 2147483648) (h0 : 0 < b) (hb : b < 2147483648) : qre (a : Int) (b : Int) = ((a % b : Nat) : Int) := by
  unfold qre
  rw [i32_rem ⟨by omega, by omega⟩ ⟨by omega, by omega⟩ (by omega), Int.tmod_eq_emod_of_nonneg (by omega)]
  rfl
/-- where the cells below 45 are the same -/
def CB (c c2 : cg) : Prop := ∀ k j : Nat, k < 45 → c2 k j = c k j
section Cb
variable {c c2 : cg} {N W P Q T k : Nat}
theorem CB.o (h : CB c c2) (hk : k < 16) : ohw c2 k = ohw c k ∧ ohp c2 k = ohp c k ∧ ohq c2 k = ohq c k ∧ oht c2 k = oht c k ∧ ohs c2 k = ohs c k := by
  unfold ohw ohp ohq oht ohs
  rw [h (29 + k) 0 (by omega), h (29 + k) 1 (by omega), h (29 + k) 2 (by omega), h (29 + k) 3 (by omega), h (29 + k) 5 (by omega)]
  exact ⟨rfl, rfl, rfl, rfl, rfl⟩
theorem CB.isz (h : CB c c2) (hk : k < 16) : isof c2 P T k = isof c P T k := by
  obtain ⟨o0, o1, o2, o3, o5⟩ := h.o hk
  unfold isof
  rw [o1, o3, o5]
theorem CB.spz (h : CB c c2) (hk : k < 16) : spk c2 W P T k = spk c W P T k := by
  obtain ⟨o0, o1, o2, o3, o5⟩ := h.o hk
  unfold spk
  rw [h.isz hk, o0]
theorem CB.otz (h : CB c c2) (hk : k < 16) : oth c2 W P T k = oth c W P T k := by
  obtain ⟨o0, o1, o2, o3, o5⟩ := h.o hk
  unfold oth
  rw [h.isz hk, o0]
theorem CB.akz (h : CB c c2) (hk : k < 16) : alkx c2 W P Q T k = alkx c W P Q T k := by
  obtain ⟨o0, o1, o2, o3, o5⟩ := h.o hk
  unfold alkx
  rw [h.isz hk, o0, o2]
theorem CB.ecz (h : CB c c2) (hk : k < 16) (hW : W ≤ 5) : ech c2 W P Q T k = ech c W P Q T k := by
  obtain ⟨o0, o1, o2, o3, o5⟩ := h.o hk
  unfold ech
  rw [h.isz hk, o0, o2, h (17 + 2 * W) 4 (by omega)]
theorem CB.gnz (h : CB c c2) (hk : k < 16) : gns c2 W P Q T k = gns c W P Q T k := by
  obtain ⟨o0, o1, o2, o3, o5⟩ := h.o hk
  unfold gns
  rw [h.isz hk, o0, o2]
theorem CB.bkz {u : Int} (h : CB c c2) (hk : k < 16) : bkd c2 P Q T u k = bkd c P Q T u k := by
  obtain ⟨o0, o1, o2, o3, o5⟩ := h.o hk
  unfold bkd says
  rw [h.isz hk, o0, o2]
theorem CB.trz {p t : Nat} (h : CB c c2) (hp : p ≤ 5) : trh c2 p t = trh c p t := h (18 + 2 * p) t (by omega)
theorem CB.lfz (h : CB c c2) (hk : k < 16) (hp : ohp c k ≤ 5) (hW : W ≤ 5) : lfr c2 W P k = lfr c W P k := by
  obtain ⟨o0, o1, o2, o3, o5⟩ := h.o hk
  unfold lfr
  rw [o5, o1, o3, o2, o0, h.trz hp, h (17 + 2 * W) 5 (by omega)]
theorem CB.dbz (h : CB c c2) (hk : k ≤ 16) : dbk c2 P k ↔ dbk c P k := by
  constructor
  · intro ⟨X, i, j, i1, j1, i2, j2, hn⟩
    exact ⟨X, i, j, i1, j1, (h.isz (k := i) (by omega)).symm.trans i2, (h.isz (k := j) (by omega)).symm.trans j2, fun e => hn (by rw [(h.o (k := i) (by omega)).2.2.1, (h.o (k := j) (by omega)).2.2.1]; exact e)⟩
  · intro ⟨X, i, j, i1, j1, i2, j2, hn⟩
    exact ⟨X, i, j, i1, j1, (h.isz (k := i) (by omega)).trans i2, (h.isz (k := j) (by omega)).trans j2, fun e => hn (by rw [← (h.o (k := i) (by omega)).2.2.1, ← (h.o (k := j) (by omega)).2.2.1]; exact e)⟩
theorem CB.pmz (h : CB c c2) : ∀ k : Nat, k ≤ 16 → pmk c2 P T k = pmk c P T k
  | 0, _ => rfl
  | k + 1, hk => by
    show cond (isof c2 P T k) (pmk c2 P T k ||| 2 ^ ohq c2 k) (pmk c2 P T k) = cond (isof c P T k) (pmk c P T k ||| 2 ^ ohq c k) (pmk c P T k)
    rw [h.isz (k := k) (by omega), CB.pmz h k (by omega), (h.o (k := k) (by omega)).2.2.1]
theorem CB.dhz (h : CB c c2) (hN : N ≤ 16) : dbh c2 P N T = dbh c P N T := by
  unfold dbh
  rw [h.pmz N hN]
theorem CB.fez (h : CB c c2) (hN : N ≤ 16) (hW : W ≤ 5) (hP : P ≤ 5) : fees c2 N W P Q T = fees c N W P Q T := by
  unfold fees rate
  rw [h.trz hP, h (17 + 2 * W) 3 (by omega), h (17 + 2 * W) 4 (by omega), h 3 5 (by omega), h 3 6 (by omega), cnt_congr (f := gns c2 W P Q T) (f' := gns c W P Q T) N (fun i hi => h.gnz (by omega)), cnt_congr (f := bkd c2 P Q T (c (17 + 2 * W) 4)) (f' := bkd c P Q T (c (17 + 2 * W) 4)) N (fun i hi => h.bkz (by omega))]
theorem CB.whz (h : CB c c2) (hV : OHV c N) (hN : N ≤ 16) (hW : W ≤ 5) (hP : P ≤ 5) : whys c2 N W P Q T = whys c N W P Q T := by
  unfold whys
  rw [cnt_congr (f := spk c2 W P T) (f' := spk c W P T) N (fun i hi => h.spz (by omega)), h.trz hP, cnt_congr (f := dbh c2 P N) (f' := dbh c P N) 8 (fun i hi => h.dhz hN), cnt_congr (f := lfr c2 W P) (f' := lfr c W P) N (fun i hi => h.lfz (by omega) (hV i hi).2.2.1 hW), h (17 + 2 * W) 1 (by omega), h.fez hN hW hP]
theorem CB.ohv (h : CB c c2) (hV : OHV c N) (hN : N ≤ 16) : OHV c2 N := fun k hk => by
  obtain ⟨o0, o1, o2, o3, o5⟩ := h.o (k := k) (by omega)
  rw [o0, o1, o2, o3, o5, h (29 + k) 4 (by omega), h (29 + k) 6 (by omega)]
  obtain ⟨v1, v2⟩ := hV k hk
  exact ⟨v1.fr (fun j => h _ j (by omega)), v2⟩
theorem CB.wok (h : CB c c2) (hW : W ≤ 5) (hw : WOK c W) : WOK c2 W := by
  unfold WOK at *
  rw [h (17 + 2 * W) 3 (by omega), h (17 + 2 * W) 4 (by omega), h (17 + 2 * W) 1 (by omega)]
  exact hw
theorem ASDl.frz {g g2 : cg} (hA : ASDl c g N W P) (hb : CB c c2) (hV : OHV c N) (hN : N ≤ 16) (hW : W ≤ 5) (e1 : AFR 110 c2 g2) (e2 : ∀ k j : Nat, 110 ≤ k → k ≤ 112 → g2 k j = g k j) : ASDl c2 g2 N W P := by
  obtain ⟨⟨-, ⟨a2, a3⟩, ⟨m, b1, b2, b3⟩, a4, a5, ⟨e, d1, d2, d3⟩, a7⟩, a8⟩ := hA
  have hsp : ∀ T : Nat, cnt (spk c2 W P T) N = cnt (spk c W P T) N := fun T => cnt_congr N (fun i hi => hb.spz (by omega))
  have hot : ∀ T : Nat, cnt (oth c2 W P T) N = cnt (oth c W P T) N := fun T => cnt_congr N (fun i hi => hb.otz (by omega))
  have hak : ∀ Q T : Nat, cnt (alkx c2 W P Q T) N = cnt (alkx c W P Q T) N := fun Q T => cnt_congr N (fun i hi => hb.akz (by omega))
  have hec : ∀ Q T : Nat, cnt (ech c2 W P Q T) N = cnt (ech c W P Q T) N := fun Q T => cnt_congr N (fun i hi => hb.ecz (by omega) hW)
  have hlf : cnt (lfr c2 W P) N = cnt (lfr c W P) N := cnt_congr N (fun i hi => hb.lfz (by omega) (hV i hi).2.2.1 hW)
  refine ⟨⟨e1, ⟨(e2 110 1 (by decide) (by decide)).trans a2, (e2 110 2 (by decide) (by decide)).trans a3⟩, ⟨m, (e2 110 3 (by decide) (by decide)).trans b1, b2, fun T hT => by rw [hsp]; exact b3 T hT⟩, fun T hT => by rw [hot]; exact (e2 111 T (by decide) (by decide)).trans (a4 T hT), fun Q hQ T hT => by rw [hak]; exact (e2 112 _ (by decide) (by decide)).trans (a5 Q hQ T hT), ⟨e, (e2 110 8 (by decide) (by decide)).trans d1, d2, fun Q hQ T hT => by rw [hec]; exact d3 Q hQ T hT⟩, ?_⟩, ?_⟩
  · rw [e2 110 4 (by decide) (by decide), hb.dbz hN]; exact a7
  · rw [e2 110 5 (by decide) (by decide), hlf]; exact a8
end Cb
section Lop
variable {sv : Nat → Int32} {L : Nat} {n n' : Nat} {lf lf' : dlf} {c d c' d' ca g : cg} {o o' : cg × Option cv} {np nq N W P Q T k : Nat} {r r' : Int}
theorem hind_at (hA : ASDl c ca N W P) (hb : CB c g) (he : ∀ k j : Nat, 110 ≤ k → k ≤ 112 → g k j = ca k j) (hV : OHV c N) (hw : WOK c W) (hW : W ≤ 5) (hP : P ≤ 5) (hQ : Q ≤ 4) (hT : T ≤ 7) (hN16 : N ≤ 16) (hN : c 3 9 = (N : Int)) (h : zr sv L n 94 0 lf [] g o) (h0 : lf 0 = (4, 110)) (h1 : lf 1 = (0, (Q : Int))) (h2 : lf 2 = (0, (T : Int))) : o = (g, some (0, whys c N W P Q T)) := by
  have hb2 : CB c (fun k j => if 110 ≤ k ∧ k ≤ 112 then c k j else g k j) := fun k j hk => by
    show (if 110 ≤ k ∧ k ≤ 112 then c k j else g k j) = c k j
    rw [if_neg (by omega)]
    exact hb k j hk
  have hA2 : ASDl (fun k j => if 110 ≤ k ∧ k ≤ 112 then c k j else g k j) g N W P := hA.frz hb2 hV hN16 hW (fun i j i1 i2 i3 => by
    show g i j = (if 110 ≤ i ∧ i ≤ 112 then c i j else g i j)
    rw [if_neg (by omega)]) he
  have hq := hind_okl hA2 (hb2.ohv hV hN16) (hb2.wok hW hw) hW hP hQ hT hN16 ((hb2 3 9 (by decide)).trans hN) h h0 h1 h2
  rw [hb2.whz hV hN16 hW hP] at hq
  exact hq
theorem price_at (hA : ASDl c ca N W P) (hb : CB c g) (he : ∀ k j : Nat, 110 ≤ k → k ≤ 112 → g k j = ca k j) (hV : OHV c N) (hw : WOK c W) (hW : W ≤ 5) (hP : P ≤ 5) (hQ : Q ≤ 4) (hT : T ≤ 7) (hN16 : N ≤ 16) (h : zr sv L n 96 0 lf [] g o) (h0 : lf 0 = (4, 110)) (h1 : lf 1 = (0, (Q : Int))) (h2 : lf 2 = (0, (T : Int))) : o = (g, some (0, fees c N W P Q T)) := by
  have hb2 : CB c (fun k j => if 110 ≤ k ∧ k ≤ 112 then c k j else g k j) := fun k j hk => by
    show (if 110 ≤ k ∧ k ≤ 112 then c k j else g k j) = c k j
    rw [if_neg (by omega)]
    exact hb k j hk
  have hA2 : ASDl (fun k j => if 110 ≤ k ∧ k ≤ 112 then c k j else g k j) g N W P := hA.frz hb2 hV hN16 hW (fun i j i1 i2 i3 => by
    show g i j = (if 110 ≤ i ∧ i ≤ 112 then c i j else g i j)
    rw [if_neg (by omega)]) he
  have hq := price_okl hA2 (hb2.ohv hV hN16) (hb2.wok hW hw) hW hP hQ hT hN16 h h0 h1 h2
  rw [hb2.fez hN16 hW hP] at hq
  exact hq
/-- the OATH that nothing hinders, entered by both -/
theorem ent_pr (hC : CT c d np nq N) (hG : GD c np nq N) (hb : CB c ca) (hW : W < nq) (hP : P < nq) (hQ : Q < np) (hT : T < 8) (q : whys c N W P Q T = 0) (h : zr sv L n 103 0 lf [] ca o) (h0 : lf 0 = (4, 3)) (h1 : lf 1 = (0, (W : Int))) (h2 : lf 2 = (0, (P : Int))) (h3 : lf 3 = (0, (Q : Int))) (h4 : lf 4 = (0, (T : Int))) (h5 : lf 5 = (0, fees c N W P Q T)) (h' : zr sv L n' 228 0 lf' [] d o') (h0' : lf' 0 = (4, 253)) (h1' : lf' 1 = (0, (W : Int))) (h2' : lf' 2 = (0, (P : Int))) (h3' : lf' 3 = (0, (Q : Int))) (h4' : lf' 4 = (0, (T : Int))) : ∃ cb db, N ≤ 15 ∧ o = (cb, some (0, (N : Int))) ∧ o' = (db, none) ∧ CT cb db np nq (N + 1) ∧ GD cb np nq (N + 1) ∧ (∀ k j : Nat, ¬ (k = 3 ∧ 8 ≤ j ∧ j ≤ 9) → (k < 17 ∨ 45 ≤ k) → cb k j = ca k j) ∧ (∀ i : Nat, i < 6 → cb (17 + 2 * i) 0 = c (17 + 2 * i) 0) ∧ FRCm d db := by
  obtain ⟨⟨b5, b6, hN⟩, ⟨c0, c3, c9⟩, -⟩ := id hC
  have hV := hG.hv b5 b6
  obtain ⟨n16, nsp, nfe⟩ := whys_0 q
  have sc : SCL c ca np nq N := SCL.of b5 b6 hN (fun k j k1 k2 => hb k j k2)
  have hGa := hG.mv b5 b6 sc
  have hCa := hC.mv sc (d' := d) (fun j _ => rfl)
  obtain ⟨cb, o6, hE⟩ := enter_ok hGa b5 b6 (by omega) ((hb 3 9 (by decide)).trans c9) hW hP hQ hT h h0 h1 h2 h3 h4 h5
  obtain ⟨db, o7, hM⟩ := swears_ok hC hG (by omega) hW hP hQ hT h' h0' h1' h2' h3' h4'
  have eg : ∀ i : Nat, i < N → voy ca N W P Q T i = voy c N W P Q T i := fun i hi => by
    obtain ⟨o0, o1, o2, o3, o5⟩ := hb.o (k := i) (by omega)
    unfold voy gsx msx
    rw [hb.gnz (by omega), hb.trz (by omega), hb (17 + 2 * W) 2 (by omega), o1, o2, o3, o5, hb.trz (hV i hi).2.2.1, hb 3 7 (by omega), hb 4 (ohq c i) (by omega), hb 4 Q (by omega)]
  have em : von ca N P Q T = von c N P Q T := by
    unfold von
    rw [cnt_congr (f := msx ca P Q T) (f' := msx c P Q T) N (fun i hi => by
      obtain ⟨o0, o1, o2, o3, o5⟩ := hb.o (k := i) (by omega)
      unfold msx
      rw [hb.trz (by omega), o1, o2, o3, o5, hb.trz (hV i hi).2.2.1, hb 3 7 (by omega), hb 4 (ohq c i) (by omega), hb 4 Q (by omega)])]
  have hE' : EC ca cb N W P Q T (fees c N W P Q T) (voy c N W P Q T) (von c N P Q T) := by
    obtain ⟨i1, i2, i3, i4, i5, i6, i7, i8, i9, ia, ib⟩ := hE
    refine ⟨i1, i2, i3, fun i hi => ⟨(i4 i hi).1, by rw [(i4 i hi).2, eg i hi]⟩, i5, i6, i7, i8, i9, ?_, ib⟩
    rw [← em]
    exact ia
  have fr := fees_rng (P := P) (Q := Q) (T := T) (W := W) hG hN
  refine ⟨cb, db, by omega, o6, o7, ce hCa (by omega) hW hE' hM, gde b5 b6 hGa (by omega) hW hP hQ hT ⟨fr.1, fr.2, by rw [hb _ _ (by omega)]; exact nfe⟩ (fun k hk => (hb.spz (by omega)).trans (nsp k hk)) hE', fun k j i1 i2 => hE'.1 k j i1 i2, fun i hi => ?_, fun k j i1 => hM.1 k j i1, fun j hj => hM.2.1 j (by omega) (by omega) (by omega) (by omega) (fun i hi => by omega)⟩
  rw [(hE'.2.1 i hi).1 0 (by omega)]
  exact hb _ _ (by omega)
end Lop
/-! what is left as it was while one lives -/
def LFc (c c' : cg) : Prop := (∀ k j : Nat, ¬ (k = 3 ∧ 8 ≤ j ∧ j ≤ 9) → k < 17 → c' k j = c k j) ∧ (∀ i : Nat, i < 6 → c' (17 + 2 * i) 0 = c (17 + 2 * i) 0) ∧ (c' 107 7 = c 107 7 ∧ c' 107 11 = c 107 11) ∧ (∀ j : Nat, c' 108 j = c 108 j) ∧ ∀ k j : Nat, 127 ≤ k → c' k j = c k j
def LFd (d d' : cg) : Prop := (∀ k j : Nat, k ≠ 254 → k ≠ 268 → ¬ (k = 253 ∧ j = 33) → d' k j = d k j) ∧ (∀ j : Nat, (j = 7 ∨ 260 ≤ j) → d' 254 j = d 254 j) ∧ d' 268 4 = d 268 4
def DRW (c d : cg) : Prop := ∃ dr : Nat, dr ≤ 65535 ∧ c 107 5 = (dr : Int) ∧ d 253 33 = (dr : Int)
def LST (c d c' d' : cg) (np nq : Nat) : Prop := (∃ N : Nat, CT c' d' np nq N ∧ GD c' np nq N) ∧ LFc c c' ∧ LFd d d' ∧ DRW c' d'
theorem LFd.ofz {d d' : cg} (h : FRCm d d') : LFd d d' := ⟨fun k j h1 _ _ => h.1 k j h1, h.2, h.1 268 4 (by decide)⟩
section Lo2
variable {sv : Nat → Int32} {L : Nat} {n n' : Nat} {lf lf' : dlf} {c d c' d' ca g : cg} {o o' : cg × Option cv} {np nq N W P Q T k : Nat} {r r' : Int}
/-- behind the OATH entered: the class's note, the reference's sums -/
theorem note_pr {cb db : cg} (hN15 : N ≤ 15) (hC : CT cb db np nq (N + 1)) (hG : GD cb np nq (N + 1)) (h : zr sv L n 157 0 lf [] cb (c', none)) (h0 : lf 0 = (4, 107)) (h1 : lf 1 = (0, (N : Int))) {x y : Int} (hd : d' = cup (cup db 268 1 x) 268 3 y) : (CT c' d' np nq (N + 1) ∧ GD c' np nq (N + 1)) ∧ (∀ k j : Nat, ¬ (29 ≤ k ∧ k < 45 ∧ j = 7) → ¬ (k = 107 ∧ 9 ≤ j ∧ j ≤ 10) → c' k j = cb k j) ∧ ∀ k j : Nat, ¬ (k = 268 ∧ (j = 1 ∨ j = 3)) → d' k j = db k j := by
  obtain ⟨⟨b5, b6, hN⟩, ⟨c0, c3, c9⟩, -⟩ := id hC
  rcases t_note hN15 hN c9 h h0 h1 with ⟨z, -⟩ | ⟨-, e⟩
  · exfalso; omega
  · have e := oV e
    have F : ∀ k j : Nat, ¬ (29 ≤ k ∧ k < 45 ∧ j = 7) → ¬ (k = 107 ∧ 9 ≤ j ∧ j ≤ 10) → c' k j = cb k j := fun k j i1 i2 => by rw [e, cup_ne (by omega), cup_ne (by omega), cup_ne (by omega)]
    have F' : ∀ k j : Nat, ¬ (k = 268 ∧ (j = 1 ∨ j = 3)) → d' k j = db k j := fun k j i1 => by rw [hd, cup_ne (by omega), cup_ne (by omega)]
    have sc : SCL cb c' np nq (N + 1) := ⟨fun j _ => F 3 j (by omega) (by omega), fun i _ => F 4 i (by omega) (by omega), fun i hi => ⟨fun j _ _ => F _ j (by omega) (by omega), fun t _ => F _ t (by omega) (by omega)⟩, fun k hk j hj => F _ j (by omega) (by omega)⟩
    exact ⟨⟨hC.mv sc (fun j _ => F' 254 j (by omega)), hG.mv b5 b6 sc⟩, F, F'⟩
/-- swearsBy() as far as the sums -/
theorem swb_pr {db : cg} {a : Int} (hd2 : db 254 2 = ((N + 1 : Nat) : Int)) (hN15 : N ≤ 15) {X Y : Int} (h : 0 ≤ w32 ((w32 (99 + (w32 (8 * (w32 ((db 254 2) - 1)))))) + 4) → w32 ((w32 (99 + (w32 (8 * (w32 ((db 254 2) - 1)))))) + 4) < 5208 → o = (cup (cup db 268 1 X) 268 3 (w32 (Y + (db 254 ((w32 ((w32 (99 + (w32 (8 * (w32 ((db 254 2) - 1)))))) + 4)).toNat)))), some (0, a))) : ∃ y : Int, o = (cup (cup db 268 1 X) 268 3 y, some (0, a)) := by
  have w1 : w32 (((N + 1 : Nat) : Int) - 1) = (N : Int) := by rw [w32_id (by omega) (by omega)]; omega
  have w2 : w32 (8 * (N : Int)) = ((8 * N : Nat) : Int) := by rw [w32_id (by omega) (by omega)]; omega
  have w3 : w32 (99 + ((8 * N : Nat) : Int)) = ((99 + 8 * N : Nat) : Int) := by rw [w32_id (by omega) (by omega)]; omega
  have w4 : w32 (((99 + 8 * N : Nat) : Int) + 4) = ((103 + 8 * N : Nat) : Int) := by rw [w32_id (by omega) (by omega)]; omega
  rw [hd2, w1, w2, w3, w4] at h
  exact ⟨_, h (by omega) (by omega)⟩
/-- SWEAR of the TRIALS -/
theorem swt_pr (hC : CT c d np nq N) (hG : GD c np nq N) (hD : DRW c d) (hk : k ≤ 59) (hW : W < nq) (hP : P < nq) (hQ : Q < np) (hT : T < 8) (e1 : c 10 k = (W : Int)) (e2 : c 11 k = (P : Int)) (e3 : c 12 k = (Q : Int)) (e4 : c 13 k = (T : Int)) (h : zr sv L n 158 0 lf [] c (c', none)) (h0 : lf 0 = (4, 107)) (h1 : lf 1 = (0, (k : Int))) (h' : zr sv L n' 254 0 lf' [] d (d', some (0, r'))) (h0' : lf' 0 = (4, 253)) (h1' : lf' 1 = (0, (W : Int))) (h2' : lf' 2 = (0, (P : Int))) (h3' : lf' 3 = (0, (Q : Int))) (h4' : lf' 4 = (0, (T : Int))) : LST c d c' d' np nq := by
  obtain ⟨⟨b5, b6, hN⟩, ⟨c0, c3, c9⟩, ⟨d0, d1, d2⟩, ⟨t3, t4, t5, t6⟩, -, hS, -⟩ := id hC
  have hV := hG.hv b5 b6
  have hR := hC.hr hG
  have hw := (hG.2.2.1 W hW).wok
  obtain ⟨dr, dr1, dr2, dr3⟩ := hD
  obtain ⟨g1, k1, g2, r2, k2, h⟩ := t_swt hk (by omega) (by omega) (by omega) (by omega) e2 e3 e4 e1 h h0 h1
  obtain ⟨ca, o1, hA⟩ := ask_okl (nq := nq) (by omega) (by omega) hN c9 hV hW hG.fr6 k1 rfl rfl rfl
  have x1 := oV o1
  rw [x1] at k2
  have FA : ∀ k j : Nat, ¬ (110 ≤ k ∧ k ≤ 112) → ca k j = c k j := fun k j hk => hA.1.1 k j (by omega) (by omega) (by omega)
  have hb : CB c ca := fun k j hk => FA k j (by omega)
  obtain ⟨y1, y2⟩ := oI (hind_at hA hb (fun _ _ _ _ => rfl) hV hw (by omega) (by omega) (by omega) (by omega) hN c9 k2 rfl rfl rfl)
  rw [y1, y2] at h
  obtain ⟨g7, r7, q1, h'⟩ := m_swb (by omega) (by omega) (by omega) (by omega) h' h0' h1' h2' h3' h4'
  obtain ⟨v1, v2⟩ := oI (m_why_ok (nq := nq) (by omega) (by omega) (by omega) (by omega) hN d2 hV hR hG.2.2.2.2 hS hW hP (fun k hk => ((hG.2.2.2.1 k hk).v b5 b6).2.2.1) ⟨t3, t4⟩ q1 rfl rfl rfl rfl rfl)
  rw [v1, v2] at h'
  have w0 := whys_n (c := c) (N := N) (P := P) (Q := Q) (T := T) (W := W)
  rcases h with ⟨q, g3, r3, k3, g4, r4, k4, g5, k5, o⟩ | ⟨q, o⟩
  · rcases h' with ⟨q', g8, k8, o'⟩ | ⟨q', -⟩
    · obtain ⟨s1, s2⟩ := oI (price_at hA hb (fun _ _ _ _ => rfl) hV hw (by omega) (by omega) (by omega) (by omega) hN k3 rfl rfl rfl)
      rw [s1, s2, hA.1.2.1.1, hA.1.2.1.2] at k4
      obtain ⟨cb, db, n15, z1, z2, z3, z4, z5, z6, z7⟩ := ent_pr hC hG hb hW hP hQ hT q k4 rfl rfl rfl rfl rfl rfl k8 rfl rfl rfl rfl rfl
      obtain ⟨s3, s4⟩ := oI z1
      have s5 := oV z2
      rw [s3, s4] at k5
      rw [s5] at o'
      obtain ⟨y, o'⟩ := swb_pr z3.2.2.1.2.2 n15 o'
      obtain ⟨u3, u4⟩ := oI o'
      have u1 := oV o
      rw [← u1] at k5
      obtain ⟨f1, f2, f3⟩ := note_pr n15 z3 z4 k5 rfl rfl u3
      have F : ∀ k j : Nat, ¬ (29 ≤ k ∧ k < 45 ∧ j = 7) → ¬ (k = 107 ∧ 9 ≤ j ∧ j ≤ 10) → ¬ (k = 3 ∧ 8 ≤ j ∧ j ≤ 9) → (k < 17 ∨ 45 ≤ k) → ¬ (110 ≤ k ∧ k ≤ 112) → c' k j = c k j := fun k j i1 i2 i3 i4 i5 => by rw [f2 k j i1 i2, z5 k j i3 i4, FA k j i5]
      refine ⟨⟨N + 1, f1⟩, ⟨fun k j i1 i2 => F k j (by omega) (by omega) i1 (by omega) (by omega), fun i hi => by rw [f2 _ _ (by omega) (by omega)]; exact z6 i hi, ⟨F _ _ (by omega) (by omega) (by omega) (by omega) (by omega), F _ _ (by omega) (by omega) (by omega) (by omega) (by omega)⟩, fun j => F _ _ (by omega) (by omega) (by omega) (by omega) (by omega), fun k j hk => F _ _ (by omega) (by omega) (by omega) (by omega) (by omega)⟩, ⟨fun k j i1 i2 i3 => by rw [f3 k j (by omega)]; exact z7.1 k j i1, fun j hj => by rw [f3 _ _ (by omega)]; exact z7.2 j hj, by rw [f3 _ _ (by omega)]; exact z7.1 _ _ (by omega)⟩, dr, dr1, by rw [F _ _ (by omega) (by omega) (by omega) (by omega) (by omega)]; exact dr2, by rw [f3 _ _ (by omega), z7.1 _ _ (by omega)]; exact dr3⟩
    · exfalso; omega
  · rcases h' with ⟨q', -⟩ | ⟨q', o'⟩
    · exfalso; omega
    · have u1 := oV o
      obtain ⟨u3, u4⟩ := oI o'
      have F : ∀ k j : Nat, ¬ (k = 107 ∧ j = 8) → ¬ (110 ≤ k ∧ k ≤ 112) → c' k j = c k j := fun k j i1 i2 => by rw [u1, cup_ne i1, FA k j i2]
      have sc : SCL c c' np nq N := SCL.of b5 b6 hN (fun k j k1 k2 => F k j (by omega) (by omega))
      refine ⟨⟨N, hC.mv sc (fun j _ => by rw [u3]), hG.mv b5 b6 sc⟩, ⟨fun k j i1 i2 => F k j (by omega) (by omega), fun i hi => F _ _ (by omega) (by omega), ⟨F _ _ (by omega) (by omega), F _ _ (by omega) (by omega)⟩, fun j => F _ _ (by omega) (by omega), fun k j hk => F _ _ (by omega) (by omega)⟩, ⟨fun k j _ _ _ => by rw [u3], fun j _ => by rw [u3], by rw [u3]⟩, dr, dr1, by rw [F _ _ (by omega) (by omega)]; exact dr2, by rw [u3]; exact dr3⟩
/-- RECANT of the TRIALS: the latest -/
theorem lat_pr (hV : OHV c N) (hR : OHR c d N) (hN : N ≤ 16) (hW : W ≤ 5) : ∀ (k : Nat) {n n' : Nat} {lf lf' : dlf}, k ≤ N → lf 0 = (4, 3) → lf 1 = (0, (W : Int)) → lf 2 = (0, (k : Int) - 1) → zr sv L n 154 7 lf [] c (c', some (0, r)) → lf' 0 = (4, 253) → lf' 1 = (0, (W : Int)) → lf' 2 = (0, (k : Int) - 1) → zr sv L n' 255 9 lf' [] d (d', some (0, r')) → c' = c ∧ ((∃ i : Nat, i < N ∧ ohs c i = 0 ∧ r = (i : Int) ∧ d' = cup d 254 (104 + 8 * i) 2) ∨ (r = -1 ∧ d' = d))
  | 0, n, n', lf, lf', _, h0, h1, h2, h, h0', h1', h2', h' => by
    cases n with
    | zero => exact (zr_0 h).elim
    | succ n => cases n' with
      | zero => exact (zr_0 h').elim
      | succ n' =>
        obtain ⟨u1, u2⟩ := oI (t_lat_e hW h h0 h1 h2)
        obtain ⟨v1, v2⟩ := oI (m_rcs_e hW h' h0' h1' h2')
        exact ⟨u1, Or.inr ⟨u2, v1⟩⟩
  | k + 1, n, n', lf, lf', hk, h0, h1, h2, h, h0', h1', h2', h' => by
    cases n with
    | zero => exact (zr_0 h).elim
    | succ n => cases n' with
      | zero => exact (zr_0 h').elim
      | succ n' =>
        obtain ⟨v1, v2, v3, v4, v5⟩ := hV k (by omega)
        have e : ((k + 1 : Nat) : Int) - 1 = (k : Int) := by omega
        rw [e] at h2 h2'
        rcases t_lat_s hW v2 v3 v4 v5 (by omega) v1 h h0 h1 h2 with ⟨z, lf1, y0, y1, y2, h⟩ | ⟨z, o⟩
        · rcases m_rcs_s hW v2 v3 v4 v5 (by omega) (hR k (by omega)) h' h0' h1' h2' with ⟨z', lf2, x0, x1, x2, h'⟩ | ⟨z', -⟩
          · exact lat_pr hV hR hN hW k (by omega) y0 y1 y2 h x0 x1 x2 h'
          · exfalso; omega
        · rcases m_rcs_s hW v2 v3 v4 v5 (by omega) (hR k (by omega)) h' h0' h1' h2' with ⟨z', -⟩ | ⟨z', o'⟩
          · exfalso; omega
          · obtain ⟨u1, u2⟩ := oI o
            obtain ⟨w1, w2⟩ := oI o'
            exact ⟨u1, Or.inl ⟨k, by omega, z.2, u2, w1⟩⟩
theorem rcl_pr (hC : CT c d np nq N) (hG : GD c np nq N) (hD : DRW c d) (hW : W < nq) (h : zr sv L n 153 0 lf [] c (c', none)) (h0 : lf 0 = (4, 107)) (h1 : lf 1 = (0, (W : Int))) (h' : zr sv L n' 255 0 lf' [] d (d', some (0, r'))) (h0' : lf' 0 = (4, 253)) (h1' : lf' 1 = (0, (W : Int))) : LST c d c' d' np nq := by
  obtain ⟨⟨b5, b6, hN⟩, ⟨c0, c3, c9⟩, ⟨d0, d1, d2⟩, -⟩ := id hC
  have hV := hG.hv b5 b6
  have hR := hC.hr hG
  obtain ⟨dr, dr1, dr2, dr3⟩ := hD
  obtain ⟨g1, r1, k1, h⟩ := t_rcl (by omega) h h0 h1
  obtain ⟨lf1, y0, y1, y2, k1⟩ := t_lat0 (by omega) hN c9 k1 rfl rfl
  obtain ⟨lf2, x0, x1, x2, h'⟩ := m_rcs0 (by omega) hN d2 h' h0' h1'
  obtain ⟨e1, e2⟩ := lat_pr hV hR hN (by omega) N (Nat.le_refl N) y0 y1 y2 k1 x0 x1 x2 h'
  rw [e1, c9] at h
  rcases e2 with ⟨i, i1, i2, i3, i4⟩ | ⟨i3, i4⟩
  · rcases h with ⟨z, -⟩ | ⟨-, lf3, w0, w2, h⟩
    · exfalso; omega
    · rw [i3] at w2
      have u1 := oV (t_rcl20 (by omega) h w0 w2)
      have F : ∀ k j : Nat, ¬ (29 ≤ k ∧ k < 45) → c' k j = c k j := fun k j i1 => by rw [u1, cup_ne (by omega)]
      have q := hC.oset (k := i) (j := 5) (by omega) (by decide) 2
      rw [show 99 + 8 * i + 5 = 104 + 8 * i by omega, ← u1, ← i4] at q
      have q2 := hG.ost b5 b6 hN i1 (Or.inr rfl)
      rw [← u1] at q2
      exact ⟨⟨N, q, q2⟩, ⟨fun k j _ k2 => F k j (by omega), fun i hi => F _ _ (by omega), ⟨F _ _ (by omega), F _ _ (by omega)⟩, fun j => F _ _ (by omega), fun k j hk => F _ _ (by omega)⟩, ⟨fun k j k1 _ _ => by rw [i4, cup_ne (by omega)], fun j hj => by rw [i4, cup_ne (by omega)], by rw [i4, cup_ne (by omega)]⟩, dr, dr1, by rw [F _ _ (by omega)]; exact dr2, by rw [i4, cup_ne (by omega)]; exact dr3⟩
  · rcases h with ⟨-, o⟩ | ⟨z, -⟩
    · have u1 := oV o
      have F : ∀ k j : Nat, ¬ (k = 107 ∧ j = 8) → c' k j = c k j := fun k j k1 => by rw [u1, cup_ne k1]
      have sc : SCL c c' np nq N := SCL.of b5 b6 hN (fun k j k1 k2 => F k j (by omega))
      exact ⟨⟨N, hC.mv sc (fun j _ => by rw [i4]), hG.mv b5 b6 sc⟩, ⟨fun k j _ k2 => F k j (by omega), fun i hi => F _ _ (by omega), ⟨F _ _ (by omega), F _ _ (by omega)⟩, fun j => F _ _ (by omega), fun k j hk => F _ _ (by omega)⟩, ⟨fun k j _ _ _ => by rw [i4], fun j _ => by rw [i4], by rw [i4]⟩, dr, dr1, by rw [F _ _ (by omega)]; exact dr2, by rw [i4]; exact dr3⟩
    · exfalso; omega
/-- FIND of the TRIALS -/
theorem fnl_pr (hC : CT c d np nq N) (hG : GD c np nq N) (hD : DRW c d) (hP : P < nq) (hQ : Q < np) (hT : T < 8) (h : zr sv L n 104 0 lf [] c (c', some (0, r))) (h0 : lf 0 = (4, 3)) (h1 : lf 1 = (0, (P : Int))) (h2 : lf 2 = (0, (Q : Int))) (h3 : lf 3 = (0, (T : Int))) (h' : zr sv L n' 234 0 lf' [] d (d', some (0, r'))) (h0' : lf' 0 = (4, 253)) (h1' : lf' 1 = (0, (P : Int))) (h2' : lf' 2 = (0, (Q : Int))) (h3' : lf' 3 = (0, (T : Int))) : LST c d c' d' np nq := by
  obtain ⟨dr, dr1, dr2, dr3⟩ := hD
  obtain ⟨-, -, e3, e4, e5, e6⟩ := find_pr hP hQ hT hC hG h h0 h1 h2 h3 h' h0' h1' h2' h3'
  exact ⟨⟨N, e3, e4⟩, ⟨fun k j i1 i2 => e5.1 k j i1 (by omega), e5.2, ⟨e5.1 _ _ (by omega) (by omega), e5.1 _ _ (by omega) (by omega)⟩, fun j => e5.1 _ _ (by omega) (by omega), fun k j hk => e5.1 _ _ (by omega) (by omega)⟩, LFd.ofz e6, dr, dr1, by rw [e5.1 _ _ (by omega) (by omega)]; exact dr2, by rw [e6.1 _ _ (by omega)]; exact dr3⟩
end Lo2
