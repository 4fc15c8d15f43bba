/-! what is asked of all -/
def ycn : Nat → Nat
  | 0 => 270
  | _ => 0
def ysn : Nat → Nat
  | 0 => 13086
  | _ => 0
set_option maxRecDepth 100000 in
theorem yme_all : xall xmeth (fun y q => cond (Nat.ble (ycn y) q.1) (Nat.ble (ysn y) q.2.1) false) = true := by decide +kernel
set_option maxRecDepth 100000 in
theorem ycd_all : xall xcode (fun y _ => match xg xmeth y with
  | none => false
  | some _ => true) = true := by decide +kernel
theorem yBase {sv : Nat → Int32} {L : Nat} {G : xG} (hL : L < 2147483648) (hG : cW sv xcode xmeth xobj (xel L) xeb G) (π : Int) : aBase sv xcode xmeth xobj (xel L) (xel 0) xeb G xh2 ycn ysn ytyt ytyp (gGJ (yXG sv L) yfam yAT π) (jHK (gHK yfam)) (jHS ytyt ydep (gHS yfam yfids ytAT yAT)) (jHA ytyt ydep (gHA yfam yAT)) (jHH ytAT yAT (gHH yfam yAT yfids)) (jHW ytyt ydep (gHW yfam ytyt ytAT yAT)) := by
  refine ⟨hG, yH0, yWd, ⟨hL, fun k hk => ?_⟩, jHK_ok gHK_ok, jHS_ok yX70 yXRL (gHS_ok yfT yfN yA1 yA2), jHA_ok yX70 yXRL gHA_ok, jHH_ok yX70 yXRL gHH_ok, ⟨jHW_ok yX70 yXRL (gHW_ok yfT yA2), yXS yT yTF hG⟩, fun y q hq => ?_, fun y t ht => ?_⟩
  · rcases hk with e | e <;> rw [e] <;> rfl
  · obtain ⟨h1, h2⟩ := xcnb (xall_get _ _ yme_all y q hq)
    exact ⟨xleb h1, xleb h2⟩
  · have h := xall_get _ _ ycd_all y t ht
    cases hq : xg xmeth y with
    | none => rw [hq] at h; cases h
    | some q => exact ⟨q, rfl⟩
