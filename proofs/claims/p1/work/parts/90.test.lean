noncomputable def xh0 : xheap := xmk (99, 0, .leaf (0, (5, 0))) 10 0 512
def xb0 : xbox := List.replicate 6 (9223372034707292160, 9223372039002259455)
noncomputable def xi1 : xR := xrun xcode xmeth xobj (xel 6) xeb 3500 1 6 0 [(0, (4, 0))] [] xb0 (xw xh0 0 (11, 18, xo_11)) 1 0 0
def xone (r : xR) : Bool := match r with
  | some [_] => true
  | _ => false
set_option maxRecDepth 100000 in
theorem xtest : xone xi1 = true := by decide +kernel
