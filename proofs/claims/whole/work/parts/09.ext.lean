/-! methods walked by hand (open as yet) -/
def rm_X2_isField : Room := { frames := 20, cells := 0, slots := 0, locals := 1000 }
def f_X2_isField (x : Int32) : Int32 := if 0 < x then (if x = 99 ∨ x = 111 ∨ x = 108 ∨ x = 116 ∨ x = 107 ∨ x = 100 ∨ x = 101 ∨ x = 115 ∨ x = 119 ∨ x = 104 then 1 else 0) else 0
theorem c_X2_isField (Z : Sys) {M : Mem} (hs : St M) (x0 : Int32) {q : Int32} (hf : f_X2_isField x0 = q) : Ct Z yX2_isField cX2_isField 1 (some .boolean) rm_X2_isField [.int x0] M False (PostZ q M) := sorry
