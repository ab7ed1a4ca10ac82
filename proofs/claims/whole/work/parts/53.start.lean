/-! the memory behind the law's own making of its three things: worked out by the kernel -/
def M00 : Mem := ([], fun _ _ => 0, fun _ _ => none, fun _ _ => 0)
def MA : Mem := (f_X8_init 0 (nw M00 (8, 8))).getD M00
def MB : Mem := (f_X9_init 284 (nw MA (9, 28))).getD M00
def M0 : Mem := nw MB (12, 1)
theorem opt_getD {α : Type} {o : Option α} {d : α} (h : o.isSome = true) : o = some (o.getD d) := by cases o with
  | none => cases h
  | some x => rfl
theorem MA_eq : f_X8_init 0 (nw M00 (8, 8)) = some MA := opt_getD (by decide +kernel)
theorem MB_eq : f_X9_init 284 (nw MA (9, 28)) = some MB := opt_getD (by decide +kernel)
theorem MA_len : (mK MA).length = 284 := by decide +kernel
theorem MB_len : (mK MB).length = 300 := by decide +kernel
theorem M0_K : mK M0 = K0 := by decide +kernel
theorem M0_P : ∀ q ∈ PTL, mP M0 q.1 q.2.1 = some q.2.2 := by decide +kernel
theorem M0_x : mP M0 284 26 = some 290 := by decide +kernel
theorem M0_St : St M0 := ⟨M0_K, M0_P, Or.inl M0_x⟩
