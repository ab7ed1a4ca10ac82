/-! rows for the constant of the marks' fields: an object and a row that stand in the heap from the start -/
section OROWS
variable {Z : Sys} {X : Cx} {Y : My} {ex : Prop} {cells slots : Nat} {loc : List (Nat × Value)} {rest : List Value} {M : Mem}
theorem G.ldcF (pc : Nat) (hY : Y.2.1 = RX2) (hd : decode Y.1 pc = .ok (.ldc 58, 2)) (k : G Z X Y ex cells slots (pc + 2) loc (.ref (zK Z) :: rest) M) : G Z X Y ex cells slots pc loc rest M := fun O ls H locs hl hP hS => va_ldcS O.1 O.2.1 O.2.2.2.1 (tx := "coltkdeswh") (by rw [hY]; exact O.2.2.2.2.2.2.2.2.2.2.2.2.1) hd (k O ls H locs hl hP hS)
theorem G.gcs (pc : Nat) {idx : Nat} (hw : Cond.fieldLink Y.2.1 idx "java/lang/String" "COMPACT_STRINGS" "Z" ∈ TBL) (hd : decode Y.1 pc = .ok (.getstatic idx, 3)) (k : G Z X Y ex cells slots (pc + 3) loc (.int 1 :: rest) M) : G Z X Y ex cells slots pc loc rest M := fun O ls H locs hl hP hS => va_gets O.1 O.2.1 O.2.2.2.2.2.2.2.2.2.2.2.2.2.2.2.2.2 hS O.2.2.2.1 (O.2.2.2.2.1 _ hw) (fun _ h => h) hd (k O ls H locs hl hP hS)
theorem G.gcod (pc : Nat) {idx : Nat} (hw : Cond.fieldLink Y.2.1 idx "java/lang/String" "coder" "B" ∈ TBL) (hd : decode Y.1 pc = .ok (.getfield idx, 3)) (k : G Z X Y ex cells slots (pc + 3) loc (.int 0 :: rest) M) : G Z X Y ex cells slots pc loc (.ref (zK Z) :: rest) M := fun O ls H locs hl hP hS => vk_getf O.1 O.2.1 O.2.2.2.2.2.2.2.2.2.2.2.2.2.2.1 hS O.2.2.2.1 (O.2.2.2.2.1 _ hw) (fun _ h => h) hd (k O ls H locs hl hP hS)
theorem G.gval (pc : Nat) {idx : Nat} (hw : Cond.fieldLink Y.2.1 idx "java/lang/String" "value" "[B" ∈ TBL) (hd : decode Y.1 pc = .ok (.getfield idx, 3)) (k : G Z X Y ex cells slots (pc + 3) loc (.ref (zV Z) :: rest) M) : G Z X Y ex cells slots pc loc (.ref (zK Z) :: rest) M := fun O ls H locs hl hP hS => vk_getf O.1 O.2.1 O.2.2.2.2.2.2.2.2.2.2.2.2.2.2.2.1 hS O.2.2.2.1 (O.2.2.2.2.1 _ hw) (fun _ h => h) hd (k O ls H locs hl hP hS)
theorem G.bF (pc j : Nat) {i : Int32} (hin : inR i 10) (hj : i.toNatClampNeg = j) (hd : decode Y.1 pc = .ok (.baload, 1)) (k : G Z X Y ex cells slots (pc + 1) loc (.int (FBT.getD j 0) :: rest) M) : G Z X Y ex cells slots pc loc (.int i :: .ref (zV Z) :: rest) M := fun O ls H locs hl hP hS => va_tb O.1 O.2.1 O.2.2.2.2.2.2.2.2.2.2.2.2.2.2.2.2.1 hS hin (by rw [hj]) hd (k O ls H locs hl hP hS)
theorem G.lenF (pc : Nat) (hd : decode Y.1 pc = .ok (.arraylength, 1)) (k : G Z X Y ex cells slots (pc + 1) loc (.int 10 :: rest) M) : G Z X Y ex cells slots pc loc (.ref (zV Z) :: rest) M := fun O ls H locs hl hP hS => va_tlen O.1 O.2.1 O.2.2.2.2.2.2.2.2.2.2.2.2.2.2.2.2.1 hS rfl hd (k O ls H locs hl hP hS)
theorem G.callO (pc : Nat) {idx maxL : Nat} {y : MethodName} {cc : ByteArray} {ret : Option FieldType} {rm R : Room} {As stk : List Value} {post : Option Value → Mem → Prop} (hct : Ct Z y cc maxL ret rm (.ref (zK Z) :: As) M ex post) (hm : MOk y cc maxL ret As.length) (hv : VOk y) (hyC : y.cls = "java/lang/String") (w1 : Cond.methodLink Y.2.1 idx y ∈ TBL) (hR : xR X = R) (hr : RmOk R cells slots maxL rm) (hst : As.reverse ++ .ref (zK Z) :: rest = stk) (hrest : (rest.map fun v => v.category).sum ≤ 8)
    (hd : decode Y.1 pc = .ok (.invokevirtual idx, 3)) (kk : ∀ v M', post v M' → G Z X Y ex (cells + rm.cells) (slots + rm.slots) (pc + 3) loc (v.toList ++ rest) M') : G Z X Y ex cells slots pc loc stk M := fun O ls H locs hl hP hS => by
  subst hR; subst hst
  have hrc : ∃ cellB : Cell, H[zK Z]? = some cellB ∧ cellB.vm.isStatics = false ∧ (xs X).vm.findClass y.cls = some cellB.cls := by
    obtain ⟨cell, h1, h2, h3, -⟩ := O.2.2.2.2.2.2.2.2.2.2.2.2.2.1.kept hS.2.1
    rw [hyC]
    exact ⟨cell, h1, h2, h3⟩
  refine G.after (va_runV (As := As) (rest := rest) (b := zK Z) ⟨O.1, O.2.1, O.2.2.1, O.2.2.2.1, O.2.2.2.2.1⟩ hct (cwV As.length O.2.2.2.2.1 (gin ?_) rfl rfl rfl ⟨rfl, hm.1⟩ ⟨hr.1, hr.2.1⟩) ⟨PcZ.blind, hrc, fun U hU hW => ⟨rfl, pcz hP O.2.2.2.2.2.1 O.2.2.2.2.2.2.2 hS U hU hW⟩⟩ rfl rfl hl.1 rfl (lv_room hrest) hd hr.2.2) hS (fun v M' H1 locs1 hp hP1 hS1 => kk v M' hp O ls H1 locs1 hl hP1 hS1)
  intro w hw
  rcases List.mem_append.mp hw with h | h
  · rcases List.mem_cons.mp h with rfl | h
    · exact w1
    rcases List.mem_cons.mp h with rfl | h
    · exact hv.1
    rcases List.mem_cons.mp h with rfl | h
    · exact hv.2
    rcases List.mem_cons.mp h with rfl | h
    · exact hm.2.2
    · cases h
  · exact wsC_in hm.2.1 w h
theorem G.coI (pc : Nat) {idx maxL : Nat} {y : MethodName} {cc : ByteArray} {ret : Option FieldType} {rm R : Room} {As stk : List Value} {r : Int32} {M1 : Mem} (hct : Ct Z y cc maxL ret rm (.ref (zK Z) :: As) M ex (PostI r M1)) (hm : MOk y cc maxL ret As.length) (hv : VOk y) (hyC : y.cls = "java/lang/String") (w1 : Cond.methodLink Y.2.1 idx y ∈ TBL) (hR : xR X = R) (hr : RmOk R cells slots maxL rm) (hz : rm.cells = 0 ∧ rm.slots = 0) (hst : As.reverse ++ .ref (zK Z) :: rest = stk) (hrest : (rest.map fun v => v.category).sum ≤ 8) (hd : decode Y.1 pc = .ok (.invokevirtual idx, 3)) (kk : St M1 → G Z X Y ex cells slots (pc + 3) loc (.int r :: rest) M1) : G Z X Y ex cells slots pc loc stk M := G.callO pc hct hm hv hyC w1 hR hr hst hrest hd (fun v M' hp => by
  rw [hz.1, hz.2]
  show G Z X Y ex cells slots _ _ _ _
  obtain ⟨rfl, rfl, h1⟩ := hp
  exact kk h1)
theorem G.coZ (pc : Nat) {idx maxL : Nat} {y : MethodName} {cc : ByteArray} {ret : Option FieldType} {rm R : Room} {As stk : List Value} {r : Int32} {M1 : Mem} (hct : Ct Z y cc maxL ret rm (.ref (zK Z) :: As) M ex (PostZ r M1)) (hm : MOk y cc maxL ret As.length) (hv : VOk y) (hyC : y.cls = "java/lang/String") (w1 : Cond.methodLink Y.2.1 idx y ∈ TBL) (hR : xR X = R) (hr : RmOk R cells slots maxL rm) (hz : rm.cells = 0 ∧ rm.slots = 0) (hst : As.reverse ++ .ref (zK Z) :: rest = stk) (hrest : (rest.map fun v => v.category).sum ≤ 8) (hd : decode Y.1 pc = .ok (.invokevirtual idx, 3)) (kk : St M1 → (r = 0 ∨ r = 1) → G Z X Y ex cells slots (pc + 3) loc (.int r :: rest) M1) : G Z X Y ex cells slots pc loc stk M := G.callO pc hct hm hv hyC w1 hR hr hst hrest hd (fun v M' hp => by
  rw [hz.1, hz.2]
  show G Z X Y ex cells slots _ _ _ _
  obtain ⟨⟨rfl, rfl, h1⟩, h2⟩ := hp
  exact kk h1 h2)
theorem G.rB (pc : Nat) {r : Int32} (hq : RetOk Z X (some .byte) ex (PostI r M) cells slots) (hn : narrow .byte (.int r) = .int r) (hd : decode Y.1 pc = .ok (.ireturn, 1)) (hs : St M) : G Z X Y ex cells slots pc loc [.int r] M := fun O ls H locs hl hP hS => by
  show W _ _ _ _ _ _ _ _ _ _ _ _ _ _ (xQ X) _
  rw [hq.2.2]
  exact W.zret O.1 O.2.1 hq.1 hn (fun t ht hW => ⟨⟨_, _, rfl, ⟨rfl, rfl, hs⟩, by rw [ht]; exact hP⟩, hS.F ht⟩) hS.2.2 hd hq.2.1
end OROWS
