/-! THE MEMORY: what the system's cells hold. A cell's number is its place in the order of making; its address is the base and that. -/
abbrev Mem : Type := List (Nat × Nat) × (Nat → Nat → Int32) × (Nat → Nat → Option Nat) × (Nat → Nat → Int64)
def mK (M : Mem) : List (Nat × Nat) := M.1
def mI (M : Mem) : Nat → Nat → Int32 := M.2.1
def mP (M : Mem) : Nat → Nat → Option Nat := M.2.2.1
def mJ (M : Mem) : Nat → Nat → Int64 := M.2.2.2
def sI (M : Mem) (a k : Nat) (v : Int32) : Mem := (M.1, (fun x y => if x = a ∧ y = k then v else M.2.1 x y), M.2.2.1, M.2.2.2)
def sP (M : Mem) (a k : Nat) (r : Nat) : Mem := (M.1, M.2.1, (fun x y => if x = a ∧ y = k then some r else M.2.2.1 x y), M.2.2.2)
def sJ (M : Mem) (a k : Nat) (v : Int64) : Mem := (M.1, M.2.1, M.2.2.1, (fun x y => if x = a ∧ y = k then v else M.2.2.2 x y))
/-- n ints of a's row from s on come to b's row from d on -/
def cI (M : Mem) (a s b d n : Nat) : Mem := (M.1, (fun x y => if x = b ∧ d ≤ y ∧ y < d + n then M.2.1 a (s + (y - d)) else M.2.1 x y), M.2.2.1, M.2.2.2)
/-- a new cell -/
def nw (M : Mem) (kd : Nat × Nat) : Mem := (M.1 ++ [kd], (fun x y => if x = M.1.length then 0 else M.2.1 x y), (fun x y => if x = M.1.length then none else M.2.2.1 x y), (fun x y => if x = M.1.length then 0 else M.2.2.2 x y))
/-- a new row of n rows of k ints: the outer one, then the inner ones -/
def nwm (M : Mem) (n k : Nat) : Mem := (M.1 ++ (15, n) :: List.replicate n (10, k), (fun x y => if M.1.length ≤ x then 0 else M.2.1 x y), (fun x y => if x = M.1.length then (if y < n then some (M.1.length + 1 + y) else none) else if M.1.length ≤ x then none else M.2.2.1 x y), (fun x y => if M.1.length ≤ x then 0 else M.2.2.2 x y))
/-- the places of references in the objects, class by class -/
def RFs : List (List Nat) := [[0, 2, 3, 4, 5, 6, 7, 9, 10, 11], [0], [], [0, 1, 2], [0, 1], [], [1, 6], [0], [0, 1, 2, 4, 5, 6, 7], [0, 1, 2, 3, 4, 5, 6, 7, 10, 12, 15, 17, 18, 19, 20, 26]]
def FR (ci k : Nat) : Bool := (RFs.getD ci []).contains k
abbrev Sys : Type := Launch × Nat × va_G × (Nat → ClassId) × Nat × Nat
abbrev zs (Z : Sys) : Nat := Z.2.1
abbrev zD (Z : Sys) : va_G := Z.2.2.1
abbrev zA (Z : Sys) : Nat → ClassId := Z.2.2.2.1
abbrev zK (Z : Sys) : Nat := Z.2.2.2.2.1
abbrev zV (Z : Sys) : Nat := Z.2.2.2.2.2
def vf (Z : Sys) (M : Mem) (a ci k : Nat) : Value := if FR ci k = true then va_rf ((mP M a k).map (zs Z + ·)) else .int (mI M a k)
def ent (Z : Sys) (M : Mem) (a : Nat) (kd : Nat × Nat) : va_E :=
  if kd.1 < 10 then .inr (kd.1, (List.range kd.2).map (vf Z M a kd.1))
  else if kd.1 < 12 then .inl (zA Z kd.1, kd.2, .inl (mI M a))
  else if kd.1 = 12 then .inl (zA Z 12, kd.2, .inr (.inl (mJ M a)))
  else .inl (zA Z kd.1, kd.2, .inr (.inr (.inr (.inr (fun j => (mP M a j).map (zs Z + ·))))))
def tysZ (Z : Sys) : List (ClassId × FieldType) := [(zA Z 10, .int), (zA Z 11, .boolean), (zA Z 12, .long), (zA Z 13, .object RX1), (zA Z 14, .object RX6), (zA Z 15, .array .int)]
def Ar (Z : Sys) : Nat → Prop := fun q => zs Z ≤ q
/-- the heap holds the memory; ex: and nothing behind it -/
def Rp (Z : Sys) (ex : Prop) (M : Mem) (H : Heap) : Prop := (∀ (a : Nat) (kd : Nat × Nat), (mK M)[a]? = some kd → va_at (zD Z) vwCl (zs Z + a, ent Z M a kd) H) ∧ zs Z + (mK M).length ≤ H.size ∧ (ex → H.size = zs Z + (mK M).length)
def isNest : Cond → Bool
  | .methodLinkNest .. => true
  | .arrayOver .. => true
  | .castable .. => true
  | .declares .. => true
  | _ => false
def TBL : List Cond := lw_tbl.filter goodWord
def NST : List Cond := lw_tbl.filter isNest
theorem ao_moved {ty : FieldType} {u U : State} (hvm : u.vm.Alike U.vm) (h : va_Nw (.arrayOver ty) u) : va_Nw (.arrayOver ty) U := by
  have hfc : ∀ n, U.vm.findClass n = u.vm.findClass n := fun n => by rw [hvm.findClass]
  have hidx : ∀ comp : ClassId, (U.vm.classes.findIdx? fun (x : Class) => match x.kind with | .array component _ => component == comp | _ => false) = (u.vm.classes.findIdx? fun (x : Class) => match x.kind with | .array component _ => component == comp | _ => false) := fun comp => by
    have e1 := va_idx_bare U.vm comp
    have e2 := va_idx_bare u.vm comp
    have e3 : U.vm.bare = u.vm.bare := by first | exact hvm.bare_eq | exact hvm.bare_eq.symm
    rw [e3] at e1
    exact e1.symm.trans e2
  have key : ∀ (o : Option ClassId), ((o.bind fun comp => (u.vm.classes.findIdx? fun (x : Class) => match x.kind with | .array component _ => component == comp | _ => false).bind fun c => (u.vm.classes[c]?).map fun (k : Class) => match k.kind with
      | .array _ t => decide (t = ty) && decide (u.vm.findClass ("[" ++ ty.toString) = some c)
      | _ => false) == some true) = true → ((o.bind fun comp => (U.vm.classes.findIdx? fun (x : Class) => match x.kind with | .array component _ => component == comp | _ => false).bind fun c => (U.vm.classes[c]?).map fun (k : Class) => match k.kind with
      | .array _ t => decide (t = ty) && decide (U.vm.findClass ("[" ++ ty.toString) = some c)
      | _ => false) == some true) = true := by
    intro o ho
    cases o with
    | none => simp at ho
    | some comp =>
      rw [Option.bind_some] at ho ⊢
      rw [hidx]
      cases hc : (u.vm.classes.findIdx? fun (x : Class) => match x.kind with | .array component _ => component == comp | _ => false) with
      | none => rw [hc] at ho; simp at ho
      | some c =>
        rw [hc] at ho
        rw [Option.bind_some] at ho ⊢
        cases hk : u.vm.classes[c]? with
        | none => rw [hk] at ho; simp at ho
        | some k =>
          obtain ⟨k', hk', he⟩ := hvm.2.2 _ _ hk
          have hkind : k'.kind = k.kind := by rw [he]
          rw [hk] at ho
          rw [hk', hfc]
          rw [Option.map_some] at ho ⊢
          rw [hkind]
          exact ho
  cases ty with
  | object n => 
    have := key (u.vm.findClass n) h
    rw [← hfc] at this
    exact this
  | array t =>
    have := key (u.vm.findClass (FieldType.array t).toString) h
    rw [← hfc] at this
    exact this
  | _ => exact absurd h (by simp [va_Nw, Cond.before, Cond.holds, Cond.value])
def Kn (Z : Sys) (U : State) : Prop := va_K (zD Z) vwCl (tysZ Z) U ∧ ∀ w ∈ NST, va_Nw w U
theorem nst_is {w : Cond} (h : w ∈ NST) : isNest w = true := (List.mem_filter.mp h).2
theorem Kn.moved {Z : Sys} {s U : State} (hW : s.WarmedH U.vm) (h : Kn Z s) : Kn Z U := by
  refine ⟨va_K.moved hW.alike h.1, fun w hw => ?_⟩
  have h1 := nst_is hw
  have h2 := h.2 w hw
  cases w <;> first | (exact va_Nw.warmM hW h2) | (exact va_Nw.warmC hW h2) | (exact va_Nw.warmD hW h2) | (exact ao_moved hW.alike h2) | (simp [isNest] at h1)
theorem Kn.calling {Z : Sys} {U : State} {g : JFrame} {mk : MethodId} {a : Array Value} (h : Kn Z U) : Kn Z (U.calling g mk a) := by
  refine ⟨va_K.moved (u := U) (U := U.calling g mk a) (Vm.Alike.refl U.vm) h.1, fun w hw => ?_⟩
  have h1 := nst_is hw
  have h2 := h.2 w hw
  cases w <;> first | (exact va_Nw.same rfl (rfl : U.vm = (U.calling g mk a).vm) h2) | (exact ao_moved (Vm.Alike.refl U.vm) h2) | (simp [isNest] at h1)
/-- what throwing and the constant of the marks' fields want of the start, none of it a cell of the system's -/
def NCL : List (String × String) := [("java/lang/UnsupportedOperationException", "java/lang/IllegalArgumentException"), ("java/util/NoSuchElementException", "java/lang/IllegalArgumentException"), ("java/util/NoSuchElementException", "java/lang/UnsupportedOperationException"), ("java/lang/IllegalStateException", "java/lang/IllegalArgumentException"), ("java/lang/IllegalStateException", "java/lang/UnsupportedOperationException"), ("java/lang/IllegalStateException", "java/util/NoSuchElementException")]
def STRS : List (String × Nat × String) := [(RX5, 37, "made up"), (RX5, 44, "stuffed"), (RX5, 49, "copied with a slip"), (RX5, 54, "a sheet"), (RX8, 329, "no such shelf"), (RX8, 336, "no row, or no such place")]
def FBT : List Int32 := [99, 111, 108, 116, 107, 100, 101, 115, 119, 104]
def EE (Z : Sys) (U : State) (H : Heap) : Prop := Z.1.stackTraces = false ∧ vx_Zq Bundle.tN "UNASSIGNED_STACK" Bundle.steD (Ar Z) U H ∧ vx_Zq Bundle.tN "SUPPRESSED_SENTINEL" Bundle.listD (Ar Z) U H ∧ (∀ q ∈ NCL, va_Nc q.1 q.2 U) ∧ (∀ q ∈ STRS, ∃ a, vk_R q.1 q.2.1 q.2.2 a U) ∧ vk_R RX2 58 "coltkdeswh" (zK Z) U ∧ va_O "java/lang/String" (zK Z) (Ar Z) U H ∧ va_OF "java/lang/String" "coder" "B" (.int 0) (zK Z) (Ar Z) U H ∧ va_OF "java/lang/String" "value" "[B" (.ref (zV Z)) (zK Z) (Ar Z) U H ∧ va_T .byte (zV Z) 10 (fun j => .int (FBT.getD j 0)) (Ar Z) U H ∧ va_Z "java/lang/String" "COMPACT_STRINGS" "Z" (.int 1) (Ar Z) U H
theorem EE.kept {Z : Sys} {U : State} {H H1 : Heap} (h : EE Z U H) (hq : ∀ a : Nat, a < H.size → ¬ Ar Z a → H1[a]? = H[a]?) : EE Z U H1 := by
  obtain ⟨h1, h2, h3, h4, h5, h6, h7, h8, h9, h10, h11⟩ := h
  exact ⟨h1, h2.kept hq, h3.kept hq, h4, h5, h6, h7.kept hq, h8.kept hq, h9.kept hq, h10.kept hq, h11.kept hq⟩
theorem EE.moved {Z : Sys} {s U : State} {H : Heap} (hW : s.WarmedH U.vm) (h : EE Z s H) : EE Z U H := by
  obtain ⟨h1, h2, h3, h4, h5, h6, h7, h8, h9, h10, h11⟩ := h
  have hv := hW.alike
  exact ⟨h1, vx_Zq.moved hv h2, vx_Zq.moved hv h3, fun q hq => va_Nc.moved hv (h4 q hq), fun q hq => by obtain ⟨a, ha⟩ := h5 q hq; exact ⟨a, vk_R.warm hW ha⟩, vk_R.warm hW h6, va_O.moved hv h7, va_OF.moved hv h8, va_OF.moved hv h9, va_T.moved hv h10, va_Z.moved hv h11⟩
theorem EE.calling {Z : Sys} {U : State} {H : Heap} {g : JFrame} {mk : MethodId} {a : Array Value} (h : EE Z U H) : EE Z (U.calling g mk a) H := by
  obtain ⟨h1, h2, h3, h4, h5, h6, h7, h8, h9, h10, h11⟩ := h
  have hv : U.vm.Alike (U.calling g mk a).vm := Vm.Alike.refl U.vm
  exact ⟨h1, vx_Zq.moved hv h2, vx_Zq.moved hv h3, fun q hq => va_Nc.moved hv (h4 q hq), fun q hq => by obtain ⟨a, ha⟩ := h5 q hq; exact ⟨a, vk_R.same rfl ha⟩, vk_R.same rfl h6, va_O.moved hv h7, va_OF.moved hv h8, va_OF.moved hv h9, va_T.moved hv h10, va_Z.moved hv h11⟩
/-- the context of a walk -/
abbrev Cx : Type := Program × Env × Room × State × MethodId × Array Value × List Frame × Method × Code × (State → Prop)
abbrev xp (X : Cx) : Program := X.1
abbrev xe (X : Cx) : Env := X.2.1
abbrev xR (X : Cx) : Room := X.2.2.1
abbrev xs (X : Cx) : State := X.2.2.2.1
abbrev xm (X : Cx) : MethodId := X.2.2.2.2.1
abbrev xa (X : Cx) : Array Value := X.2.2.2.2.2.1
abbrev xb (X : Cx) : List Frame := X.2.2.2.2.2.2.1
abbrev xM (X : Cx) : Method := X.2.2.2.2.2.2.2.1
abbrev xc (X : Cx) : Code := X.2.2.2.2.2.2.2.2.1
abbrev xQ (X : Cx) : State → Prop := X.2.2.2.2.2.2.2.2.2
abbrev My : Type := ByteArray × String × Nat
def OkC (Z : Sys) (X : Cx) (Y : My) : Prop := (xp X).tables.exec = Jvm.exec ∧ (xc X).code = Y.1 ∧ (xc X).maxLocals = Y.2.2 ∧ (xs X).vm.findClass Y.2.1 = some (xm X).cls ∧ (∀ w ∈ TBL, w.before (xa X) (xs X) = true) ∧ Kn Z (xs X) ∧ zs Z ≤ (xs X).heap.size ∧ EE Z (xs X) (xs X).heap
abbrev WX (Z : Sys) (X : Cx) (H : Heap) (locs : List Loc) (cells slots : Nat) (g : JFrame) : Prop := W (xp X) Z.1 (xe X) (xR X) (xs X) (xm X) (xa X) (xb X) (xM X) (xc X) H locs cells slots (xQ X) g
def G (Z : Sys) (X : Cx) (Y : My) (ex : Prop) (cells slots pc : Nat) (loc : List (Nat × Value)) (stk : List Value) (M : Mem) : Prop :=
  OkC Z X Y → ∀ (ls : Array Slot) (H : Heap) (locs : List Loc), lv_has ls Y.2.2 loc → Rp Z ex M H → va_S (Ar Z) (xs X).heap H locs → WX Z X H locs cells slots (F0 (xm X) pc ls stk)
section ROWS
variable {Z : Sys} {X : Cx} {Y : My} {ex : Prop} {cells slots : Nat} {loc loc' : List (Nat × Value)} {rest : List Value} {M : Mem}
abbrev clr (i : Nat) (l : List (Nat × Value)) : List (Nat × Value) := l.filter (fun q => !(q.1 == i) && !(q.1 + 1 == i && q.2.category == 2))
abbrev clr2 (i : Nat) (l : List (Nat × Value)) : List (Nat × Value) := l.filter (fun q => !(q.1 == i) && (!(q.1 == i + 1) && !(q.1 + 1 == i && q.2.category == 2)))
theorem G.iadd (pc : Nat) {x y : Int32} (hd : decode Y.1 pc = .ok (.iadd, 1)) (k : G Z X Y ex cells slots (pc + 1) loc (.int (x + y) :: rest) M) : G Z X Y ex cells slots pc loc (.int y :: .int x :: rest) M := fun O ls H locs hl hP hS => lv_iadd O.1 O.2.1 hd  (k O ls H locs hl hP hS)
theorem G.isub (pc : Nat) {x y : Int32} (hd : decode Y.1 pc = .ok (.isub, 1)) (k : G Z X Y ex cells slots (pc + 1) loc (.int (x - y) :: rest) M) : G Z X Y ex cells slots pc loc (.int y :: .int x :: rest) M := fun O ls H locs hl hP hS => lv_isub O.1 O.2.1 hd  (k O ls H locs hl hP hS)
theorem G.imul (pc : Nat) {x y : Int32} (hd : decode Y.1 pc = .ok (.imul, 1)) (k : G Z X Y ex cells slots (pc + 1) loc (.int (x * y) :: rest) M) : G Z X Y ex cells slots pc loc (.int y :: .int x :: rest) M := fun O ls H locs hl hP hS => lv_imul O.1 O.2.1 hd  (k O ls H locs hl hP hS)
theorem G.iand (pc : Nat) {x y : Int32} (hd : decode Y.1 pc = .ok (.iand, 1)) (k : G Z X Y ex cells slots (pc + 1) loc (.int (x &&& y) :: rest) M) : G Z X Y ex cells slots pc loc (.int y :: .int x :: rest) M := fun O ls H locs hl hP hS => lv_iand O.1 O.2.1 hd  (k O ls H locs hl hP hS)
theorem G.ior (pc : Nat) {x y : Int32} (hd : decode Y.1 pc = .ok (.ior, 1)) (k : G Z X Y ex cells slots (pc + 1) loc (.int (x ||| y) :: rest) M) : G Z X Y ex cells slots pc loc (.int y :: .int x :: rest) M := fun O ls H locs hl hP hS => lv_ior O.1 O.2.1 hd  (k O ls H locs hl hP hS)
theorem G.ishl (pc : Nat) {x y : Int32} (hd : decode Y.1 pc = .ok (.ishl, 1)) (k : G Z X Y ex cells slots (pc + 1) loc (.int (x <<< (y &&& 31)) :: rest) M) : G Z X Y ex cells slots pc loc (.int y :: .int x :: rest) M := fun O ls H locs hl hP hS => lv_ishl O.1 O.2.1 hd  (k O ls H locs hl hP hS)
theorem G.ishr (pc : Nat) {x y : Int32} (hd : decode Y.1 pc = .ok (.ishr, 1)) (k : G Z X Y ex cells slots (pc + 1) loc (.int (x >>> (y &&& 31)) :: rest) M) : G Z X Y ex cells slots pc loc (.int y :: .int x :: rest) M := fun O ls H locs hl hP hS => lv_ishr O.1 O.2.1 hd  (k O ls H locs hl hP hS)
theorem G.ineg (pc : Nat) {x : Int32} (hd : decode Y.1 pc = .ok (.ineg, 1)) (k : G Z X Y ex cells slots (pc + 1) loc (.int (-x) :: rest) M) : G Z X Y ex cells slots pc loc (.int x :: rest) M := fun O ls H locs hl hP hS => lv_ineg O.1 O.2.1 hd  (k O ls H locs hl hP hS)
theorem G.ladd (pc : Nat) {x y : Int64} (hd : decode Y.1 pc = .ok (.ladd, 1)) (k : G Z X Y ex cells slots (pc + 1) loc (.long (x + y) :: rest) M) : G Z X Y ex cells slots pc loc (.long y :: .long x :: rest) M := fun O ls H locs hl hP hS => lv_ladd O.1 O.2.1 hd  (k O ls H locs hl hP hS)
theorem G.lsub (pc : Nat) {x y : Int64} (hd : decode Y.1 pc = .ok (.lsub, 1)) (k : G Z X Y ex cells slots (pc + 1) loc (.long (x - y) :: rest) M) : G Z X Y ex cells slots pc loc (.long y :: .long x :: rest) M := fun O ls H locs hl hP hS => lv_lsub O.1 O.2.1 hd  (k O ls H locs hl hP hS)
theorem G.lmul (pc : Nat) {x y : Int64} (hd : decode Y.1 pc = .ok (.lmul, 1)) (k : G Z X Y ex cells slots (pc + 1) loc (.long (x * y) :: rest) M) : G Z X Y ex cells slots pc loc (.long y :: .long x :: rest) M := fun O ls H locs hl hP hS => lv_lmul O.1 O.2.1 hd  (k O ls H locs hl hP hS)
theorem G.idiv (pc : Nat) {x y : Int32} (hd : decode Y.1 pc = .ok (.idiv, 1)) (hne : ¬ y = 0) (k : G Z X Y ex cells slots (pc + 1) loc (.int (x / y) :: rest) M) : G Z X Y ex cells slots pc loc (.int y :: .int x :: rest) M := fun O ls H locs hl hP hS => lv_idiv O.1 O.2.1 hd hne (k O ls H locs hl hP hS)
theorem G.irem (pc : Nat) {x y : Int32} (hd : decode Y.1 pc = .ok (.irem, 1)) (hne : ¬ y = 0) (k : G Z X Y ex cells slots (pc + 1) loc (.int (x - x / y * y) :: rest) M) : G Z X Y ex cells slots pc loc (.int y :: .int x :: rest) M := fun O ls H locs hl hP hS => lv_irem O.1 O.2.1 hd hne (k O ls H locs hl hP hS)
theorem G.ldiv (pc : Nat) {x y : Int64} (hd : decode Y.1 pc = .ok (.ldiv, 1)) (hne : ¬ y = 0) (k : G Z X Y ex cells slots (pc + 1) loc (.long (x / y) :: rest) M) : G Z X Y ex cells slots pc loc (.long y :: .long x :: rest) M := fun O ls H locs hl hP hS => lv_ldiv O.1 O.2.1 hd hne (k O ls H locs hl hP hS)
theorem G.lcmp (pc : Nat) {x y : Int64} (hd : decode Y.1 pc = .ok (.lcmp, 1)) (k : G Z X Y ex cells slots (pc + 1) loc (.int (lg_cmp x y) :: rest) M) : G Z X Y ex cells slots pc loc (.long y :: .long x :: rest) M := fun O ls H locs hl hP hS => W.lcmp O.1 O.2.1 hd  (k O ls H locs hl hP hS)
theorem G.i2l (pc : Nat) {x : Int32} (hd : decode Y.1 pc = .ok (.i2l, 1)) (k : G Z X Y ex cells slots (pc + 1) loc (.long x.toInt64 :: rest) M) : G Z X Y ex cells slots pc loc (.int x :: rest) M := fun O ls H locs hl hP hS => lv_i2l O.1 O.2.1 hd rfl (k O ls H locs hl hP hS)
theorem G.i2b (pc : Nat) {x : Int32} (hd : decode Y.1 pc = .ok (.i2b, 1)) (k : G Z X Y ex cells slots (pc + 1) loc (.int x.toInt8.toInt32 :: rest) M) : G Z X Y ex cells slots pc loc (.int x :: rest) M := fun O ls H locs hl hP hS => lv_i2b O.1 O.2.1 hd rfl (k O ls H locs hl hP hS)
theorem G.i2s (pc : Nat) {x : Int32} (hd : decode Y.1 pc = .ok (.i2s, 1)) (k : G Z X Y ex cells slots (pc + 1) loc (.int x.toInt16.toInt32 :: rest) M) : G Z X Y ex cells slots pc loc (.int x :: rest) M := fun O ls H locs hl hP hS => lv_i2s O.1 O.2.1 hd rfl (k O ls H locs hl hP hS)
theorem G.i2c (pc : Nat) {x : Int32} (hd : decode Y.1 pc = .ok (.i2c, 1)) (k : G Z X Y ex cells slots (pc + 1) loc (.int (x.toUInt32 % 65536).toInt32 :: rest) M) : G Z X Y ex cells slots pc loc (.int x :: rest) M := fun O ls H locs hl hP hS => lv_i2c O.1 O.2.1 hd rfl (k O ls H locs hl hP hS)
theorem G.iconst (pc : Nat) {n : Int} (v : Int32) (hd : decode Y.1 pc = .ok (.iconst n, 1)) (hv : Int32.ofInt n = v) (k : G Z X Y ex cells slots (pc + 1) loc (.int v :: rest) M) : G Z X Y ex cells slots pc loc rest M := fun O ls H locs hl hP hS => lv_iconst O.1 O.2.1 hd hv (k O ls H locs hl hP hS)
theorem G.bipush (pc : Nat) {n : Int} (v : Int32) (hd : decode Y.1 pc = .ok (.bipush n, 2)) (hv : (Int8.ofInt n).toInt32 = v) (k : G Z X Y ex cells slots (pc + 2) loc (.int v :: rest) M) : G Z X Y ex cells slots pc loc rest M := fun O ls H locs hl hP hS => lv_bipush O.1 O.2.1 hd hv (k O ls H locs hl hP hS)
theorem G.sipush (pc : Nat) {n : Int} (v : Int32) (hd : decode Y.1 pc = .ok (.sipush n, 3)) (hv : (Int16.ofInt n).toInt32 = v) (k : G Z X Y ex cells slots (pc + 3) loc (.int v :: rest) M) : G Z X Y ex cells slots pc loc rest M := fun O ls H locs hl hP hS => lv_sipush O.1 O.2.1 hd hv (k O ls H locs hl hP hS)
theorem G.lconst (pc : Nat) {n : Fin 2} (v : Int64) (hd : decode Y.1 pc = .ok (.lconst n, 1)) (hv : Int64.ofNat (n : Nat) = v) (k : G Z X Y ex cells slots (pc + 1) loc (.long v :: rest) M) : G Z X Y ex cells slots pc loc rest M := fun O ls H locs hl hP hS => lv_lconst O.1 O.2.1 hd hv (k O ls H locs hl hP hS)
theorem G.pop (pc : Nat) {va : Value} (hd : decode Y.1 pc = .ok (.pop, 1)) (hv : va.category = 1) (k : G Z X Y ex cells slots (pc + 1) loc rest M) : G Z X Y ex cells slots pc loc (va :: rest) M := fun O ls H locs hl hP hS => lv_pop O.1 O.2.1 hd hv (k O ls H locs hl hP hS)
theorem G.dup (pc : Nat) {va : Value} (hd : decode Y.1 pc = .ok (.dup, 1)) (hv : va.category = 1) (k : G Z X Y ex cells slots (pc + 1) loc (va :: va :: rest) M) : G Z X Y ex cells slots pc loc (va :: rest) M := fun O ls H locs hl hP hS => lv_dup O.1 O.2.1 hd hv (k O ls H locs hl hP hS)
theorem G.dup_x1 (pc : Nat) {va vb : Value} (hd : decode Y.1 pc = .ok (.dup_x1, 1)) (hv : va.category = 1) (hw : vb.category = 1) (k : G Z X Y ex cells slots (pc + 1) loc (va :: vb :: va :: rest) M) : G Z X Y ex cells slots pc loc (va :: vb :: rest) M := fun O ls H locs hl hP hS => lv_dup_x1 O.1 O.2.1 hd hv hw (k O ls H locs hl hP hS)
theorem G.dup_x2 (pc : Nat) {va vb vc : Value} (hd : decode Y.1 pc = .ok (.dup_x2, 1)) (hv : va.category = 1) (hw : vb.category = 1) (hu : vc.category = 1) (k : G Z X Y ex cells slots (pc + 1) loc (va :: vb :: vc :: va :: rest) M) : G Z X Y ex cells slots pc loc (va :: vb :: vc :: rest) M := fun O ls H locs hl hP hS => lv_dup_x2 O.1 O.2.1 hd hv hw hu (k O ls H locs hl hP hS)
theorem G.dup2 (pc : Nat) {va vb : Value} (hd : decode Y.1 pc = .ok (.dup2, 1)) (hv : va.category = 1) (hw : vb.category = 1) (k : G Z X Y ex cells slots (pc + 1) loc (va :: vb :: va :: vb :: rest) M) : G Z X Y ex cells slots pc loc (va :: vb :: rest) M := fun O ls H locs hl hP hS => lv_dup2_11 O.1 O.2.1 hd hv hw (k O ls H locs hl hP hS)
theorem G.iload_n (pc : Nat) {q : Fin 4} (j : Nat) {i : Nat} {x : Int32} (hd : decode Y.1 pc = .ok (.iload_n q, 1)) (hi : (q : Nat) = i) (hj : loc[j]? = some (i, .int x)) (k : G Z X Y ex cells slots (pc + 1) loc (.int x :: rest) M) : G Z X Y ex cells slots pc loc rest M := fun O ls H locs hl hP hS => lv_iload_n O.1 O.2.1 hd hi (lv_at hl j hj) (k O ls H locs hl hP hS)
theorem G.iload (pc : Nat) (j : Nat) {i : Nat} {x : Int32} (hd : decode Y.1 pc = .ok (.iload i, 2)) (hj : loc[j]? = some (i, .int x)) (k : G Z X Y ex cells slots (pc + 2) loc (.int x :: rest) M) : G Z X Y ex cells slots pc loc rest M := fun O ls H locs hl hP hS => lv_iload O.1 O.2.1 hd (lv_at hl j hj) (k O ls H locs hl hP hS)
theorem G.lload_n (pc : Nat) {q : Fin 4} (j : Nat) {i : Nat} {x : Int64} (hd : decode Y.1 pc = .ok (.lload_n q, 1)) (hi : (q : Nat) = i) (hj : loc[j]? = some (i, .long x)) (k : G Z X Y ex cells slots (pc + 1) loc (.long x :: rest) M) : G Z X Y ex cells slots pc loc rest M := fun O ls H locs hl hP hS => lv_lload_n O.1 O.2.1 hd hi (lv_at hl j hj) (k O ls H locs hl hP hS)
theorem G.lload (pc : Nat) (j : Nat) {i : Nat} {x : Int64} (hd : decode Y.1 pc = .ok (.lload i, 2)) (hj : loc[j]? = some (i, .long x)) (k : G Z X Y ex cells slots (pc + 2) loc (.long x :: rest) M) : G Z X Y ex cells slots pc loc rest M := fun O ls H locs hl hP hS => lv_lload O.1 O.2.1 hd (lv_at hl j hj) (k O ls H locs hl hP hS)
theorem G.aload_n (pc : Nat) {q : Fin 4} (j : Nat) {i : Nat} {x : Nat} (hd : decode Y.1 pc = .ok (.aload_n q, 1)) (hi : (q : Nat) = i) (hj : loc[j]? = some (i, .ref x)) (k : G Z X Y ex cells slots (pc + 1) loc (.ref x :: rest) M) : G Z X Y ex cells slots pc loc rest M := fun O ls H locs hl hP hS => lv_aload_n O.1 O.2.1 hd hi (lv_at hl j hj) (k O ls H locs hl hP hS)
theorem G.aload (pc : Nat) (j : Nat) {i : Nat} {x : Nat} (hd : decode Y.1 pc = .ok (.aload i, 2)) (hj : loc[j]? = some (i, .ref x)) (k : G Z X Y ex cells slots (pc + 2) loc (.ref x :: rest) M) : G Z X Y ex cells slots pc loc rest M := fun O ls H locs hl hP hS => lv_aload O.1 O.2.1 hd (lv_at hl j hj) (k O ls H locs hl hP hS)
theorem G.istore_n (pc : Nat) (loc' : List (Nat × Value)) {q : Fin 4} {i : Nat} {x : Int32} (hd : decode Y.1 pc = .ok (.istore_n q, 1)) (hi : (q : Nat) = i) (hn : i < Y.2.2) (hj : (i, Value.int x) :: clr i loc = loc') (k : G Z X Y ex cells slots (pc + 1) loc' rest M) : G Z X Y ex cells slots pc loc (.int x :: rest) M := fun O ls H locs hl hP hS => lv_istore_n O.1 O.2.1 hd hi hl hn hj (fun ls' hl' => k O ls' H locs hl' hP hS)
theorem G.istore (pc : Nat) (loc' : List (Nat × Value)) {i : Nat} {x : Int32} (hd : decode Y.1 pc = .ok (.istore i, 2)) (hn : i < Y.2.2) (hj : (i, Value.int x) :: clr i loc = loc') (k : G Z X Y ex cells slots (pc + 2) loc' rest M) : G Z X Y ex cells slots pc loc (.int x :: rest) M := fun O ls H locs hl hP hS => lv_istore O.1 O.2.1 hd hl hn hj (fun ls' hl' => k O ls' H locs hl' hP hS)
theorem G.astore_n (pc : Nat) (loc' : List (Nat × Value)) {q : Fin 4} {i : Nat} {x : Nat} (hd : decode Y.1 pc = .ok (.astore_n q, 1)) (hi : (q : Nat) = i) (hn : i < Y.2.2) (hj : (i, Value.ref x) :: clr i loc = loc') (k : G Z X Y ex cells slots (pc + 1) loc' rest M) : G Z X Y ex cells slots pc loc (.ref x :: rest) M := fun O ls H locs hl hP hS => lv_astore_n O.1 O.2.1 hd hi hl hn hj (fun ls' hl' => k O ls' H locs hl' hP hS)
theorem G.astore (pc : Nat) (loc' : List (Nat × Value)) {i : Nat} {x : Nat} (hd : decode Y.1 pc = .ok (.astore i, 2)) (hn : i < Y.2.2) (hj : (i, Value.ref x) :: clr i loc = loc') (k : G Z X Y ex cells slots (pc + 2) loc' rest M) : G Z X Y ex cells slots pc loc (.ref x :: rest) M := fun O ls H locs hl hP hS => lv_astore O.1 O.2.1 hd hl hn hj (fun ls' hl' => k O ls' H locs hl' hP hS)
theorem G.lstore_n (pc : Nat) (loc' : List (Nat × Value)) {q : Fin 4} {i : Nat} {x : Int64} (hd : decode Y.1 pc = .ok (.lstore_n q, 1)) (hi : (q : Nat) = i) (hn : i + 1 < Y.2.2) (hj : (i, Value.long x) :: clr2 i loc = loc') (k : G Z X Y ex cells slots (pc + 1) loc' rest M) : G Z X Y ex cells slots pc loc (.long x :: rest) M := fun O ls H locs hl hP hS => lv_lstore_n O.1 O.2.1 hd hi hl hn hj (fun ls' hl' => k O ls' H locs hl' hP hS)
theorem G.lstore (pc : Nat) (loc' : List (Nat × Value)) {i : Nat} {x : Int64} (hd : decode Y.1 pc = .ok (.lstore i, 2)) (hn : i + 1 < Y.2.2) (hj : (i, Value.long x) :: clr2 i loc = loc') (k : G Z X Y ex cells slots (pc + 2) loc' rest M) : G Z X Y ex cells slots pc loc (.long x :: rest) M := fun O ls H locs hl hP hS => lv_lstore O.1 O.2.1 hd hl hn hj (fun ls' hl' => k O ls' H locs hl' hP hS)
theorem G.iinc (pc : Nat) (j : Nat) (v : Int32) (loc' : List (Nat × Value)) {i : Nat} {n : Int} {x : Int32} (hd : decode Y.1 pc = .ok (.iinc i n, 3)) (hk : loc[j]? = some (i, .int x)) (hv : x + Int32.ofInt n = v) (hn : i < Y.2.2) (hj : (i, Value.int v) :: clr i loc = loc') (k : G Z X Y ex cells slots (pc + 3) loc' rest M) : G Z X Y ex cells slots pc loc rest M := fun O ls H locs hl hP hS => lv_iinc O.1 O.2.1 hd hl hk hv hn hj (fun ls' hl' => k O ls' H locs hl' hP hS)
theorem G.locs (ks : List Nat) (hl : lv_pick loc ks = loc') {pc : Nat} (k : G Z X Y ex cells slots pc loc' rest M) : G Z X Y ex cells slots pc loc rest M := fun O ls H locs hls hP hS => k O ls H locs (lv_sub hls ks hl) hP hS
theorem G.icmp_eq (pc tgt : Nat) {x y : Int32} {off : Int} (hd : decode Y.1 pc = .ok (.if_icmp .eq off, 3)) (ht : (pc : Int) + off = (tgt : Int)) (kt : x = y → G Z X Y ex cells slots tgt loc rest M) (kf : ¬ x = y → G Z X Y ex cells slots (pc + 3) loc rest M) : G Z X Y ex cells slots pc loc (.int y :: .int x :: rest) M := fun O ls H locs hl hP hS => lv_icmp_eq O.1 O.2.1 hd ht (fun h => kt h O ls H locs hl hP hS) (fun h => kf h O ls H locs hl hP hS)
theorem G.if_eq (pc tgt : Nat) {x : Int32} {off : Int} (hd : decode Y.1 pc = .ok (.ifCond .eq off, 3)) (ht : (pc : Int) + off = (tgt : Int)) (kt : x = 0 → G Z X Y ex cells slots tgt loc rest M) (kf : ¬ x = 0 → G Z X Y ex cells slots (pc + 3) loc rest M) : G Z X Y ex cells slots pc loc (.int x :: rest) M := fun O ls H locs hl hP hS => lv_if_eq O.1 O.2.1 hd ht (fun h => kt h O ls H locs hl hP hS) (fun h => kf h O ls H locs hl hP hS)
theorem G.icmp_ne (pc tgt : Nat) {x y : Int32} {off : Int} (hd : decode Y.1 pc = .ok (.if_icmp .ne off, 3)) (ht : (pc : Int) + off = (tgt : Int)) (kt : ¬ x = y → G Z X Y ex cells slots tgt loc rest M) (kf : x = y → G Z X Y ex cells slots (pc + 3) loc rest M) : G Z X Y ex cells slots pc loc (.int y :: .int x :: rest) M := fun O ls H locs hl hP hS => lv_icmp_ne O.1 O.2.1 hd ht (fun h => kt h O ls H locs hl hP hS) (fun h => kf h O ls H locs hl hP hS)
theorem G.if_ne (pc tgt : Nat) {x : Int32} {off : Int} (hd : decode Y.1 pc = .ok (.ifCond .ne off, 3)) (ht : (pc : Int) + off = (tgt : Int)) (kt : ¬ x = 0 → G Z X Y ex cells slots tgt loc rest M) (kf : x = 0 → G Z X Y ex cells slots (pc + 3) loc rest M) : G Z X Y ex cells slots pc loc (.int x :: rest) M := fun O ls H locs hl hP hS => lv_if_ne O.1 O.2.1 hd ht (fun h => kt h O ls H locs hl hP hS) (fun h => kf h O ls H locs hl hP hS)
theorem G.icmp_lt (pc tgt : Nat) {x y : Int32} {off : Int} (hd : decode Y.1 pc = .ok (.if_icmp .lt off, 3)) (ht : (pc : Int) + off = (tgt : Int)) (kt : x < y → G Z X Y ex cells slots tgt loc rest M) (kf : ¬ x < y → G Z X Y ex cells slots (pc + 3) loc rest M) : G Z X Y ex cells slots pc loc (.int y :: .int x :: rest) M := fun O ls H locs hl hP hS => lv_icmp_lt O.1 O.2.1 hd ht (fun h => kt h O ls H locs hl hP hS) (fun h => kf h O ls H locs hl hP hS)
theorem G.if_lt (pc tgt : Nat) {x : Int32} {off : Int} (hd : decode Y.1 pc = .ok (.ifCond .lt off, 3)) (ht : (pc : Int) + off = (tgt : Int)) (kt : x < 0 → G Z X Y ex cells slots tgt loc rest M) (kf : ¬ x < 0 → G Z X Y ex cells slots (pc + 3) loc rest M) : G Z X Y ex cells slots pc loc (.int x :: rest) M := fun O ls H locs hl hP hS => lv_if_lt O.1 O.2.1 hd ht (fun h => kt h O ls H locs hl hP hS) (fun h => kf h O ls H locs hl hP hS)
theorem G.icmp_ge (pc tgt : Nat) {x y : Int32} {off : Int} (hd : decode Y.1 pc = .ok (.if_icmp .ge off, 3)) (ht : (pc : Int) + off = (tgt : Int)) (kt : y ≤ x → G Z X Y ex cells slots tgt loc rest M) (kf : ¬ y ≤ x → G Z X Y ex cells slots (pc + 3) loc rest M) : G Z X Y ex cells slots pc loc (.int y :: .int x :: rest) M := fun O ls H locs hl hP hS => lv_icmp_ge O.1 O.2.1 hd ht (fun h => kt h O ls H locs hl hP hS) (fun h => kf h O ls H locs hl hP hS)
theorem G.if_ge (pc tgt : Nat) {x : Int32} {off : Int} (hd : decode Y.1 pc = .ok (.ifCond .ge off, 3)) (ht : (pc : Int) + off = (tgt : Int)) (kt : 0 ≤ x → G Z X Y ex cells slots tgt loc rest M) (kf : ¬ 0 ≤ x → G Z X Y ex cells slots (pc + 3) loc rest M) : G Z X Y ex cells slots pc loc (.int x :: rest) M := fun O ls H locs hl hP hS => lv_if_ge O.1 O.2.1 hd ht (fun h => kt h O ls H locs hl hP hS) (fun h => kf h O ls H locs hl hP hS)
theorem G.icmp_gt (pc tgt : Nat) {x y : Int32} {off : Int} (hd : decode Y.1 pc = .ok (.if_icmp .gt off, 3)) (ht : (pc : Int) + off = (tgt : Int)) (kt : y < x → G Z X Y ex cells slots tgt loc rest M) (kf : ¬ y < x → G Z X Y ex cells slots (pc + 3) loc rest M) : G Z X Y ex cells slots pc loc (.int y :: .int x :: rest) M := fun O ls H locs hl hP hS => lv_icmp_gt O.1 O.2.1 hd ht (fun h => kt h O ls H locs hl hP hS) (fun h => kf h O ls H locs hl hP hS)
theorem G.if_gt (pc tgt : Nat) {x : Int32} {off : Int} (hd : decode Y.1 pc = .ok (.ifCond .gt off, 3)) (ht : (pc : Int) + off = (tgt : Int)) (kt : 0 < x → G Z X Y ex cells slots tgt loc rest M) (kf : ¬ 0 < x → G Z X Y ex cells slots (pc + 3) loc rest M) : G Z X Y ex cells slots pc loc (.int x :: rest) M := fun O ls H locs hl hP hS => lv_if_gt O.1 O.2.1 hd ht (fun h => kt h O ls H locs hl hP hS) (fun h => kf h O ls H locs hl hP hS)
theorem G.icmp_le (pc tgt : Nat) {x y : Int32} {off : Int} (hd : decode Y.1 pc = .ok (.if_icmp .le off, 3)) (ht : (pc : Int) + off = (tgt : Int)) (kt : x ≤ y → G Z X Y ex cells slots tgt loc rest M) (kf : ¬ x ≤ y → G Z X Y ex cells slots (pc + 3) loc rest M) : G Z X Y ex cells slots pc loc (.int y :: .int x :: rest) M := fun O ls H locs hl hP hS => lv_icmp_le O.1 O.2.1 hd ht (fun h => kt h O ls H locs hl hP hS) (fun h => kf h O ls H locs hl hP hS)
theorem G.if_le (pc tgt : Nat) {x : Int32} {off : Int} (hd : decode Y.1 pc = .ok (.ifCond .le off, 3)) (ht : (pc : Int) + off = (tgt : Int)) (kt : x ≤ 0 → G Z X Y ex cells slots tgt loc rest M) (kf : ¬ x ≤ 0 → G Z X Y ex cells slots (pc + 3) loc rest M) : G Z X Y ex cells slots pc loc (.int x :: rest) M := fun O ls H locs hl hP hS => lv_if_le O.1 O.2.1 hd ht (fun h => kt h O ls H locs hl hP hS) (fun h => kf h O ls H locs hl hP hS)
theorem G.goto (pc tgt : Nat) {off : Int} (hd : decode Y.1 pc = .ok (.goto off, 3)) (ht : (pc : Int) + off = (tgt : Int)) (k : G Z X Y ex cells slots tgt loc rest M) : G Z X Y ex cells slots pc loc rest M := fun O ls H locs hl hP hS => lv_goto O.1 O.2.1 hd ht (k O ls H locs hl hP hS)
theorem G.tableIn (pc tgt : Nat) {dflt lo hi : Int} {offs : Array Int} {len : Nat} {x : Int32} {off : Int} (hd : decode Y.1 pc = .ok (.tableswitch dflt lo hi offs, len)) (h1 : ¬ x.toInt < lo) (h2 : ¬ hi < x.toInt) (ho : offs[(x.toInt - lo).toNat]? = some off) (ht : (pc : Int) + off = (tgt : Int)) (k : G Z X Y ex cells slots tgt loc rest M) : G Z X Y ex cells slots pc loc (.int x :: rest) M := fun O ls H locs hl hP hS => lv_tableIn O.1 O.2.1 hd h1 h2 ho ht (k O ls H locs hl hP hS)
theorem G.tableOut (pc tgt : Nat) {dflt lo hi : Int} {offs : Array Int} {len : Nat} {x : Int32} (hd : decode Y.1 pc = .ok (.tableswitch dflt lo hi offs, len)) (h : x.toInt < lo ∨ hi < x.toInt) (ht : (pc : Int) + dflt = (tgt : Int)) (k : G Z X Y ex cells slots tgt loc rest M) : G Z X Y ex cells slots pc loc (.int x :: rest) M := fun O ls H locs hl hP hS => lv_tableOut O.1 O.2.1 hd h ht (k O ls H locs hl hP hS)
theorem G.lookup (pc tgt : Nat) {dflt : Int} {ps : Array (Int × Int)} {len : Nat} {x : Int32} {off : Int} (hd : decode Y.1 pc = .ok (.lookupswitch dflt ps, len)) (hp : (ps.toList.zip (ps.toList.drop 1)).all (fun (a, next) => a.1 < next.1) = true) (ho : Op.lookupswitch.offset ps.toList dflt x.toInt = off) (ht : (pc : Int) + off = (tgt : Int)) (k : G Z X Y ex cells slots tgt loc rest M) : G Z X Y ex cells slots pc loc (.int x :: rest) M := fun O ls H locs hl hP hS => lv_lookup O.1 O.2.1 hd hp ho ht (k O ls H locs hl hP hS)
theorem G.ldc (pc : Nat) {idx : Nat} (v : Int32) (hw : Cond.constant Y.2.1 idx v ∈ TBL) (hd : decode Y.1 pc = .ok (.ldc idx, 2)) (k : G Z X Y ex cells slots (pc + 2) loc (.int v :: rest) M) : G Z X Y ex cells slots pc loc rest M := fun O ls H locs hl hP hS => lv_ldc O.1 O.2.1 O.2.2.2.1 (O.2.2.2.2.1 _ hw) hd (k O ls H locs hl hP hS)
theorem G.ldcw (pc : Nat) {idx : Nat} (v : Int32) (hw : Cond.constant Y.2.1 idx v ∈ TBL) (hd : decode Y.1 pc = .ok (.ldc_w idx, 3)) (k : G Z X Y ex cells slots (pc + 3) loc (.int v :: rest) M) : G Z X Y ex cells slots pc loc rest M := fun O ls H locs hl hP hS => lv_ldcw O.1 O.2.1 O.2.2.2.1 (O.2.2.2.2.1 _ hw) hd (k O ls H locs hl hP hS)
theorem G.ldc2 (pc : Nat) {idx : Nat} (v : Int64) (hw : Cond.constantLong Y.2.1 idx v ∈ TBL) (hd : decode Y.1 pc = .ok (.ldc2_w idx, 3)) (k : G Z X Y ex cells slots (pc + 3) loc (.long v :: rest) M) : G Z X Y ex cells slots pc loc rest M := fun O ls H locs hl hP hS => lv_ldc2 O.1 O.2.1 O.2.2.2.1 (O.2.2.2.2.1 _ hw) hd (k O ls H locs hl hP hS)
end ROWS
