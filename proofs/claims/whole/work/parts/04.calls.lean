/-! contracts, calls, ends -/
def Qp (Z : Sys) (ex : Prop) (post : Option Value → Mem → Prop) : Array Value → State → Outcome → State → Prop := fun _ st oc t => (∃ (v : Option Value) (M' : Mem), oc = .returned v ∧ post v M' ∧ Rp Z ex M' t.heap) ∧ va_F (Ar Z) st t
def wsC (y : MethodName) (cc : ByteArray) (maxL : Nat) (ret : Option FieldType) : List Cond := .code y cc maxL ret :: TBL
def PcZ (Z : Sys) (ex : Prop) (M : Mem) : State → Prop := fun U => Rp Z ex M U.heap ∧ Kn Z U ∧ zs Z ≤ U.heap.size ∧ EE Z U U.heap
def Ct (Z : Sys) (y : MethodName) (cc : ByteArray) (maxL : Nat) (ret : Option FieldType) (rm : Room) (av : List Value) (M : Mem) (ex : Prop) (post : Option Value → Mem → Prop) : Prop := Met Z.1 y (wsC y cc maxL ret) rm (va_Pc av (PcZ Z ex M)) (Qp Z ex post) rm.cells rm.slots (Ar Z)
def RetOk (Z : Sys) (X : Cx) (ret : Option FieldType) (ex : Prop) (post : Option Value → Mem → Prop) (cells slots : Nat) : Prop := (xM X).sig.returnType = ret ∧ (xM X).locks = false ∧ xQ X = MQ (xb X) (Qp Z ex post) (xa X) (xs X) cells slots (Ar Z)
theorem Ct.of {Z : Sys} {y : MethodName} {cc : ByteArray} {maxL : Nat} {ret : Option FieldType} {rm : Room} {av : List Value} {M : Mem} {ex : Prop} {post : Option Value → Mem → Prop} (hy : plainName y.cls = true) (hlen : (lg_sl av).length ≤ maxL)
    (h : ∀ X : Cx, xR X = rm → RetOk Z X ret ex post rm.cells rm.slots → (xM X).name = y.name → G Z X (cc, y.cls, maxL) ex 0 0 0 (lv_args 0 av) [] M) : Ct Z y cc maxL ret rm av M ex post := by
  refine Met.ofW (cc := cc) (maxL := maxL) (ret := ret) hy rfl ?_
  intro p e s m args below meth c s₁ B hml hv
  obtain ⟨rfl, hP, hKn, hz, hE⟩ := hv
  have hts := atoms_spec (ws := wsC y cc maxL ret) B.pre
  have hG := h (p, e, rm, s, m, av.toArray, below, meth, c, MQ below (Qp Z ex post) av.toArray s rm.cells rm.slots (Ar Z)) rfl ⟨B.returns, B.notSynchronized, rfl⟩ (name_of_methodNamed B.named B.method).1
  have hl := lv_entry av (n := maxL) hlen
  rw [lg_entry_eq]
  exact hG ⟨B.exec, B.bytes, hml, findClass_of_methodNamed B.named, fun w hw => hts w (List.mem_cons_of_mem _ hw), hKn, hz, hE⟩ _ _ _ hl hP va_S.rf
theorem Ct.weaken {Z : Sys} {y : MethodName} {cc : ByteArray} {maxL : Nat} {ret : Option FieldType} {rm : Room} {av : List Value} {M : Mem} {ex : Prop} {post post' : Option Value → Mem → Prop} (h : Ct Z y cc maxL ret rm av M ex post) (hp : ∀ v M', post v M' → post' v M') : Ct Z y cc maxL ret rm av M ex post' := by
  have e : ∀ {a st o t}, Qp Z ex post a st o t → Qp Z ex post' a st o t := fun {a st o t} q => ⟨by obtain ⟨v, M', h1, h2, h3⟩ := q.1; exact ⟨v, M', h1, hp v M' h2, h3⟩, q.2⟩
  intro p e' ha hc hk s m args below hf hfit hP hKc
  obtain ⟨t, o, h1, h2, h3, h4⟩ := h p e' ha hc hk s m args below hf hfit hP hKc
  exact ⟨t, o, h1, h2, h3, e h4.1, h4.2⟩
/-- what the tables say of a method -/
def MOk (y : MethodName) (cc : ByteArray) (maxL : Nat) (ret : Option FieldType) (n : Nat) : Prop := (y.cls ≠ "java/lang/invoke/MethodHandle" ∧ y.cls ≠ "java/lang/invoke/VarHandle" ∧ (parseMethodDescriptor y.desc).map (fun d => d.parameters.length) = some n) ∧ Cond.code y cc maxL ret ∈ TBL ∧ Cond.initialized y.cls ∈ TBL
def VOk (y : MethodName) : Prop := Cond.instanceMethod y ∈ TBL ∧ Cond.selects y.cls y y ∈ TBL
section CROWS
variable {Z : Sys} {X : Cx} {Y : My} {ex : Prop} {cells slots : Nat} {loc loc' : List (Nat × Value)} {rest : List Value} {M : Mem}
theorem wsC_in {y : MethodName} {cc : ByteArray} {maxL : Nat} {ret : Option FieldType} (h : Cond.code y cc maxL ret ∈ TBL) : ∀ w ∈ wsC y cc maxL ret, w ∈ TBL := fun w hw => by
  rcases List.mem_cons.mp hw with rfl | hw
  · exact h
  · exact hw
theorem PcZ.blind {av : List Value} : FrameBlind (va_Pc av (PcZ Z ex M)) := fun a U g mk q => ⟨q.1, q.2.1, q.2.2.1.calling, q.2.2.2.1, q.2.2.2.2.calling⟩
theorem G.after {p : Program} {l : Launch} {e : Env} {R : Room} {s : State} {m : MethodId} {args : Array Value} {below : List Frame} {meth : Method} {c : Code} {H : Heap} {locs : List Loc} {cells slots mc ms : Nat} {Q : State → Prop} {post : Option Value → Mem → Prop} {pc : Nat} {ls : Array Slot} {st0 rest : List Value} {a : Array Value}
    (hr : va_Run p l e R s m args below meth c H locs cells slots mc ms (F0 m pc ls st0) rest (Qp Z ex post a) (Ar Z)) (hS : va_S (Ar Z) s.heap H locs)
    (kk : ∀ (v : Option Value) (M' : Mem) (H1 : Heap) (locs1 : List Loc), post v M' → Rp Z ex M' H1 → va_S (Ar Z) s.heap H1 locs1 → W p l e R s m args below meth c H1 locs1 (cells + mc) (slots + ms) Q (F0 m (pc + 3) ls (v.toList ++ rest))) : W p l e R s m args below meth c H locs cells slots Q (F0 m pc ls st0) := by
  intro T hT X
  obtain ⟨v, st₀, t, T', L, h0, X', hL, e1, e2, ⟨⟨v', M', hv, hp, hb⟩, hz, hk⟩, st⟩ := hr T hT X
  cases hv
  rw [h0] at hz hk
  obtain ⟨t2, a1, b1⟩ := kk v M' T'.heap (locs ++ L) hp (by rw [e1]; exact hb)
    ⟨Nat.le_trans hS.1 (by rw [e1]; exact hz), fun q h1 h2 => by rw [e1, hk q (Nat.lt_of_lt_of_le h1 hS.1) h2]; exact hS.2.1 q h1 h2, fun q hq => by
      rcases List.mem_append.mp hq with h | h
      · exact hS.2.2 q h
      · exact hL q h⟩ T' rfl X'
  exact ⟨t2, st t2 a1, b1⟩
abbrev RmOk (R : Room) (cells slots maxL : Nat) (rm : Room) : Prop := rm.frames + 1 ≤ R.frames ∧ 8 + (maxL + 11) + rm.locals ≤ R.locals ∧ cells + rm.cells ≤ R.cells ∧ slots + rm.slots ≤ R.slots
theorem pcz {Z : Sys} {ex : Prop} {M : Mem} {s : State} {H : Heap} {locs : List Loc} (hP : Rp Z ex M H) (hK : Kn Z s) (hE : EE Z s s.heap) (hS : va_S (Ar Z) s.heap H locs) : ∀ U : State, U.heap = H → s.WarmedH U.vm → PcZ Z ex M U := fun U hU hW => ⟨by rw [hU]; exact hP, Kn.moved hW hK, by rw [hU]; exact Nat.le_trans (Nat.le_add_right _ _) hP.2.1, by rw [hU]; exact EE.moved hW (EE.kept hE hS.2.1)⟩
theorem recv {ci N b : Nat} {C : String} {T : u_T} {ty : Nat → FieldType} {s : State} {H : Heap} (hc : ClsOk ci C T ty N) (hb : (mK M)[b]? = some (ci, N)) (hP : Rp Z ex M H) (hK : Kn Z s) : ∃ cellB : Cell, H[zs Z + b]? = some cellB ∧ cellB.vm.isStatics = false ∧ s.vm.findClass C = some cellB.cls :=
  va_recv (cl := vwCl) (ws := [(zs Z + b, ent Z M b (ci, N))]) (q := (C, T, N)) (fs := (List.range N).map (vf Z M b ci)) hK.1 (hP.one hb) hc.2.1 (q0 := 0) (by rw [ent_obj hc.1]; rfl)
theorem G.callV (pc : Nat) {ci N b idx maxL : Nat} {C : String} {T : u_T} {ty : Nat → FieldType} {y : MethodName} {cc : ByteArray} {ret : Option FieldType} {rm R : Room} {As stk : List Value} {post : Option Value → Mem → Prop} (hc : ClsOk ci C T ty N) (hb : (mK M)[b]? = some (ci, N)) (hct : Ct Z y cc maxL ret rm (.ref (zs Z + b) :: As) M ex post) (hm : MOk y cc maxL ret As.length) (hv : VOk y) (hyC : y.cls = C) (w1 : Cond.methodLink Y.2.1 idx y ∈ TBL) (hR : xR X = R) (hr : RmOk R cells slots maxL rm) (hst : As.reverse ++ .ref (zs Z + b) :: rest = stk) (hrest : (rest.map fun v => v.category).sum ≤ 8)
    (hd : decode Y.1 pc = .ok (.invokevirtual idx, 3)) (kk : ∀ v M', post v M' → G Z X Y ex (cells + rm.cells) (slots + rm.slots) (pc + 3) loc (v.toList ++ rest) M') : G Z X Y ex cells slots pc loc stk M := fun O ls H locs hl hP hS => by
  subst hR; subst hst; subst hyC
  refine G.after (va_runV (As := As) (rest := rest) (b := zs Z + b) ⟨O.1, O.2.1, O.2.2.1, O.2.2.2.1, O.2.2.2.2.1⟩ hct (cwV As.length O.2.2.2.2.1 (gin ?_) rfl rfl rfl ⟨rfl, hm.1⟩ ⟨hr.1, hr.2.1⟩) ⟨PcZ.blind, recv hc hb hP O.2.2.2.2.2.1, fun U hU hW => ⟨rfl, pcz hP O.2.2.2.2.2.1 O.2.2.2.2.2.2.2 hS U hU hW⟩⟩ rfl rfl hl.1 rfl (lv_room hrest) hd hr.2.2) hS (fun v M' H1 locs1 hp hP1 hS1 => kk v M' hp O ls H1 locs1 hl hP1 hS1)
  intro w hw
  rcases List.mem_append.mp hw with h | h
  · rcases List.mem_cons.mp h with rfl | h
    · exact w1
    rcases List.mem_cons.mp h with rfl | h
    · exact hv.1
    rcases List.mem_cons.mp h with rfl | h
    · exact hv.2
    rcases List.mem_cons.mp h with rfl | h
    · exact hm.2.2
    · cases h
  · exact wsC_in hm.2.1 w h
theorem G.callS (pc : Nat) {idx maxL : Nat} {y : MethodName} {cc : ByteArray} {ret : Option FieldType} {rm R : Room} {As stk : List Value} {post : Option Value → Mem → Prop} (hct : Ct Z y cc maxL ret rm As M ex post) (hm : MOk y cc maxL ret As.length) (hs : Cond.static y ∈ TBL) (w1 : Cond.methodLink Y.2.1 idx y ∈ TBL) (hR : xR X = R) (hr : RmOk R cells slots maxL rm) (hst : As.reverse ++ rest = stk) (hrest : (rest.map fun v => v.category).sum ≤ 8)
    (hd : decode Y.1 pc = .ok (.invokestatic idx, 3)) (kk : ∀ v M', post v M' → G Z X Y ex (cells + rm.cells) (slots + rm.slots) (pc + 3) loc (v.toList ++ rest) M') : G Z X Y ex cells slots pc loc stk M := fun O ls H locs hl hP hS => by
  subst hR; subst hst
  have cb : CallB (xR X) (xs X) (xa X) Y.2.1 idx y cc maxL ret (wsC y cc maxL ret) rm rm.cells rm.slots As.length := callB_of As.length O.2.2.2.2.1 (gin (wsC_in hm.2.1)) rfl rfl rfl (O.2.2.2.2.1 _ hm.2.2) (O.2.2.2.2.1 _ w1) hm.1 ⟨hr.1, hr.2.1⟩
  exact G.after (va_runS (As := As) (rest := rest) ⟨O.1, O.2.1, O.2.2.1, O.2.2.2.1, O.2.2.2.2.1⟩ hct ⟨cb, O.2.2.2.2.1 _ hs⟩ ⟨PcZ.blind, fun U hU hW => ⟨rfl, pcz hP O.2.2.2.2.2.1 O.2.2.2.2.2.2.2 hS U hU hW⟩⟩ rfl rfl hl.1 rfl (lv_room hrest) hd hr.2.2) hS (fun v M' H1 locs1 hp hP1 hS1 => kk v M' hp O ls H1 locs1 hl hP1 hS1)
/-- a static private method of a nest mate -/
theorem G.callSN (pc : Nat) {host : String} {idx maxL : Nat} {y : MethodName} {cc : ByteArray} {ret : Option FieldType} {rm R : Room} {As stk : List Value} {post : Option Value → Mem → Prop} (hct : Ct Z y cc maxL ret rm As M ex post) (hm : MOk y cc maxL ret As.length) (hs : Cond.static y ∈ TBL) (w1 : Cond.methodLinkNest Y.2.1 idx y host ∈ NST) (hR : xR X = R) (hr : RmOk R cells slots maxL rm) (hst : As.reverse ++ rest = stk) (hrest : (rest.map fun v => v.category).sum ≤ 8)
    (hd : decode Y.1 pc = .ok (.invokestatic idx, 3)) (kk : ∀ v M', post v M' → G Z X Y ex (cells + rm.cells) (slots + rm.slots) (pc + 3) loc (v.toList ++ rest) M') : G Z X Y ex cells slots pc loc stk M := fun O ls H locs hl hP hS => by
  subst hR; subst hst
  have cb := va_cnB (R := xR X) (s := xs X) (args := xa X) (own := Y.2.1) (host := host) (index := idx) (y := y) (bytes := cc) (maxL := maxL) (ret := ret) (ws := wsC y cc maxL ret) (rm := rm) As.length O.2.2.2.2.1 (gin (wsC_in hm.2.1)) rfl rfl rfl (O.2.2.2.2.2.1.2 _ w1) (O.2.2.2.2.1 _ hm.2.2) hm.1 ⟨hr.1, hr.2.1⟩
  exact G.after (va_runSN (As := As) (rest := rest) ⟨O.1, O.2.1, O.2.2.1, O.2.2.2.1, O.2.2.2.2.1⟩ hct ⟨cb, O.2.2.2.2.1 _ hs, trivial⟩ ⟨PcZ.blind, fun U hU hW => ⟨rfl, pcz hP O.2.2.2.2.2.1 O.2.2.2.2.2.2.2 hS U hU hW⟩⟩ rfl rfl hl.1 rfl (lv_room hrest) hd hr.2.2) hS (fun v M' H1 locs1 hp hP1 hS1 => kk v M' hp O ls H1 locs1 hl hP1 hS1)
/-- a constructor -/
theorem G.callI (pc : Nat) {b idx maxL : Nat} {y : MethodName} {cc : ByteArray} {rm R : Room} {As stk : List Value} {post : Option Value → Mem → Prop} (hct : Ct Z y cc maxL none rm (.ref (zs Z + b) :: As) M ex post) (hm : MOk y cc maxL none As.length) (hi : Cond.instanceMethod y ∈ TBL) (hy1 : y.name = "<init>") (w1 : Cond.methodLink Y.2.1 idx y ∈ TBL) (hR : xR X = R) (hr : RmOk R cells slots maxL rm) (hst : As.reverse ++ .ref (zs Z + b) :: rest = stk) (hrest : (rest.map fun v => v.category).sum ≤ 8)
    (hd : decode Y.1 pc = .ok (.invokespecial idx, 3)) (kk : ∀ v M', post v M' → G Z X Y ex (cells + rm.cells) (slots + rm.slots) (pc + 3) loc (v.toList ++ rest) M') : G Z X Y ex cells slots pc loc stk M := fun O ls H locs hl hP hS => by
  subst hR; subst hst
  have cb := cwI (R := xR X) (s := xs X) (args := xa X) (own := Y.2.1) (index := idx) (y := y) (bytes := cc) (maxL := maxL) (ws := wsC y cc maxL none) (rm := rm) As.length O.2.2.2.2.1 (gin (wsC_in hm.2.1)) rfl rfl rfl (O.2.2.2.2.1 _ hm.2.2) (O.2.2.2.2.1 _ w1) (O.2.2.2.2.1 _ hi) hy1 hm.1 ⟨hr.1, hr.2.1⟩
  exact G.after (va_runI (b := zs Z + b) (As := As) (rest := rest) ⟨O.1, O.2.1, O.2.2.1, O.2.2.2.1, O.2.2.2.2.1⟩ hct cb ⟨PcZ.blind, fun U hU hW => ⟨rfl, pcz hP O.2.2.2.2.2.1 O.2.2.2.2.2.2.2 hS U hU hW⟩⟩ rfl rfl hl.1 rfl (lv_room hrest) hd hr.2.2) hS (fun v M' H1 locs1 hp hP1 hS1 => kk v M' hp O ls H1 locs1 hl hP1 hS1)
/-- a private constructor of a nest mate -/
theorem G.callIN (pc : Nat) {host : String} {b idx maxL : Nat} {y : MethodName} {cc : ByteArray} {rm R : Room} {As stk : List Value} {post : Option Value → Mem → Prop} (hct : Ct Z y cc maxL none rm (.ref (zs Z + b) :: As) M ex post) (hm : MOk y cc maxL none As.length) (hi : Cond.instanceMethod y ∈ TBL) (hy1 : y.name = "<init>") (w1 : Cond.methodLinkNest Y.2.1 idx y host ∈ NST) (hR : xR X = R) (hr : RmOk R cells slots maxL rm) (hst : As.reverse ++ .ref (zs Z + b) :: rest = stk) (hrest : (rest.map fun v => v.category).sum ≤ 8)
    (hd : decode Y.1 pc = .ok (.invokespecial idx, 3)) (kk : ∀ v M', post v M' → G Z X Y ex (cells + rm.cells) (slots + rm.slots) (pc + 3) loc (v.toList ++ rest) M') : G Z X Y ex cells slots pc loc stk M := fun O ls H locs hl hP hS => by
  subst hR; subst hst
  have cb := va_cnB (R := xR X) (s := xs X) (args := xa X) (own := Y.2.1) (host := host) (index := idx) (y := y) (bytes := cc) (maxL := maxL) (ret := none) (ws := wsC y cc maxL none) (rm := rm) As.length O.2.2.2.2.1 (gin (wsC_in hm.2.1)) rfl rfl rfl (O.2.2.2.2.2.1.2 _ w1) (O.2.2.2.2.1 _ hm.2.2) hm.1 ⟨hr.1, hr.2.1⟩
  exact G.after (va_runIN (b := zs Z + b) (As := As) (rest := rest) ⟨O.1, O.2.1, O.2.2.1, O.2.2.2.1, O.2.2.2.2.1⟩ hct ⟨cb, hy1, O.2.2.2.2.1 _ hi⟩ ⟨PcZ.blind, fun U hU hW => ⟨rfl, pcz hP O.2.2.2.2.2.1 O.2.2.2.2.2.2.2 hS U hU hW⟩⟩ rfl rfl hl.1 rfl (lv_room hrest) hd hr.2.2) hS (fun v M' H1 locs1 hp hP1 hS1 => kk v M' hp O ls H1 locs1 hl hP1 hS1)
theorem G.objInit (pc : Nat) {a idx : Nat} (w1 : Cond.methodLink Y.2.1 idx Lib.objectInit ∈ TBL) (w2 : Cond.instanceMethod Lib.objectInit ∈ TBL) (w3 : Cond.code Lib.objectInit ⟨#[0xb1]⟩ 1 none ∈ TBL) {R : Room} (hR : xR X = R) (hr : 1 ≤ R.frames ∧ (rest.map fun v => v.category).sum + 12 ≤ R.locals) (hd : decode Y.1 pc = .ok (.invokespecial idx, 3)) (kk : G Z X Y ex cells slots (pc + 3) loc rest M) : G Z X Y ex cells slots pc loc (.ref a :: rest) M := fun O ls H locs hl hP hS => by
  subst hR
  exact W.objInit O.1 O.2.1 O.2.2.2.1 (O.2.2.2.2.1 _ w1) (O.2.2.2.2.1 _ w2) (O.2.2.2.2.1 _ w3) rfl (by rw [O.2.2.1]; exact hl.1) rfl hd hr.1 (by show 2 * 0 + _ + 12 ≤ _; omega) (kk O ls H locs hl hP hS)
theorem G.widen {cells' slots' pc : Nat} {stk : List Value} (h1 : cells ≤ cells') (h2 : slots ≤ slots') (kk : G Z X Y ex cells' slots' pc loc stk M) : G Z X Y ex cells slots pc loc stk M := fun O ls H locs hl hP hS => W.widen h1 h2 (kk O ls H locs hl hP hS)
theorem G.iret (pc : Nat) {v : Int32} {post : Option Value → Mem → Prop} (hq : RetOk Z X (some .int) ex post cells slots) (hd : decode Y.1 pc = .ok (.ireturn, 1)) (h : post (some (.int v)) M) : G Z X Y ex cells slots pc loc [.int v] M := fun O ls H locs hl hP hS => by
  show W _ _ _ _ _ _ _ _ _ _ _ _ _ _ (xQ X) _
  rw [hq.2.2]
  exact W.iret O.1 O.2.1 hq.1 (fun t ht hW => ⟨⟨_, _, rfl, h, by rw [ht]; exact hP⟩, hS.F ht⟩) hS.2.2 hd hq.2.1
theorem G.zret (pc : Nat) {v : Int32} {post : Option Value → Mem → Prop} (hq : RetOk Z X (some .boolean) ex post cells slots) (hn : v = 0 ∨ v = 1) (hd : decode Y.1 pc = .ok (.ireturn, 1)) (h : post (some (.int v)) M) : G Z X Y ex cells slots pc loc [.int v] M := fun O ls H locs hl hP hS => by
  show W _ _ _ _ _ _ _ _ _ _ _ _ _ _ (xQ X) _
  rw [hq.2.2]
  exact W.zret O.1 O.2.1 hq.1 (by rcases hn with rfl | rfl <;> rfl) (fun t ht hW => ⟨⟨_, _, rfl, h, by rw [ht]; exact hP⟩, hS.F ht⟩) hS.2.2 hd hq.2.1
theorem G.lret (pc : Nat) {v : Int64} {post : Option Value → Mem → Prop} (hq : RetOk Z X (some .long) ex post cells slots) (hd : decode Y.1 pc = .ok (.lreturn, 1)) (h : post (some (.long v)) M) : G Z X Y ex cells slots pc loc [.long v] M := fun O ls H locs hl hP hS => by
  show W _ _ _ _ _ _ _ _ _ _ _ _ _ _ (xQ X) _
  rw [hq.2.2]
  exact W.lret O.1 O.2.1 hq.1 (fun t ht hW => ⟨⟨_, _, rfl, h, by rw [ht]; exact hP⟩, hS.F ht⟩) hS.2.2 hd hq.2.1
theorem G.vret (pc : Nat) {post : Option Value → Mem → Prop} (hq : RetOk Z X none ex post cells slots) (hd : decode Y.1 pc = .ok (.return_, 1)) (h : post none M) : G Z X Y ex cells slots pc loc [] M := fun O ls H locs hl hP hS => by
  show W _ _ _ _ _ _ _ _ _ _ _ _ _ _ (xQ X) _
  rw [hq.2.2]
  exact W.vret O.1 O.2.1 hq.1 (fun t ht hW => ⟨⟨_, _, rfl, h, by rw [ht]; exact hP⟩, hS.F ht⟩) hS.2.2 hd hq.2.1
/-! what makes cells -/
theorem G.new (pc : Nat) {ci N idx : Nat} {C : String} {T : u_T} {ty : Nat → FieldType} (hc : ClsOk ci C T ty N) (w1 : Cond.classLink Y.2.1 idx C ∈ TBL) (w2 : Cond.instantiable C N ∈ TBL) (w3 : Cond.initialized C ∈ TBL) (he : ex) {R : Room} (hR : xR X = R) (hr : cells + 1 ≤ R.cells ∧ slots + N ≤ R.slots) (hd : decode Y.1 pc = .ok (.new idx, 3)) (kk : G Z X Y ex (cells + 1) (slots + N) (pc + 3) loc (.ref (zs Z + (mK M).length) :: rest) (nw M (ci, N))) : G Z X Y ex cells slots pc loc rest M := fun O ls H locs hl hP hS => by
  subst hR
  have hKc := O.2.2.2.2.2.1.1.1 ci _ hc.2.1
  refine W.newcK O.1 O.2.1 O.2.2.2.1 (O.2.2.2.2.1 _ w1) (O.2.2.2.2.1 _ w2) (O.2.2.2.2.1 _ w3) rfl hd hr.1 hr.2 hKc.2.1 rfl (fun H' kC hkC e1 z1 o1 => ?_)
  have hs := hP.2.2 he
  have hP' : Rp Z ex (nw M (ci, N)) H' := hP.push he z1 o1 (by
    rw [ent_obj hc.1]
    refine ⟨_, hc.2.1, (u_born ty O.2.2.2.2.1 hc.2.2.1 hKc hkC e1 hc.2.2.2.1).to (fun j hj => ?_)⟩
    rw [vp_range hj, hc.2.2.2.2.2 j hj]
    unfold vf
    by_cases h : FR ci j = true
    · rw [if_pos h, if_pos h]; simp [mP, mK, nw, va_rf]
    · rw [if_neg h, if_neg h]; simp [mI, mK, nw])
  rw [hs]
  exact kk O ls H' locs hl hP' (push_S hS (by omega) o1)
theorem G.newa (pc : Nat) {atype : ArrayType} (t N : Nat) {n : Int32} {ft : FieldType} (ht : t = 10 ∨ t = 11 ∨ t = 12) (hat : newarray.typeOf atype = ft) (hfa : (tysZ Z)[t - 10]? = some (zA Z t, ft)) (w1 : Cond.arrayClass ft ∈ TBL) (hprim : ∀ U cA, va_RA U cA ft = (U.vm.findClass ("[" ++ ft.toString) = some cA)) (hent : ∀ M' : Mem, (∀ j, mI M' (mK M).length j = 0) → (∀ j, mJ M' (mK M).length j = 0) → ∀ H', H'[zs Z + (mK M).length]? = some (arrV (zA Z t) N (fun _ => defaultValue ft)) → va_at (zD Z) vwCl (zs Z + (mK M).length, ent Z M' (mK M).length (t, N)) H') (hn : ¬ n < 0) (hN : n.toNatClampNeg = N) (hb : N * componentBytes ft ≤ 536870912) (he : ex) {R : Room} (hR : xR X = R) (hr : cells + 1 ≤ R.cells ∧ slots + N ≤ R.slots) (hd : decode Y.1 pc = .ok (.newarray atype, 2)) (kk : G Z X Y ex (cells + 1) (slots + N) (pc + 2) loc (.ref (zs Z + (mK M).length) :: rest) (nw M (t, N))) : G Z X Y ex cells slots pc loc (.int n :: rest) M := fun O ls H locs hl hP hS => by
  subst hR; subst hat
  refine va_newaK O.1 O.2.1 (O.2.2.2.2.1 _ w1) rfl hd rfl hn hN hb hr.1 hr.2 rfl (fun H' cA e1 z1 o1 hAr hNm => ?_)
  have hs := hP.2.2 he
  have hcA : cA = zA Z t := by
    have h := (O.2.2.2.2.2.1.1.2 _ _ hfa).2
    rw [hprim] at h
    exact Option.some.inj (hNm.symm.trans h)
  subst hcA
  have hP' : Rp Z ex (nw M (t, N)) H' := hP.push he z1 o1 (by
    rw [hs]
    exact hent _ (fun j => by simp [mI, mK, nw]) (fun j => by simp [mJ, mK, nw]) _ (by rw [← hs]; exact e1))
  rw [hs]
  exact kk O ls H' locs hl hP' (push_S hS (by omega) o1)
theorem G.newaI (pc : Nat) (N : Nat) {n : Int32} (w1 : Cond.arrayClass .int ∈ TBL) (hn : ¬ n < 0) (hN : n.toNatClampNeg = N) (hb : N * componentBytes .int ≤ 536870912) (he : ex) {R : Room} (hR : xR X = R) (hr : cells + 1 ≤ R.cells ∧ slots + N ≤ R.slots) (hd : decode Y.1 pc = .ok (.newarray .int, 2)) (kk : G Z X Y ex (cells + 1) (slots + N) (pc + 2) loc (.ref (zs Z + (mK M).length) :: rest) (nw M (10, N))) : G Z X Y ex cells slots pc loc (.int n :: rest) M :=
  G.newa (atype := .int) (ft := .int) pc 10 N (Or.inl rfl) rfl rfl w1 (fun _ _ => rfl) (fun M' h1 _ H' h => by
    show H'[_]? = some (arrV (zA Z 10) N (fun j => .int (mI M' _ j)))
    rw [h]; congr 2; funext j; rw [h1]; rfl) hn hN hb he hR hr hd kk
theorem G.newaZ (pc : Nat) (N : Nat) {n : Int32} (w1 : Cond.arrayClass .boolean ∈ TBL) (hn : ¬ n < 0) (hN : n.toNatClampNeg = N) (hb : N * componentBytes .boolean ≤ 536870912) (he : ex) {R : Room} (hR : xR X = R) (hr : cells + 1 ≤ R.cells ∧ slots + N ≤ R.slots) (hd : decode Y.1 pc = .ok (.newarray .boolean, 2)) (kk : G Z X Y ex (cells + 1) (slots + N) (pc + 2) loc (.ref (zs Z + (mK M).length) :: rest) (nw M (11, N))) : G Z X Y ex cells slots pc loc (.int n :: rest) M :=
  G.newa (atype := .boolean) (ft := .boolean) pc 11 N (Or.inr (Or.inl rfl)) rfl rfl w1 (fun _ _ => rfl) (fun M' h1 _ H' h => by
    show H'[_]? = some (arrV (zA Z 11) N (fun j => .int (mI M' _ j)))
    rw [h]; congr 2; funext j; rw [h1]; rfl) hn hN hb he hR hr hd kk
theorem G.newaJ (pc : Nat) (N : Nat) {n : Int32} (w1 : Cond.arrayClass .long ∈ TBL) (hn : ¬ n < 0) (hN : n.toNatClampNeg = N) (hb : N * componentBytes .long ≤ 536870912) (he : ex) {R : Room} (hR : xR X = R) (hr : cells + 1 ≤ R.cells ∧ slots + N ≤ R.slots) (hd : decode Y.1 pc = .ok (.newarray .long, 2)) (kk : G Z X Y ex (cells + 1) (slots + N) (pc + 2) loc (.ref (zs Z + (mK M).length) :: rest) (nw M (12, N))) : G Z X Y ex cells slots pc loc (.int n :: rest) M :=
  G.newa (atype := .long) (ft := .long) pc 12 N (Or.inr (Or.inr rfl)) rfl rfl w1 (fun _ _ => rfl) (fun M' _ h1 H' h => by
    show H'[_]? = some (arrV (zA Z 12) N (fun j => .long (mJ M' _ j)))
    rw [h]; congr 2; funext j; rw [h1]; rfl) hn hN hb he hR hr hd kk
theorem G.newq (pc : Nat) (t N : Nat) {C : String} {idx : Nat} {n : Int32} (ht : 13 ≤ t) (hfa : (tysZ Z)[t - 10]? = some (zA Z t, .object C)) (w1 : Cond.classLink Y.2.1 idx C ∈ TBL) (w2 : Cond.arrayOver (.object C) ∈ NST) (hn : ¬ n < 0) (hN : n.toNatClampNeg = N) (hb : N * 4 ≤ 536870912) (he : ex) {R : Room} (hR : xR X = R) (hr : cells + 1 ≤ R.cells ∧ slots + N ≤ R.slots) (hd : decode Y.1 pc = .ok (.anewarray idx, 3)) (kk : G Z X Y ex (cells + 1) (slots + N) (pc + 3) loc (.ref (zs Z + (mK M).length) :: rest) (nw M (t, N))) : G Z X Y ex cells slots pc loc (.int n :: rest) M := fun O ls H locs hl hP hS => by
  subst hR; subst hN
  refine W.anew O.1 O.2.1 O.2.2.2.1 (O.2.2.2.2.1 _ w1) (va_AO.use (O.2.2.2.2.2.1.2 _ w2)) rfl hd rfl hn hb hr.1 hr.2 (fun cA kA comp f1 f2 f3 f4 => ?_)
  generalize hH1 : H.push ({ cls := cA, slots := Array.replicate n.toNatClampNeg .null, vm := .none } : Cell) = H1
  have z1 : H1.size = H.size + 1 := by rw [← hH1, Array.size_push]
  have e1 : H1[H.size]? = some (arrV cA n.toNatClampNeg (fun _ => .null)) := by rw [← hH1, Array.getElem?_push_size, ← arrV_new]
  have o1 : ∀ q : Nat, q < H.size → H1[q]? = H[q]? := fun q hq => by rw [← hH1, Array.getElem?_push, if_neg (Nat.ne_of_lt hq)]
  have hs := hP.2.2 he
  have hcA : cA = zA Z t := by
    obtain ⟨_, _, _, _, _, h⟩ := (O.2.2.2.2.2.1.1.2 _ _ hfa).2
    exact Option.some.inj (f1.symm.trans h)
  subst hcA
  have hP' : Rp Z ex (nw M (t, n.toNatClampNeg)) H1 := hP.push he z1 o1 (by
    unfold ent
    rw [if_neg (by show ¬ t < 10; omega), if_neg (by show ¬ t < 12; omega), if_neg (by show ¬ t = 12; omega)]
    show H1[H.size]? = some (arrV (zA Z t) n.toNatClampNeg (fun j => va_rf ((mP (nw M (t, n.toNatClampNeg)) (mK M).length j).map (zs Z + ·))))
    rw [e1]
    congr 2
    funext j
    simp [mP, mK, nw, va_rf])
  show W _ _ _ _ _ _ _ _ _ _ _ _ _ _ _ (F0 (xm X) (pc + 3) ls (.ref H.size :: rest))
  rw [hs]
  exact kk O ls H1 locs hl hP' (push_S hS (by omega) o1)
theorem G.astq (pc : Nat) {a n t ci N v : Nat} {C : String} {T : u_T} {ty : Nat → FieldType} {i : Int32} (hk : (mK M)[a]? = some (t, n)) (ht : 13 ≤ t) (hfa : (tysZ Z)[t - 10]? = some (zA Z t, .object C)) (hc : ClsOk ci C T ty N) (hv : (mK M)[v]? = some (ci, N)) (hin : vp_in i n) (hd : decode Y.1 pc = .ok (.aastore, 1)) (kk : G Z X Y ex cells slots (pc + 1) loc rest (sP M a i.toNatClampNeg v)) : G Z X Y ex cells slots pc loc (.ref (zs Z + v) :: .int i :: .ref (zs Z + a) :: rest) M := fun O ls H locs hl hP hS => by
  have hlt : i.toNatClampNeg < n := Nat.not_le.mp fun q => hin (Or.inr q)
  have h0 : ¬ i < 0 := fun q => hin (Or.inl q)
  have hat := hP.1 a _ hk
  unfold ent at hat
  rw [if_neg (by show ¬ t < 10; omega), if_neg (by show ¬ t < 12; omega), if_neg (by show ¬ t = 12; omega)] at hat
  have hcell : H[zs Z + a]? = some (arrV (zA Z t) n (fun j => va_rf ((mP M a j).map (zs Z + ·)))) := hat
  have hatv := hP.1 v _ hv
  rw [ent_obj hc.1] at hatv
  obtain ⟨r', hr', cellV, g1, g2, g3, -⟩ := hatv
  have hcls := (O.2.2.2.2.2.1.1.1 ci _ hc.2.1).2
  obtain ⟨kA, comp, k1, k2, k3, -⟩ := (O.2.2.2.2.2.1.1.2 _ _ hfa).2
  have hcomp : comp = (zD Z).1 ci := Option.some.inj (k3.symm.trans hcls.1)
  subst hcomp
  obtain ⟨kC, hkC, -⟩ := hcls.2
  refine W.aast O.1 O.2.1 hcell (fun q h => by cases h) (fun h => by cases h) k1 k2 rfl hkC ⟨h0, by rw [arrV_size]; exact hlt⟩ g1 (fun q h => by rw [g3] at h; cases h) (by rw [g2]; exact hkC) (by rw [g2]; exact va_assign hcls) rfl rfl hd (fun H' e1 z oq => ?_)
  refine kk O ls H' _ hl (hP.upd (M' := sP M a i.toNatClampNeg v) rfl (fun q j hq => ⟨rfl, by simp [mP, sP, hq], rfl⟩) z oq hk ?_) (hS.put z oq (Nat.le_add_right _ _))
  unfold ent
  rw [if_neg (by show ¬ t < 10; omega), if_neg (by show ¬ t < 12; omega), if_neg (by show ¬ t = 12; omega)]
  show H'[zs Z + a]? = some (arrV (zA Z t) n (fun j => va_rf ((mP (sP M a i.toNatClampNeg v) a j).map (zs Z + ·))))
  rw [e1, arrV_store]
  congr 2
  funext j
  by_cases hj : j = i.toNatClampNeg
  · subst hj; simp [updV, mP, sP, va_rf]
  · simp [updV, mP, sP, hj]
end CROWS
