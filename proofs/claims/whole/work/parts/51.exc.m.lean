/-! ===== methods that throw, and the two that catch ===== -/
/-- a thrown class, and the memory then -/
def XCt (Z : Sys) (xpost : String → Mem → Prop) : String → State → State → Prop := fun E st t => ∃ M', xpost E M' ∧ Rp Z False M' t.heap ∧ va_F (Ar Z) st t
def Cxt (Z : Sys) (y : MethodName) (cc : ByteArray) (maxL : Nat) (ret : Option FieldType) (rm : Room) (av : List Value) (M : Mem) (post : Option Value → Mem → Prop) (xpost : String → Mem → Prop) : Prop := vx_Met Z.1 y (wsC y cc maxL ret) rm (va_Pc av (PcZ Z False M)) (Qp Z False post) (XCt Z xpost) rm.cells rm.slots (Ar Z)
def wsW (y : MethodName) (cc : ByteArray) (maxL : Nat) (ret : Option FieldType) (hh : List (Nat × Nat × Nat × Nat)) : List Cond := .codeWith y cc maxL ret hh :: TBL
/-- a method with a table of its own that lets nothing out -/
def CtW (Z : Sys) (y : MethodName) (cc : ByteArray) (maxL : Nat) (ret : Option FieldType) (hh : List (Nat × Nat × Nat × Nat)) (rm : Room) (av : List Value) (M : Mem) (post : Option Value → Mem → Prop) : Prop := Met Z.1 y (wsW y cc maxL ret hh) rm (va_Pc av (PcZ Z False M)) (Qp Z False post) rm.cells rm.slots (Ar Z)
abbrev MQX (Z : Sys) (X : Cx) (post : Option Value → Mem → Prop) (XC : String → State → State → Prop) (rm : Room) : State → Prop := vx_MQ (xb X) (Qp Z False post) XC (xa X) (xs X) rm.cells rm.slots (Ar Z)
theorem Cxt.of {Z : Sys} {y : MethodName} {cc : ByteArray} {maxL : Nat} {ret : Option FieldType} {rm : Room} {av : List Value} {M : Mem} {post : Option Value → Mem → Prop} {xpost : String → Mem → Prop} (hy : plainName y.cls = true) (hlen : (lg_sl av).length ≤ maxL)
    (h : ∀ X : Cx, xR X = rm → xQ X = MQX Z X post (XCt Z xpost) rm → (xM X).sig.returnType = ret → (xM X).locks = false → (∀ x ∈ (xc X).exceptionTable.toList, False) → G Z X (cc, y.cls, maxL) False 0 0 0 (lv_args 0 av) [] M) : Cxt Z y cc maxL ret rm av M post xpost := by
  refine vx_ofW (cc := cc) (maxL := maxL) (ret := ret) hy rfl ?_
  intro p e s m args below meth c s₁ B hml hnt hv
  obtain ⟨rfl, hP, hKn, hz, hE⟩ := hv
  have hts := atoms_spec (ws := wsC y cc maxL ret) B.pre
  have hG := h (p, e, rm, s, m, av.toArray, below, meth, c, vx_MQ below (Qp Z False post) (XCt Z xpost) av.toArray s rm.cells rm.slots (Ar Z)) rfl rfl B.returns B.notSynchronized hnt
  have hl := lv_entry av (n := maxL) hlen
  rw [lg_entry_eq]
  exact hG ⟨B.exec, B.bytes, hml, findClass_of_methodNamed B.named, fun w hw => hts w (List.mem_cons_of_mem _ hw), hKn, hz, hE⟩ _ _ _ hl hP va_S.rf
theorem CtW.of {Z : Sys} {y : MethodName} {cc : ByteArray} {maxL : Nat} {ret : Option FieldType} {hh : List (Nat × Nat × Nat × Nat)} {rm : Room} {av : List Value} {M : Mem} {post : Option Value → Mem → Prop} (hy : plainName y.cls = true) (hlen : (lg_sl av).length ≤ maxL)
    (h : ∀ X : Cx, xR X = rm → xQ X = MQX Z X post (fun _ _ _ => False) rm → (xM X).sig.returnType = ret → (xM X).locks = false → (xc X).exceptionTable.toList = tableOf hh → G Z X (cc, y.cls, maxL) False 0 0 0 (lv_args 0 av) [] M) : CtW Z y cc maxL ret hh rm av M post := by
  have key : vx_Met Z.1 y (wsW y cc maxL ret hh) rm (va_Pc av (PcZ Z False M)) (Qp Z False post) (fun _ _ _ => False) rm.cells rm.slots (Ar Z) := by
    refine vx_ofWH (cc := cc) (maxL := maxL) (ret := ret) (hh := hh) hy rfl ?_
    intro p e s m args below meth c s₁ B hml hv
    obtain ⟨rfl, hP, hKn, hz, hE⟩ := hv
    have hts := atoms_spec (ws := wsW y cc maxL ret hh) B.pre
    have htb := vx_table (x := y) B (hts _ List.mem_cons_self)
    have hG := h (p, e, rm, s, m, av.toArray, below, meth, c, vx_MQ below (Qp Z False post) (fun _ _ _ => False) av.toArray s rm.cells rm.slots (Ar Z)) rfl rfl B.returns B.notSynchronized htb
    have hl := lv_entry av (n := maxL) hlen
    rw [lg_entry_eq]
    exact hG ⟨B.exec, B.bytes, hml, findClass_of_methodNamed B.named, fun w hw => hts w (List.mem_cons_of_mem _ hw), hKn, hz, hE⟩ _ _ _ hl hP va_S.rf
  intro p e' ha hc hk s m args below hf hfit hP hKc
  obtain ⟨t, o, h1, h2, h3, h4⟩ := key p e' ha hc hk s m args below hf hfit hP hKc
  rcases h4 with h4 | ⟨q, -, E, ce, L, hx, -⟩
  · exact ⟨t, o, h1, h2, h3, h4⟩
  · exact hx.elim
section XROWS
variable {Z : Sys} {X : Cx} {Y : My} {cells slots : Nat} {loc : List (Nat × Value)} {rest : List Value} {M : Mem} {rm R : Room} {post : Option Value → Mem → Prop} {XC : String → State → State → Prop} {xpost : String → Mem → Prop}
theorem G.iretX (pc : Nat) {v : Int32} (hq : xQ X = MQX Z X post XC rm) (hr : (xM X).sig.returnType = some .int) (hlk : (xM X).locks = false) (h1 : cells ≤ rm.cells) (h2 : slots ≤ rm.slots) (hd : decode Y.1 pc = .ok (.ireturn, 1)) (h : post (some (.int v)) M) : G Z X Y False cells slots pc loc [.int v] M := fun O ls H locs hl hP hS => by
  show W _ _ _ _ _ _ _ _ _ _ _ _ _ _ (xQ X) _
  rw [hq]
  exact W.widen h1 h2 (vx_ret (W.iret O.1 O.2.1 hr (fun t ht hW => ⟨⟨_, _, rfl, h, by rw [ht]; exact hP⟩, hS.F ht⟩) hS.2.2 hd hlk))
theorem G.lretX (pc : Nat) {v : Int64} (hq : xQ X = MQX Z X post XC rm) (hr : (xM X).sig.returnType = some .long) (hlk : (xM X).locks = false) (h1 : cells ≤ rm.cells) (h2 : slots ≤ rm.slots) (hd : decode Y.1 pc = .ok (.lreturn, 1)) (h : post (some (.long v)) M) : G Z X Y False cells slots pc loc [.long v] M := fun O ls H locs hl hP hS => by
  show W _ _ _ _ _ _ _ _ _ _ _ _ _ _ (xQ X) _
  rw [hq]
  exact W.widen h1 h2 (vx_ret (W.lret O.1 O.2.1 hr (fun t ht hW => ⟨⟨_, _, rfl, h, by rw [ht]; exact hP⟩, hS.F ht⟩) hS.2.2 hd hlk))
theorem G.vretX (pc : Nat) (hq : xQ X = MQX Z X post XC rm) (hr : (xM X).sig.returnType = none) (hlk : (xM X).locks = false) (h1 : cells ≤ rm.cells) (h2 : slots ≤ rm.slots) (hd : decode Y.1 pc = .ok (.return_, 1)) (h : post none M) : G Z X Y False cells slots pc loc [] M := fun O ls H locs hl hP hS => by
  show W _ _ _ _ _ _ _ _ _ _ _ _ _ _ (xQ X) _
  rw [hq]
  exact W.widen h1 h2 (vx_ret (W.vret O.1 O.2.1 hr (fun t ht hW => ⟨⟨_, _, rfl, h, by rw [ht]; exact hP⟩, hS.F ht⟩) hS.2.2 hd hlk))
theorem Rp.kept {H H1 : Heap} (hP : Rp Z False M H) (hz : H.size ≤ H1.size) (hq : ∀ q : Nat, q < H.size → H1[q]? = H[q]?) : Rp Z False M H1 := ⟨fun a kd hk => (hP.1 a kd hk).kept (hq _ (hP.1 a kd hk).lt), Nat.le_trans hP.2.1 hz, fun h => h.elim⟩
theorem tn_at {args : Array Value} {s : State} {L : List Cond} (h1 : ∀ w ∈ TBL, w.before args s = true) (h2 : Kn Z s) (h : ∀ w ∈ L, w ∈ TBL ∨ (w ∈ NST ∧ w.onTables = true)) : ∀ w ∈ L, w.before args s = true := fun w hw => by
  rcases h w hw with h | h
  · exact h1 w h
  · exact va_Nw.use h.2 (h2.2 w h.1)
theorem G.throwS (pc : Nat) {own cls text : String} {names : List String} {ik is ic : Nat} (hY : Y.2.1 = own) (hcls : Bundle.fit cls = true) (hnames : ∀ n ∈ names, Bundle.fit n = true) (w1 : Cond.classLink own ik cls ∈ TBL) (w2 : Cond.initialized cls ∈ TBL) (hst : (own, is, text) ∈ STRS) (hat : ((vx_atS own ic cls names).all fun w => decide (w ∈ TBL) || (decide (w ∈ NST) && w.onTables)) = true) (hgood : ((Cond.classLink own ik cls :: Cond.initialized cls :: vx_atS own ic cls names).all vx_ot) = true) (hq : xQ X = MQX Z X post (XCt Z xpost) rm) (hlk : (xM X).locks = false) (hnt : ∀ x ∈ (xc X).exceptionTable.toList, False) (hR : xR X = R) (hr : names.length + 3 < R.frames ∧ (rest.map fun v => v.category).sum + (13 * (names.length + 1) + 43) ≤ R.locals ∧ cells + 1 ≤ R.cells ∧ slots + 6 ≤ R.slots) (d0 : decode Y.1 pc = .ok (.new ik, 3)) (d3 : decode Y.1 (pc + 3) = .ok (.dup, 1)) (d4 : decode Y.1 (pc + 4) = .ok (.ldc is, 2)) (d6 : decode Y.1 (pc + 6) = .ok (.invokespecial ic, 3)) (d9 : decode Y.1 (pc + 9) = .ok (.athrow, 1)) (hx : xpost cls M) (hc : cells + 1 ≤ rm.cells) (hs : slots + 6 ≤ rm.slots) : G Z X Y False cells slots pc loc rest M := fun O ls H locs hl hP hS => by
  subst hR; subst hY
  obtain ⟨sa, hsa⟩ := O.2.2.2.2.2.2.2.2.2.2.2.1 _ hst
  show W _ _ _ _ _ _ _ _ _ _ _ _ _ _ (xQ X) _
  rw [hq]
  refine vx_throwS O.1 O.2.1 O.2.2.2.2.2.2.2.1 (A := Ar Z) O.2.2.2.1 hcls hnames (O.2.2.2.2.1 _ w1) (O.2.2.2.2.1 _ w2) hsa (tn_at O.2.2.2.2.1 O.2.2.2.2.2.1 (fun w hw => ?_)) (fun w hw => List.all_eq_true.mp hgood w hw) O.2.2.2.2.2.2.2.2.1 O.2.2.2.2.2.2.2.2.2.1 hS (hl.1.trans O.2.2.1.symm) d0 d3 d4 d6 d9 (fun x h => (hnt x h).elim) hr.1 hr.2.1 hr.2.2.1 hr.2.2.2 hlk (fun t ht hz hk => ⟨M, hx, hP.kept hz hk, Nat.le_trans hS.1 hz, fun q h1 h2 => (hk q (Nat.lt_of_lt_of_le h1 hS.1)).trans (hS.2.1 q h1 h2)⟩) hS.2.2 hc hs
  have := List.all_eq_true.mp hat w hw
  simpa using this
theorem G.throwN (pc : Nat) {own cls Yc text : String} {names : List String} {ik is ic idx : Nat} {bytes : ByteArray} (hY : Y.2.1 = own) (hcls : Bundle.fit cls = true) (hYc : Bundle.fit Yc = true) (hnames : ∀ n ∈ names, Bundle.fit n = true) (g0 : decode bytes 0 = .ok (.aload_n 0, 1)) (g1 : decode bytes 1 = .ok (.aload_n 1, 1)) (g2 : decode bytes 2 = .ok (.invokespecial idx, 3)) (g5 : decode bytes 5 = .ok (.return_, 1)) (w1 : Cond.classLink own ik cls ∈ TBL) (w2 : Cond.initialized cls ∈ TBL) (hst : (own, is, text) ∈ STRS) (hat : ((ns_atF own ic cls Yc idx bytes names).all fun w => decide (w ∈ TBL) || (decide (w ∈ NST) && w.onTables)) = true) (hgood : ((Cond.classLink own ik cls :: Cond.initialized cls :: ns_atF own ic cls Yc idx bytes names).all vx_ot) = true) (hq : xQ X = MQX Z X post (XCt Z xpost) rm) (hlk : (xM X).locks = false) (hnt : ∀ x ∈ (xc X).exceptionTable.toList, False) (hR : xR X = R) (hr : names.length + 4 < R.frames ∧ (rest.map fun v => v.category).sum + (13 * (names.length + 2) + 43) ≤ R.locals ∧ cells + 1 ≤ R.cells ∧ slots + 6 ≤ R.slots) (d0 : decode Y.1 pc = .ok (.new ik, 3)) (d3 : decode Y.1 (pc + 3) = .ok (.dup, 1)) (d4 : decode Y.1 (pc + 4) = .ok (.ldc is, 2)) (d6 : decode Y.1 (pc + 6) = .ok (.invokespecial ic, 3)) (d9 : decode Y.1 (pc + 9) = .ok (.athrow, 1)) (hx : xpost cls M) (hc : cells + 1 ≤ rm.cells) (hs : slots + 6 ≤ rm.slots) : G Z X Y False cells slots pc loc rest M := fun O ls H locs hl hP hS => by
  subst hR; subst hY
  obtain ⟨sa, hsa⟩ := O.2.2.2.2.2.2.2.2.2.2.2.1 _ hst
  show W _ _ _ _ _ _ _ _ _ _ _ _ _ _ (xQ X) _
  rw [hq]
  refine ns_throwS O.1 O.2.1 O.2.2.2.2.2.2.2.1 (A := Ar Z) O.2.2.2.1 hcls hYc hnames g0 g1 g2 g5 (O.2.2.2.2.1 _ w1) (O.2.2.2.2.1 _ w2) hsa (tn_at O.2.2.2.2.1 O.2.2.2.2.2.1 (fun w hw => ?_)) (fun w hw => List.all_eq_true.mp hgood w hw) O.2.2.2.2.2.2.2.2.1 O.2.2.2.2.2.2.2.2.2.1 hS (hl.1.trans O.2.2.1.symm) d0 d3 d4 d6 d9 (fun x h => (hnt x h).elim) hr.1 hr.2.1 hr.2.2.1 hr.2.2.2 hlk (fun t ht hz hk => ⟨M, hx, hP.kept hz hk, Nat.le_trans hS.1 hz, fun q h1 h2 => (hk q (Nat.lt_of_lt_of_le h1 hS.1)).trans (hS.2.1 q h1 h2)⟩) hS.2.2 hc hs
  have := List.all_eq_true.mp hat w hw
  simpa using this
theorem G.throwSW (pc : Nat) {own cls text : String} {names : List String} {ik is ic : Nat} (hY : Y.2.1 = own) (hcls : Bundle.fit cls = true) (hnames : ∀ n ∈ names, Bundle.fit n = true) (w1 : Cond.classLink own ik cls ∈ TBL) (w2 : Cond.initialized cls ∈ TBL) (hst : (own, is, text) ∈ STRS) (hat : ((vx_atS own ic cls names).all fun w => decide (w ∈ TBL) || (decide (w ∈ NST) && w.onTables)) = true) (hgood : ((Cond.classLink own ik cls :: Cond.initialized cls :: vx_atS own ic cls names).all vx_ot) = true) (hq : xQ X = MQX Z X post (XCt Z xpost) rm) (hlk : (xM X).locks = false) (hnt : ∀ x ∈ (xc X).exceptionTable.toList, False) (hR : xR X = R) (hr : names.length + 3 < R.frames ∧ (rest.map fun v => v.category).sum + (13 * (names.length + 1) + 43) ≤ R.locals ∧ cells + 1 ≤ R.cells ∧ slots + 6 ≤ R.slots) (d0 : decode Y.1 pc = .ok (.new ik, 3)) (d3 : decode Y.1 (pc + 3) = .ok (.dup, 1)) (d4 : decode Y.1 (pc + 4) = .ok (.ldc_w is, 3)) (d7 : decode Y.1 (pc + 7) = .ok (.invokespecial ic, 3)) (d10 : decode Y.1 (pc + 10) = .ok (.athrow, 1)) (hx : xpost cls M) (hc : cells + 1 ≤ rm.cells) (hs : slots + 6 ≤ rm.slots) : G Z X Y False cells slots pc loc rest M := fun O ls H locs hl hP hS => by
  subst hR; subst hY
  obtain ⟨sa, hsa⟩ := O.2.2.2.2.2.2.2.2.2.2.2.1 _ hst
  show W _ _ _ _ _ _ _ _ _ _ _ _ _ _ (xQ X) _
  rw [hq]
  refine vx_throwSW O.1 O.2.1 O.2.2.2.2.2.2.2.1 (A := Ar Z) O.2.2.2.1 hcls hnames (O.2.2.2.2.1 _ w1) (O.2.2.2.2.1 _ w2) hsa (tn_at O.2.2.2.2.1 O.2.2.2.2.2.1 (fun w hw => ?_)) (fun w hw => List.all_eq_true.mp hgood w hw) O.2.2.2.2.2.2.2.2.1 O.2.2.2.2.2.2.2.2.2.1 hS (hl.1.trans O.2.2.1.symm) d0 d3 d4 d7 d10 (fun x h => (hnt x h).elim) hr.1 hr.2.1 hr.2.2.1 hr.2.2.2 hlk (fun t ht hz hk => ⟨M, hx, hP.kept hz hk, Nat.le_trans hS.1 hz, fun q h1 h2 => (hk q (Nat.lt_of_lt_of_le h1 hS.1)).trans (hS.2.1 q h1 h2)⟩) hS.2.2 hc hs
  have := List.all_eq_true.mp hat w hw
  simpa using this
theorem G.afterX {p : Program} {l : Launch} {e : Env} {R : Room} {s : State} {m : MethodId} {args : Array Value} {below : List Frame} {meth : Method} {c : Code} {H : Heap} {locs : List Loc} {cells slots mc ms : Nat} {Q : State → Prop} {pc : Nat} {ls : Array Slot} {st0 rest : List Value} {a : Array Value}
    (hr : vx_Run p l e R s m args below meth c H locs cells slots mc ms (F0 m pc ls st0) rest (Qp Z False post a) (XCt Z xpost) (Ar Z)) (hS : va_S (Ar Z) s.heap H locs)
    (kx : ∀ (E : String) (ce : Cell) (q : Addr) (M' : Mem) (H1 : Heap) (locs1 : List Loc), xpost E M' → Rp Z False M' H1 → va_S (Ar Z) s.heap H1 locs1 → H1[q]? = some ce → ce.vm = .none → s.vm.findClass E = some ce.cls → vx_W p l e R s m args below meth c H1 locs1 (cells + mc) (slots + ms) Q (F0 m pc ls rest) q)
    (kk : ∀ (v : Option Value) (M' : Mem) (H1 : Heap) (locs1 : List Loc), post v M' → Rp Z False M' H1 → va_S (Ar Z) s.heap H1 locs1 → W p l e R s m args below meth c H1 locs1 (cells + mc) (slots + ms) Q (F0 m (pc + 3) ls (v.toList ++ rest))) : W p l e R s m args below meth c H locs cells slots Q (F0 m pc ls st0) := by
  intro T hT X
  have keep : ∀ {st₀ t T' : State} {L : List Loc}, st₀.heap = H → T'.heap = t.heap → (∀ q ∈ L, Ar Z q.base) → va_F (Ar Z) st₀ t → va_S (Ar Z) s.heap T'.heap (locs ++ L) := by
    intro st₀ t T' L h0 e1 hL hF
    obtain ⟨hz, hk⟩ := hF
    rw [h0] at hz hk
    exact ⟨Nat.le_trans hS.1 (by rw [e1]; exact hz), fun q h1 h2 => by rw [e1, hk q (Nat.lt_of_lt_of_le h1 hS.1) h2]; exact hS.2.1 q h1 h2, fun q hq => by
      rcases List.mem_append.mp hq with h | h
      · exact hS.2.2 q h
      · exact hL q h⟩
  rcases hr T hT X with ⟨v, st₀, t, T', L, h0, X', hL, e1, e2, ⟨⟨v', M', hv, hp, hb⟩, hF⟩, st⟩ | ⟨q, st₀, t, T', L, E, ce, h0, X', hL, e1, e2, ⟨M', hp, hb, hF⟩, hce, hcv, hcl, st⟩
  · cases hv
    obtain ⟨t2, a1, b1⟩ := kk v M' T'.heap (locs ++ L) hp (by rw [e1]; exact hb) (keep h0 e1 hL hF) T' rfl X'
    exact ⟨t2, st t2 a1, b1⟩
  · obtain ⟨t2, a1, b1⟩ := kx E ce q M' T'.heap (locs ++ L) hp (by rw [e1]; exact hb) (keep h0 e1 hL hF) (by rw [e1]; exact hce) hcv hcl T' rfl X'
    exact ⟨t2, st.trans a1, b1⟩
/-- a handler takes over: by its place in the table -/
def HX (Z : Sys) (X : Cx) (Y : My) (cells slots pc : Nat) (loc : List (Nat × Value)) (rest : List Value) (E : String) (M : Mem) : Prop := OkC Z X Y → ∀ (ls : Array Slot) (H : Heap) (locs : List Loc) (q : Addr) (ce : Cell), lv_has ls Y.2.2 loc → Rp Z False M H → va_S (Ar Z) (xs X).heap H locs → H[q]? = some ce → ce.vm = .none → (xs X).vm.findClass E = some ce.cls → vx_W (xp X) Z.1 (xe X) (xR X) (xs X) (xm X) (xa X) (xb X) (xM X) (xc X) H locs cells slots (xQ X) (F0 (xm X) pc ls rest) q
theorem G.cvX (pc : Nat) {ci N b idx maxL : Nat} {C : String} {T : u_T} {ty : Nat → FieldType} {y : MethodName} {cc : ByteArray} {ret : Option FieldType} {rm' R : Room} {As stk : List Value} (hc : ClsOk ci C T ty N) (hb : (mK M)[b]? = some (ci, N)) (hct : Cxt Z y cc maxL ret rm' (.ref (zs Z + b) :: As) M post xpost) (hm : MOk y cc maxL ret As.length) (hv : VOk y) (hyC : y.cls = C) (w1 : Cond.methodLink Y.2.1 idx y ∈ TBL) (hR : xR X = R) (hr : RmOk R cells slots maxL rm') (hst : As.reverse ++ .ref (zs Z + b) :: rest = stk) (hrest : (rest.map fun v => v.category).sum ≤ 8)
    (hd : decode Y.1 pc = .ok (.invokevirtual idx, 3)) (kx : ∀ E M', xpost E M' → HX Z X Y (cells + rm'.cells) (slots + rm'.slots) pc loc rest E M') (kk : ∀ v M', post v M' → G Z X Y False (cells + rm'.cells) (slots + rm'.slots) (pc + 3) loc (v.toList ++ rest) M') : G Z X Y False cells slots pc loc stk M := fun O ls H locs hl hP hS => by
  subst hR; subst hst; subst hyC
  refine G.afterX (vx_runV (As := As) (rest := rest) (b := zs Z + b) ⟨O.1, O.2.1, O.2.2.1, O.2.2.2.1, O.2.2.2.2.1⟩ hct (cwV As.length O.2.2.2.2.1 (gin ?_) rfl rfl rfl ⟨rfl, hm.1⟩ ⟨hr.1, hr.2.1⟩) ⟨PcZ.blind, recv hc hb hP O.2.2.2.2.2.1, fun U hU hW => ⟨rfl, pcz hP O.2.2.2.2.2.1 O.2.2.2.2.2.2.2 hS U hU hW⟩⟩ rfl rfl hl.1 rfl (lv_room hrest) hd hr.2.2) hS (fun E ce q M' H1 locs1 hp hP1 hS1 h1 h2 h3 => kx E M' hp O ls H1 locs1 q ce hl hP1 hS1 h1 h2 h3) (fun v M' H1 locs1 hp hP1 hS1 => kk v M' hp O ls H1 locs1 hl hP1 hS1)
  intro w hw
  rcases List.mem_append.mp hw with h | h
  · rcases List.mem_cons.mp h with rfl | h
    · exact w1
    rcases List.mem_cons.mp h with rfl | h
    · exact hv.1
    rcases List.mem_cons.mp h with rfl | h
    · exact hv.2
    rcases List.mem_cons.mp h with rfl | h
    · exact hm.2.2
    · cases h
  · exact wsC_in hm.2.1 w h
theorem HX.at {pc : Nat} {E name : String} {hh : List (Nat × Nat × Nat × Nat)} (pre : List (Nat × Nat × Nat × Nat)) (h : Nat × Nat × Nat × Nat) (suf : List (Nat × Nat × Nat × Nat)) (nms : List String) (htb : (xc X).exceptionTable.toList = tableOf hh) (hsp : hh = pre ++ h :: suf) (hnm : nms.length = pre.length) (hpass : ∀ i, i < pre.length → (pre.getD i (0, 0, 0, 0)).2.2.2 ≠ 0 ∧ Cond.classLink Y.2.1 (pre.getD i (0, 0, 0, 0)).2.2.2 (nms.getD i "") ∈ TBL ∧ (E, nms.getD i "") ∈ NCL) (hx : covers ⟨h.1, h.2.1, h.2.2.1, h.2.2.2⟩ pc = true) (h0 : h.2.2.2 ≠ 0) (hlink : Cond.classLink Y.2.1 h.2.2.2 name ∈ TBL) (hcast : Cond.castable E name ∈ NST) (kk : ∀ q : Nat, G Z X Y False cells slots h.2.2.1 loc [.ref q] M) : HX Z X Y cells slots pc loc rest E M := fun O ls H locs q ce hl hP hS h1 h2 h3 => by
  refine vx_catch (name := name) (E := E) O.2.2.2.1 (tableOf pre) ⟨h.1, h.2.1, h.2.2.1, h.2.2.2⟩ (tableOf suf) (by rw [htb, hsp]; simp [tableOf]) (fun z hz => ?_) hx h0 (O.2.2.2.2.1 _ hlink) (va_Nw.use rfl (O.2.2.2.2.2.1.2 _ hcast)) h1 h2 h3 (kk q O ls H locs hl hP hS)
  obtain ⟨i, hi⟩ := List.getElem?_of_mem hz
  simp only [tableOf, List.getElem?_map] at hi
  cases hp : pre[i]? with
  | none => rw [hp] at hi; cases hi
  | some r =>
    rw [hp] at hi
    cases hi
    have hil := (List.getElem?_eq_some_iff.mp hp).1
    have hg : pre.getD i (0, 0, 0, 0) = r := by simp [List.getD_eq_getElem?_getD, hp]
    obtain ⟨e1, e2, e3⟩ := hpass i hil
    rw [hg] at e1 e2
    exact Or.inr ⟨e1, _, O.2.2.2.2.1 _ e2, O.2.2.2.2.2.2.2.2.2.2.1 _ e3⟩
theorem wsW_in {y : MethodName} {cc : ByteArray} {maxL : Nat} {ret : Option FieldType} {hh : List (Nat × Nat × Nat × Nat)} (h : Cond.codeWith y cc maxL ret hh ∈ TBL) : ∀ w ∈ wsW y cc maxL ret hh, w ∈ TBL := fun w hw => by
  rcases List.mem_cons.mp hw with rfl | hw
  · exact h
  · exact hw
theorem G.cvW (pc : Nat) {ci N b idx maxL : Nat} {C : String} {T : u_T} {ty : Nat → FieldType} {y : MethodName} {cc : ByteArray} {ret : Option FieldType} {hh : List (Nat × Nat × Nat × Nat)} {rm' R : Room} {As stk : List Value} (hc : ClsOk ci C T ty N) (hb : (mK M)[b]? = some (ci, N)) (hct : CtW Z y cc maxL ret hh rm' (.ref (zs Z + b) :: As) M post) (hm : (y.cls ≠ "java/lang/invoke/MethodHandle" ∧ y.cls ≠ "java/lang/invoke/VarHandle" ∧ (parseMethodDescriptor y.desc).map (fun d => d.parameters.length) = some As.length) ∧ Cond.codeWith y cc maxL ret hh ∈ TBL ∧ Cond.initialized y.cls ∈ TBL) (hv : VOk y) (hyC : y.cls = C) (w1 : Cond.methodLink Y.2.1 idx y ∈ TBL) (hR : xR X = R) (hr : RmOk R cells slots maxL rm') (hst : As.reverse ++ .ref (zs Z + b) :: rest = stk) (hrest : (rest.map fun v => v.category).sum ≤ 8)
    (hd : decode Y.1 pc = .ok (.invokevirtual idx, 3)) (kk : ∀ v M', post v M' → G Z X Y False (cells + rm'.cells) (slots + rm'.slots) (pc + 3) loc (v.toList ++ rest) M') : G Z X Y False cells slots pc loc stk M := fun O ls H locs hl hP hS => by
  subst hR; subst hst; subst hyC
  refine G.after (vx_runVW (As := As) (rest := rest) (b := zs Z + b) ⟨O.1, O.2.1, O.2.2.1, O.2.2.2.1, O.2.2.2.2.1⟩ hct (vx_cwVW As.length O.2.2.2.2.1 (gin ?_) rfl rfl rfl ⟨rfl, hm.1⟩ ⟨hr.1, hr.2.1⟩) ⟨PcZ.blind, recv hc hb hP O.2.2.2.2.2.1, fun U hU hW => ⟨rfl, pcz hP O.2.2.2.2.2.1 O.2.2.2.2.2.2.2 hS U hU hW⟩⟩ rfl rfl hl.1 rfl (lv_room hrest) hd hr.2.2) hS (fun v M' H1 locs1 hp hP1 hS1 => kk v M' hp O ls H1 locs1 hl hP1 hS1)
  intro w hw
  rcases List.mem_append.mp hw with h | h
  · rcases List.mem_cons.mp h with rfl | h
    · exact w1
    rcases List.mem_cons.mp h with rfl | h
    · exact hv.1
    rcases List.mem_cons.mp h with rfl | h
    · exact hv.2
    rcases List.mem_cons.mp h with rfl | h
    · exact hm.2.2
    · cases h
  · exact wsW_in hm.2.1 w h
theorem G.csW (pc : Nat) {idx maxL : Nat} {y : MethodName} {cc : ByteArray} {ret : Option FieldType} {hh : List (Nat × Nat × Nat × Nat)} {rm' R : Room} {As stk : List Value} (hct : CtW Z y cc maxL ret hh rm' As M post) (hm : (y.cls ≠ "java/lang/invoke/MethodHandle" ∧ y.cls ≠ "java/lang/invoke/VarHandle" ∧ (parseMethodDescriptor y.desc).map (fun d => d.parameters.length) = some As.length) ∧ Cond.codeWith y cc maxL ret hh ∈ TBL ∧ Cond.initialized y.cls ∈ TBL) (hsm : Cond.static y ∈ TBL) (w1 : Cond.methodLink Y.2.1 idx y ∈ TBL) (hR : xR X = R) (hr : RmOk R cells slots maxL rm') (hst : As.reverse ++ rest = stk) (hrest : (rest.map fun v => v.category).sum ≤ 8)
    (hd : decode Y.1 pc = .ok (.invokestatic idx, 3)) (kk : ∀ v M', post v M' → G Z X Y False (cells + rm'.cells) (slots + rm'.slots) (pc + 3) loc (v.toList ++ rest) M') : G Z X Y False cells slots pc loc stk M := fun O ls H locs hl hP hS => by
  subst hR; subst hst
  refine G.after (vx_runSW (As := As) (rest := rest) ⟨O.1, O.2.1, O.2.2.1, O.2.2.2.1, O.2.2.2.2.1⟩ hct (vx_cwSW As.length O.2.2.2.2.1 (gin ?_) rfl rfl rfl hm.1 ⟨hr.1, hr.2.1⟩) ⟨PcZ.blind, fun U hU hW => ⟨rfl, pcz hP O.2.2.2.2.2.1 O.2.2.2.2.2.2.2 hS U hU hW⟩⟩ rfl rfl hl.1 rfl (lv_room hrest) hd hr.2.2) hS (fun v M' H1 locs1 hp hP1 hS1 => kk v M' hp O ls H1 locs1 hl hP1 hS1)
  intro w hw
  rcases List.mem_append.mp hw with h | h
  · rcases List.mem_cons.mp h with rfl | h
    · exact w1
    rcases List.mem_cons.mp h with rfl | h
    · exact hsm
    rcases List.mem_cons.mp h with rfl | h
    · exact hm.2.2
    · cases h
  · exact wsW_in hm.2.1 w h
end XROWS
theorem dX5_fail_0 : decode cX5_fail 0 = .ok (.aload_n 0, 1) := by decide +kernel
theorem dX5_fail_1 : decode cX5_fail 1 = .ok (.getfield 9, 3) := by decide +kernel
theorem dX5_fail_4 : decode cX5_fail 4 = .ok (.tableswitch 67 3 7 #[36, 46, 67, 66, 56], 36) := by decide +kernel
theorem dX5_fail_40 : decode cX5_fail 40 = .ok (.new 35, 3) := by decide +kernel
theorem dX5_fail_43 : decode cX5_fail 43 = .ok (.dup, 1) := by decide +kernel
theorem dX5_fail_44 : decode cX5_fail 44 = .ok (.ldc 37, 2) := by decide +kernel
theorem dX5_fail_46 : decode cX5_fail 46 = .ok (.invokespecial 39, 3) := by decide +kernel
theorem dX5_fail_49 : decode cX5_fail 49 = .ok (.athrow, 1) := by decide +kernel
theorem dX5_fail_50 : decode cX5_fail 50 = .ok (.new 42, 3) := by decide +kernel
theorem dX5_fail_53 : decode cX5_fail 53 = .ok (.dup, 1) := by decide +kernel
theorem dX5_fail_54 : decode cX5_fail 54 = .ok (.ldc 44, 2) := by decide +kernel
theorem dX5_fail_56 : decode cX5_fail 56 = .ok (.invokespecial 46, 3) := by decide +kernel
theorem dX5_fail_59 : decode cX5_fail 59 = .ok (.athrow, 1) := by decide +kernel
theorem dX5_fail_60 : decode cX5_fail 60 = .ok (.new 47, 3) := by decide +kernel
theorem dX5_fail_63 : decode cX5_fail 63 = .ok (.dup, 1) := by decide +kernel
theorem dX5_fail_64 : decode cX5_fail 64 = .ok (.ldc 49, 2) := by decide +kernel
theorem dX5_fail_66 : decode cX5_fail 66 = .ok (.invokespecial 51, 3) := by decide +kernel
theorem dX5_fail_69 : decode cX5_fail 69 = .ok (.athrow, 1) := by decide +kernel
theorem dX5_fail_70 : decode cX5_fail 70 = .ok (.return_, 1) := by decide +kernel
theorem dX5_fail_71 : decode cX5_fail 71 = .ok (.new 52, 3) := by decide +kernel
theorem dX5_fail_74 : decode cX5_fail 74 = .ok (.dup, 1) := by decide +kernel
theorem dX5_fail_75 : decode cX5_fail 75 = .ok (.ldc 54, 2) := by decide +kernel
theorem dX5_fail_77 : decode cX5_fail 77 = .ok (.invokespecial 56, 3) := by decide +kernel
theorem dX5_fail_80 : decode cX5_fail 80 = .ok (.athrow, 1) := by decide +kernel
theorem dX6_caughtFailure_0 : decode cX6_caughtFailure 0 = .ok (.aload_n 0, 1) := by decide +kernel
theorem dX6_caughtFailure_1 : decode cX6_caughtFailure 1 = .ok (.getfield 34, 3) := by decide +kernel
theorem dX6_caughtFailure_4 : decode cX6_caughtFailure 4 = .ok (.ifCond .ne 6, 3) := by decide +kernel
theorem dX6_caughtFailure_7 : decode cX6_caughtFailure 7 = .ok (.bipush (-15), 2) := by decide +kernel
theorem dX6_caughtFailure_9 : decode cX6_caughtFailure 9 = .ok (.ireturn, 1) := by decide +kernel
theorem dX6_caughtFailure_10 : decode cX6_caughtFailure 10 = .ok (.aload_n 0, 1) := by decide +kernel
theorem dX6_caughtFailure_11 : decode cX6_caughtFailure 11 = .ok (.getfield 18, 3) := by decide +kernel
theorem dX6_caughtFailure_14 : decode cX6_caughtFailure 14 = .ok (.invokevirtual 65, 3) := by decide +kernel
theorem dX6_caughtFailure_17 : decode cX6_caughtFailure 17 = .ok (.bipush (-15), 2) := by decide +kernel
theorem dX6_caughtFailure_19 : decode cX6_caughtFailure 19 = .ok (.ireturn, 1) := by decide +kernel
theorem dX6_caughtFailure_20 : decode cX6_caughtFailure 20 = .ok (.astore_n 1, 1) := by decide +kernel
theorem dX6_caughtFailure_21 : decode cX6_caughtFailure 21 = .ok (.aload_n 0, 1) := by decide +kernel
theorem dX6_caughtFailure_22 : decode cX6_caughtFailure 22 = .ok (.getfield 18, 3) := by decide +kernel
theorem dX6_caughtFailure_25 : decode cX6_caughtFailure 25 = .ok (.getfield 70, 3) := by decide +kernel
theorem dX6_caughtFailure_28 : decode cX6_caughtFailure 28 = .ok (.ireturn, 1) := by decide +kernel
theorem dX6_caughtFailure_29 : decode cX6_caughtFailure 29 = .ok (.astore_n 1, 1) := by decide +kernel
theorem dX6_caughtFailure_30 : decode cX6_caughtFailure 30 = .ok (.aload_n 0, 1) := by decide +kernel
theorem dX6_caughtFailure_31 : decode cX6_caughtFailure 31 = .ok (.getfield 26, 3) := by decide +kernel
theorem dX6_caughtFailure_34 : decode cX6_caughtFailure 34 = .ok (.bipush 100, 2) := by decide +kernel
theorem dX6_caughtFailure_36 : decode cX6_caughtFailure 36 = .ok (.iadd, 1) := by decide +kernel
theorem dX6_caughtFailure_37 : decode cX6_caughtFailure 37 = .ok (.ireturn, 1) := by decide +kernel
theorem dX6_caughtFailure_38 : decode cX6_caughtFailure 38 = .ok (.astore_n 1, 1) := by decide +kernel
theorem dX6_caughtFailure_39 : decode cX6_caughtFailure 39 = .ok (.aload_n 0, 1) := by decide +kernel
theorem dX6_caughtFailure_40 : decode cX6_caughtFailure 40 = .ok (.getfield 26, 3) := by decide +kernel
theorem dX6_caughtFailure_43 : decode cX6_caughtFailure 43 = .ok (.sipush 200, 3) := by decide +kernel
theorem dX6_caughtFailure_46 : decode cX6_caughtFailure 46 = .ok (.iadd, 1) := by decide +kernel
theorem dX6_caughtFailure_47 : decode cX6_caughtFailure 47 = .ok (.ireturn, 1) := by decide +kernel
theorem dX6_caughtFailure_48 : decode cX6_caughtFailure 48 = .ok (.astore_n 1, 1) := by decide +kernel
theorem dX6_caughtFailure_49 : decode cX6_caughtFailure 49 = .ok (.aload_n 0, 1) := by decide +kernel
theorem dX6_caughtFailure_50 : decode cX6_caughtFailure 50 = .ok (.getfield 26, 3) := by decide +kernel
theorem dX6_caughtFailure_53 : decode cX6_caughtFailure 53 = .ok (.ireturn, 1) := by decide +kernel
theorem dX8_element_0 : decode cX8_element 0 = .ok (.iload_n 1, 1) := by decide +kernel
theorem dX8_element_1 : decode cX8_element 1 = .ok (.invokestatic 281, 3) := by decide +kernel
theorem dX8_element_4 : decode cX8_element 4 = .ok (.ifCond .ne 14, 3) := by decide +kernel
theorem dX8_element_7 : decode cX8_element 7 = .ok (.new 327, 3) := by decide +kernel
theorem dX8_element_10 : decode cX8_element 10 = .ok (.dup, 1) := by decide +kernel
theorem dX8_element_11 : decode cX8_element 11 = .ok (.ldc_w 329, 3) := by decide +kernel
theorem dX8_element_14 : decode cX8_element 14 = .ok (.invokespecial 331, 3) := by decide +kernel
theorem dX8_element_17 : decode cX8_element 17 = .ok (.athrow, 1) := by decide +kernel
theorem dX8_element_18 : decode cX8_element 18 = .ok (.aload_n 0, 1) := by decide +kernel
theorem dX8_element_19 : decode cX8_element 19 = .ok (.getfield 24, 3) := by decide +kernel
theorem dX8_element_22 : decode cX8_element 22 = .ok (.iload_n 1, 1) := by decide +kernel
theorem dX8_element_23 : decode cX8_element 23 = .ok (.aaload, 1) := by decide +kernel
theorem dX8_element_24 : decode cX8_element 24 = .ok (.astore_n 3, 1) := by decide +kernel
theorem dX8_element_25 : decode cX8_element 25 = .ok (.aload_n 3, 1) := by decide +kernel
theorem dX8_element_26 : decode cX8_element 26 = .ok (.getfield 308, 3) := by decide +kernel
theorem dX8_element_29 : decode cX8_element 29 = .ok (.iconst 2, 1) := by decide +kernel
theorem dX8_element_30 : decode cX8_element 30 = .ok (.if_icmp .ne 11, 3) := by decide +kernel
theorem dX8_element_33 : decode cX8_element 33 = .ok (.aload_n 3, 1) := by decide +kernel
theorem dX8_element_34 : decode cX8_element 34 = .ok (.iload_n 2, 1) := by decide +kernel
theorem dX8_element_35 : decode cX8_element 35 = .ok (.invokevirtual 321, 3) := by decide +kernel
theorem dX8_element_38 : decode cX8_element 38 = .ok (.ifCond .ne 14, 3) := by decide +kernel
theorem dX8_element_41 : decode cX8_element 41 = .ok (.new 334, 3) := by decide +kernel
theorem dX8_element_44 : decode cX8_element 44 = .ok (.dup, 1) := by decide +kernel
theorem dX8_element_45 : decode cX8_element 45 = .ok (.ldc_w 336, 3) := by decide +kernel
theorem dX8_element_48 : decode cX8_element 48 = .ok (.invokespecial 338, 3) := by decide +kernel
theorem dX8_element_51 : decode cX8_element 51 = .ok (.athrow, 1) := by decide +kernel
theorem dX8_element_52 : decode cX8_element 52 = .ok (.aload_n 3, 1) := by decide +kernel
theorem dX8_element_53 : decode cX8_element 53 = .ok (.getfield 139, 3) := by decide +kernel
theorem dX8_element_56 : decode cX8_element 56 = .ok (.iload_n 2, 1) := by decide +kernel
theorem dX8_element_57 : decode cX8_element 57 = .ok (.iaload, 1) := by decide +kernel
theorem dX8_element_58 : decode cX8_element 58 = .ok (.i2l, 1) := by decide +kernel
theorem dX8_element_59 : decode cX8_element 59 = .ok (.lreturn, 1) := by decide +kernel
theorem dL_element_0 : decode cL_element 0 = .ok (.aload_n 3, 1) := by decide +kernel
theorem dL_element_1 : decode cL_element 1 = .ok (.iconst 0, 1) := by decide +kernel
theorem dL_element_2 : decode cL_element 2 = .ok (.aload_n 0, 1) := by decide +kernel
theorem dL_element_3 : decode cL_element 3 = .ok (.iload_n 1, 1) := by decide +kernel
theorem dL_element_4 : decode cL_element 4 = .ok (.iload_n 2, 1) := by decide +kernel
theorem dL_element_5 : decode cL_element 5 = .ok (.invokevirtual 7, 3) := by decide +kernel
theorem dL_element_8 : decode cL_element 8 = .ok (.lastore, 1) := by decide +kernel
theorem dL_element_9 : decode cL_element 9 = .ok (.goto 11, 3) := by decide +kernel
theorem dL_element_12 : decode cL_element 12 = .ok (.astore 4, 2) := by decide +kernel
theorem dL_element_14 : decode cL_element 14 = .ok (.iconst 1, 1) := by decide +kernel
theorem dL_element_15 : decode cL_element 15 = .ok (.ireturn, 1) := by decide +kernel
theorem dL_element_16 : decode cL_element 16 = .ok (.astore 4, 2) := by decide +kernel
theorem dL_element_18 : decode cL_element 18 = .ok (.iconst 2, 1) := by decide +kernel
theorem dL_element_19 : decode cL_element 19 = .ok (.ireturn, 1) := by decide +kernel
theorem dL_element_20 : decode cL_element 20 = .ok (.iconst 0, 1) := by decide +kernel
theorem dL_element_21 : decode cL_element 21 = .ok (.ireturn, 1) := by decide +kernel
theorem dX8_toss_0 : decode cX8_toss 0 = .ok (.aload_n 0, 1) := by decide +kernel
theorem dX8_toss_1 : decode cX8_toss 1 = .ok (.iload_n 1, 1) := by decide +kernel
theorem dX8_toss_2 : decode cX8_toss 2 = .ok (.invokevirtual 348, 3) := by decide +kernel
theorem dX8_toss_5 : decode cX8_toss 5 = .ok (.istore_n 2, 1) := by decide +kernel
theorem dX8_toss_6 : decode cX8_toss 6 = .ok (.iload_n 2, 1) := by decide +kernel
theorem dX8_toss_7 : decode cX8_toss 7 = .ok (.ifCond .eq 7, 3) := by decide +kernel
theorem dX8_toss_10 : decode cX8_toss 10 = .ok (.iload_n 2, 1) := by decide +kernel
theorem dX8_toss_11 : decode cX8_toss 11 = .ok (.goto 12, 3) := by decide +kernel
theorem dX8_toss_14 : decode cX8_toss 14 = .ok (.aload_n 0, 1) := by decide +kernel
theorem dX8_toss_15 : decode cX8_toss 15 = .ok (.getfield 24, 3) := by decide +kernel
theorem dX8_toss_18 : decode cX8_toss 18 = .ok (.iload_n 1, 1) := by decide +kernel
theorem dX8_toss_19 : decode cX8_toss 19 = .ok (.aaload, 1) := by decide +kernel
theorem dX8_toss_20 : decode cX8_toss 20 = .ok (.invokevirtual 355, 3) := by decide +kernel
theorem dX8_toss_23 : decode cX8_toss 23 = .ok (.ireturn, 1) := by decide +kernel
abbrev Y_X5_fail : My := (cX5_fail, RX5, 1)
abbrev Y_X6_caughtFailure : My := (cX6_caughtFailure, RX6, 2)
abbrev Y_X8_element : My := (cX8_element, RX8, 4)
abbrev Y_L_element : My := (cL_element, RL, 5)
abbrev Y_X8_toss : My := (cX8_toss, RX8, 3)
def rm_X5_fail : Room := { frames := 20, cells := 1, slots := 6, locals := 1000 }
def rm_X6_caughtFailure : Room := { frames := 30, cells := 1, slots := 6, locals := 2000 }
def rm_X8_element : Room := { frames := 30, cells := 1, slots := 6, locals := 2000 }
def rm_L_element : Room := { frames := 40, cells := 1, slots := 6, locals := 3000 }
def rm_X8_toss : Room := { frames := 40, cells := 1, slots := 6, locals := 3000 }
/-- what a sheet's failure is, by its kind -/
def failX (k : Int32) : Option String := if k = 3 then some "java/lang/IllegalArgumentException" else if k = 4 then some "java/lang/UnsupportedOperationException" else if k = 7 then some "java/util/NoSuchElementException" else if k = 6 then none else some "java/lang/IllegalStateException"
set_option maxRecDepth 100000 in
set_option maxHeartbeats 4000000 in
theorem c_X5_fail (Z : Sys) {M : Mem} (hs : St M) (a0 : Nat) (k_a0 : K0[a0]? = some (5, 2)) : Cxt Z yX5_fail cX5_fail 1 none rm_X5_fail [.ref (zs Z + a0)] M (fun v M' => v = none ∧ M' = M ∧ failX (mI M a0 0) = none) (fun E M' => M' = M ∧ failX (mI M a0 0) = some E) := by
  refine Cxt.of (by decide +kernel) (Nat.le_of_ble_eq_true rfl) (fun X hR hq hrt hlk hnt => ?_)
  show G Z X Y_X5_fail False 0 0 0 [(0, .ref (zs Z + a0))] [] M
  refine G.aload_n 0 0 dX5_fail_0 rfl rfl ?_
  refine G.geti 1 ck_5 0 (hs.k k_a0) (by decide) (by decide +kernel) wd_174 dX5_fail_1 ?_
  by_cases h3 : mI M a0 0 = 3
  · refine G.tableIn 4 40 (off := 36) dX5_fail_4 (by rw [h3]; decide +kernel) (by rw [h3]; decide +kernel) (by rw [h3]; decide +kernel) (by decide) ?_
    exact G.throwS 40 (own := RX5) (cls := "java/lang/IllegalArgumentException") (text := "made up") (names := ["java/lang/RuntimeException", "java/lang/Exception"]) rfl rfl (by decide +kernel) wd_1168 wd_99 (by decide +kernel) (by decide +kernel) (by decide +kernel) hq hlk hnt hR ⟨Nat.le_of_ble_eq_true rfl, Nat.le_of_ble_eq_true rfl, Nat.le_of_ble_eq_true rfl, Nat.le_of_ble_eq_true rfl⟩ dX5_fail_40 dX5_fail_43 dX5_fail_44 dX5_fail_46 dX5_fail_49 ⟨rfl, by simp [failX, h3]⟩ (by decide) (by decide)
  by_cases h4 : mI M a0 0 = 4
  · refine G.tableIn 4 50 (off := 46) dX5_fail_4 (by rw [h4]; decide +kernel) (by rw [h4]; decide +kernel) (by rw [h4]; decide +kernel) (by decide) ?_
    exact G.throwS 50 (own := RX5) (cls := "java/lang/UnsupportedOperationException") (text := "stuffed") (names := ["java/lang/RuntimeException", "java/lang/Exception"]) rfl rfl (by decide +kernel) wd_1236 wd_101 (by decide +kernel) (by decide +kernel) (by decide +kernel) hq hlk hnt hR ⟨Nat.le_of_ble_eq_true rfl, Nat.le_of_ble_eq_true rfl, Nat.le_of_ble_eq_true rfl, Nat.le_of_ble_eq_true rfl⟩ dX5_fail_50 dX5_fail_53 dX5_fail_54 dX5_fail_56 dX5_fail_59 ⟨rfl, by rw [h4]; decide +kernel⟩ (by decide) (by decide)
  by_cases h7 : mI M a0 0 = 7
  · refine G.tableIn 4 60 (off := 56) dX5_fail_4 (by rw [h7]; decide +kernel) (by rw [h7]; decide +kernel) (by rw [h7]; decide +kernel) (by decide) ?_
    exact G.throwN 60 (own := RX5) (cls := "java/util/NoSuchElementException") (Yc := "java/lang/RuntimeException") (text := "copied with a slip") (names := ["java/lang/Exception"]) (idx := 13) (bytes := prog_31_method_4_code) rfl rfl rfl (by decide +kernel) (by decide +kernel) (by decide +kernel) (by decide +kernel) (by decide +kernel) wd_1252 wd_102 (by decide +kernel) (by decide +kernel) (by decide +kernel) hq hlk hnt hR ⟨Nat.le_of_ble_eq_true rfl, Nat.le_of_ble_eq_true rfl, Nat.le_of_ble_eq_true rfl, Nat.le_of_ble_eq_true rfl⟩ dX5_fail_60 dX5_fail_63 dX5_fail_64 dX5_fail_66 dX5_fail_69 ⟨rfl, by rw [h7]; decide +kernel⟩ (by decide) (by decide)
  by_cases h6 : mI M a0 0 = 6
  · refine G.tableIn 4 70 (off := 66) dX5_fail_4 (by rw [h6]; decide +kernel) (by rw [h6]; decide +kernel) (by rw [h6]; decide +kernel) (by decide) ?_
    exact G.vretX 70 hq hrt hlk (by decide) (by decide) dX5_fail_70 ⟨rfl, rfl, by rw [h6]; decide +kernel⟩
  have hf : failX (mI M a0 0) = some "java/lang/IllegalStateException" := by simp [failX, h3, h4, h7, h6]
  by_cases h5 : mI M a0 0 = 5
  · refine G.tableIn 4 71 (off := 67) dX5_fail_4 (by rw [h5]; decide +kernel) (by rw [h5]; decide +kernel) (by rw [h5]; decide +kernel) (by decide) ?_
    exact G.throwS 71 (own := RX5) (cls := "java/lang/IllegalStateException") (text := "a sheet") (names := ["java/lang/RuntimeException", "java/lang/Exception"]) rfl rfl (by decide +kernel) wd_1268 wd_100 (by decide +kernel) (by decide +kernel) (by decide +kernel) hq hlk hnt hR ⟨Nat.le_of_ble_eq_true rfl, Nat.le_of_ble_eq_true rfl, Nat.le_of_ble_eq_true rfl, Nat.le_of_ble_eq_true rfl⟩ dX5_fail_71 dX5_fail_74 dX5_fail_75 dX5_fail_77 dX5_fail_80 ⟨rfl, hf⟩ (by decide) (by decide)
  have t3 := ti (3 : Int32) 3 (by decide +kernel) h3
  have t4 := ti (4 : Int32) 4 (by decide +kernel) h4
  have t5 := ti (5 : Int32) 5 (by decide +kernel) h5
  have t6 := ti (6 : Int32) 6 (by decide +kernel) h6
  have t7 := ti (7 : Int32) 7 (by decide +kernel) h7
  refine G.tableOut 4 71 dX5_fail_4 (by omega) (by decide) ?_
  exact G.throwS 71 (own := RX5) (cls := "java/lang/IllegalStateException") (text := "a sheet") (names := ["java/lang/RuntimeException", "java/lang/Exception"]) rfl rfl (by decide +kernel) wd_1268 wd_100 (by decide +kernel) (by decide +kernel) (by decide +kernel) hq hlk hnt hR ⟨Nat.le_of_ble_eq_true rfl, Nat.le_of_ble_eq_true rfl, Nat.le_of_ble_eq_true rfl, Nat.le_of_ble_eq_true rfl⟩ dX5_fail_71 dX5_fail_74 dX5_fail_75 dX5_fail_77 dX5_fail_80 ⟨rfl, hf⟩ (by decide) (by decide)
def f_X6_caughtFailure (a0 : Nat) (M : Mem) : Int32 := if mI M a0 3 = 0 then -15 else if mI M (a0 + 1) 0 = 3 then mI M (a0 + 1) 1 else if mI M (a0 + 1) 0 = 4 then mI M a0 2 + 100 else if mI M (a0 + 1) 0 = 7 then mI M a0 2 + 200 else if mI M (a0 + 1) 0 = 6 then -15 else mI M a0 2
set_option maxRecDepth 100000 in
set_option maxHeartbeats 4000000 in
theorem c_X6_caughtFailure (Z : Sys) {M : Mem} (hs : St M) (a0 : Nat) (k_a0 : K0[a0]? = some (6, 7)) : CtW Z yX6_caughtFailure cX6_caughtFailure 2 (some .int) [(10, 19, 20, 68), (10, 19, 29, 73), (10, 19, 38, 75), (10, 19, 48, 77)] rm_X6_caughtFailure [.ref (zs Z + a0)] M (PostI (f_X6_caughtFailure a0 M) M) := by
  refine CtW.of (by decide +kernel) (Nat.le_of_ble_eq_true rfl) (fun X hR hq hrt hlk htb => ?_)
  show G Z X Y_X6_caughtFailure False 0 0 0 [(0, .ref (zs Z + a0))] [] M
  refine G.aload_n 0 0 dX6_caughtFailure_0 rfl rfl ?_
  refine G.geti 1 ck_6 3 (hs.k k_a0) (by decide) (by decide +kernel) wd_378 dX6_caughtFailure_1 ?_
  refine G.if_ne 4 10 dX6_caughtFailure_4 (by decide) (fun h0 => ?_) (fun h0 => ?_)
  · refine G.aload_n 10 0 dX6_caughtFailure_10 rfl rfl ?_
    refine G.getp 11 ck_6 1 (a0 + 1) (hs.k k_a0) (pt_6_1 hs k_a0).1 (by decide) (by decide +kernel) wd_375 dX6_caughtFailure_11 ?_
    refine G.cvX 14 (As := []) ck_5 (hs.k (pt_6_1 hs k_a0).2) (c_X5_fail Z hs (a0 + 1) (pt_6_1 hs k_a0).2) mk_X5_fail vk_X5_fail rfl wd_1164 hR (by decide +kernel) rfl (Nat.le_of_ble_eq_true rfl) dX6_caughtFailure_14 (fun E M' hp => ?_) (fun v M' hp => ?_)
    · obtain ⟨rfl, hE⟩ := hp
      by_cases h3 : mI M' (a0 + 1) 0 = 3
      · have e : E = "java/lang/IllegalArgumentException" := by simp [failX, h3] at hE; exact hE.symm
        subst e
        refine HX.at (hh := [(10, 19, 20, 68), (10, 19, 29, 73), (10, 19, 38, 75), (10, 19, 48, 77)]) [] (10, 19, 20, 68) [(10, 19, 29, 73), (10, 19, 38, 75), (10, 19, 48, 77)] [] htb rfl rfl (fun i h => absurd h (by simp)) (by decide +kernel) (by decide) wd_1160 wd_1170 (fun q9 => ?_)
        refine G.astore_n 20 [(1, .ref q9), (0, .ref (zs Z + a0))] dX6_caughtFailure_20 rfl (Nat.le_of_ble_eq_true rfl) rfl ?_
        refine G.aload_n 21 1 dX6_caughtFailure_21 rfl rfl ?_
        refine G.getp 22 ck_6 1 (a0 + 1) (hs.k k_a0) (pt_6_1 hs k_a0).1 (by decide) (by decide +kernel) wd_375 dX6_caughtFailure_22 ?_
        refine G.geti 25 ck_5 1 (hs.k (pt_6_1 hs k_a0).2) (by decide) (by decide +kernel) wd_180 dX6_caughtFailure_25 ?_
        exact G.iretX 28 hq hrt hlk (by decide) (by decide) dX6_caughtFailure_28 ⟨by simp [f_X6_caughtFailure, h0, h3], rfl, hs⟩
      by_cases h4 : mI M' (a0 + 1) 0 = 4
      · have e : E = "java/lang/UnsupportedOperationException" := by rw [h4] at hE; exact (Option.some.inj ((show failX 4 = some _ by decide +kernel).symm.trans hE)).symm
        subst e
        refine HX.at (hh := [(10, 19, 20, 68), (10, 19, 29, 73), (10, 19, 38, 75), (10, 19, 48, 77)]) [(10, 19, 20, 68)] (10, 19, 29, 73) [(10, 19, 38, 75), (10, 19, 48, 77)] ["java/lang/IllegalArgumentException"] htb rfl rfl (fun i h => by
      have hi : i = 0 := by simp at h; omega
      rcases hi with rfl
      · exact ⟨by decide, wd_1160, by decide +kernel⟩) (by decide +kernel) (by decide) wd_1161 wd_1238 (fun q9 => ?_)
        refine G.astore_n 29 [(1, .ref q9), (0, .ref (zs Z + a0))] dX6_caughtFailure_29 rfl (Nat.le_of_ble_eq_true rfl) rfl ?_
        refine G.aload_n 30 1 dX6_caughtFailure_30 rfl rfl ?_
        refine G.geti 31 ck_6 2 (hs.k k_a0) (by decide) (by decide +kernel) wd_377 dX6_caughtFailure_31 ?_
        refine G.bipush 34 (100 : Int32) dX6_caughtFailure_34 (by decide +kernel) ?_
        refine G.iadd 36 dX6_caughtFailure_36 ?_
        exact G.iretX 37 hq hrt hlk (by decide) (by decide) dX6_caughtFailure_37 ⟨by simp [f_X6_caughtFailure, h0, h4], rfl, hs⟩
      by_cases h7 : mI M' (a0 + 1) 0 = 7
      · have e : E = "java/util/NoSuchElementException" := by rw [h7] at hE; exact (Option.some.inj ((show failX 7 = some _ by decide +kernel).symm.trans hE)).symm
        subst e
        refine HX.at (hh := [(10, 19, 20, 68), (10, 19, 29, 73), (10, 19, 38, 75), (10, 19, 48, 77)]) [(10, 19, 20, 68), (10, 19, 29, 73)] (10, 19, 38, 75) [(10, 19, 48, 77)] ["java/lang/IllegalArgumentException", "java/lang/UnsupportedOperationException"] htb rfl rfl (fun i h => by
      have hi : i = 0 ∨ i = 1 := by simp at h; omega
      rcases hi with rfl | rfl
      · exact ⟨by decide, wd_1160, by decide +kernel⟩
      · exact ⟨by decide, wd_1161, by decide +kernel⟩) (by decide +kernel) (by decide) wd_1162 wd_1254 (fun q9 => ?_)
        refine G.astore_n 38 [(1, .ref q9), (0, .ref (zs Z + a0))] dX6_caughtFailure_38 rfl (Nat.le_of_ble_eq_true rfl) rfl ?_
        refine G.aload_n 39 1 dX6_caughtFailure_39 rfl rfl ?_
        refine G.geti 40 ck_6 2 (hs.k k_a0) (by decide) (by decide +kernel) wd_377 dX6_caughtFailure_40 ?_
        refine G.sipush 43 (200 : Int32) dX6_caughtFailure_43 (by decide +kernel) ?_
        refine G.iadd 46 dX6_caughtFailure_46 ?_
        exact G.iretX 47 hq hrt hlk (by decide) (by decide) dX6_caughtFailure_47 ⟨by simp [f_X6_caughtFailure, h0, h7], rfl, hs⟩
      by_cases h6 : mI M' (a0 + 1) 0 = 6
      · rw [h6] at hE
        exact absurd hE (by rw [show failX 6 = none by decide +kernel]; intro h; cases h)
      have e : E = "java/lang/IllegalStateException" := by simp [failX, h3, h4, h7, h6] at hE; exact hE.symm
      subst e
      refine HX.at (hh := [(10, 19, 20, 68), (10, 19, 29, 73), (10, 19, 38, 75), (10, 19, 48, 77)]) [(10, 19, 20, 68), (10, 19, 29, 73), (10, 19, 38, 75)] (10, 19, 48, 77) [] ["java/lang/IllegalArgumentException", "java/lang/UnsupportedOperationException", "java/util/NoSuchElementException"] htb rfl rfl (fun i h => by
      have hi : i = 0 ∨ i = 1 ∨ i = 2 := by simp at h; omega
      rcases hi with rfl | rfl | rfl
      · exact ⟨by decide, wd_1160, by decide +kernel⟩
      · exact ⟨by decide, wd_1161, by decide +kernel⟩
      · exact ⟨by decide, wd_1162, by decide +kernel⟩) (by decide +kernel) (by decide) wd_1163 wd_1270 (fun q9 => ?_)
      refine G.astore_n 48 [(1, .ref q9), (0, .ref (zs Z + a0))] dX6_caughtFailure_48 rfl (Nat.le_of_ble_eq_true rfl) rfl ?_
      refine G.aload_n 49 1 dX6_caughtFailure_49 rfl rfl ?_
      refine G.geti 50 ck_6 2 (hs.k k_a0) (by decide) (by decide +kernel) wd_377 dX6_caughtFailure_50 ?_
      exact G.iretX 53 hq hrt hlk (by decide) (by decide) dX6_caughtFailure_53 ⟨by simp [f_X6_caughtFailure, h0, h3, h4, h7, h6], rfl, hs⟩
    · obtain ⟨rfl, rfl, hE⟩ := hp
      have h6 : mI M' (a0 + 1) 0 = 6 := by
        unfold failX at hE
        by_cases h3 : mI M' (a0 + 1) 0 = 3
        · rw [if_pos h3] at hE; cases hE
        by_cases h4 : mI M' (a0 + 1) 0 = 4
        · rw [if_neg h3, if_pos h4] at hE; cases hE
        by_cases h7 : mI M' (a0 + 1) 0 = 7
        · rw [if_neg h3, if_neg h4, if_pos h7] at hE; cases hE
        by_cases h6 : mI M' (a0 + 1) 0 = 6
        · exact h6
        · rw [if_neg h3, if_neg h4, if_neg h7, if_neg h6] at hE; cases hE
      refine G.bipush 17 (-15 : Int32) dX6_caughtFailure_17 (by decide +kernel) ?_
      exact G.iretX 19 hq hrt hlk (by decide) (by decide) dX6_caughtFailure_19 ⟨by simp only [f_X6_caughtFailure, if_neg h0, h6]; rfl, rfl, hs⟩
  · refine G.bipush 7 (-15 : Int32) dX6_caughtFailure_7 (by decide +kernel) ?_
    exact G.iretX 9 hq hrt hlk (by decide) (by decide) dX6_caughtFailure_9 ⟨by simp [f_X6_caughtFailure, h0], rfl, hs⟩
def f_X8_element (x1 x2 : Int32) (M : Mem) : Option (Int32 × Int64) := if (f_X8_isShelf x1) = 0 then some (1, 0) else gd (inR x1 8) (if (mI M (253 + 7 + 3 * x1.toNatClampNeg) 0) = (2 : Int32) then (if (f_X6_hasPlace (253 + 7 + 3 * x1.toNatClampNeg) x2 M) = 0 then some (2, 0) else gd (inR x2 80) (some (0, (mI M ((253 + 7 + 3 * x1.toNatClampNeg) + 2) x2.toNatClampNeg).toInt64))) else some (2, 0))
def exN (c : Int32) : String := if c = 1 then "java/lang/IllegalArgumentException" else "java/lang/IllegalStateException"
set_option maxRecDepth 100000 in
set_option maxHeartbeats 4000000 in
theorem c_X8_element (Z : Sys) {M : Mem} (hs : St M) (x1 x2 : Int32) {q : Int32 × Int64} (hf : f_X8_element x1 x2 M = some q) : Cxt Z yX8_element cX8_element 4 (some .long) rm_X8_element [.ref (zs Z + 0), .int x1, .int x2] M (fun v M' => v = some (.long q.2) ∧ M' = M ∧ q.1 = 0) (fun E M' => M' = M ∧ (q.1 = 1 ∨ q.1 = 2) ∧ E = exN q.1) := by
  refine Cxt.of (by decide +kernel) (Nat.le_of_ble_eq_true rfl) (fun X hR hq hrt hlk hnt => ?_)
  show G Z X Y_X8_element False 0 0 0 [(0, .ref (zs Z + 0)), (1, .int x1), (2, .int x2)] [] M
  unfold f_X8_element at hf
  refine G.iload_n 0 1 dX8_element_0 rfl rfl ?_
  refine G.csZ 1 (As := [.int x1]) (c_X8_isShelf Z hs x1 rfl) mk_X8_isShelf wd_522 wd_521 hR (by decide +kernel) ⟨rfl, rfl⟩ rfl (Nat.le_of_ble_eq_true rfl) dX8_element_1 (fun hs1 z1 => ?_)
  refine G.if_ne 4 18 dX8_element_4 (by decide) (fun h1 => ?_) (fun h1 => ?_)
  · replace hf := (if_neg h1).symm.trans hf
    obtain ⟨g1, hf⟩ := gd_e hf
    refine G.aload_n 18 0 dX8_element_18 rfl rfl ?_
    refine G.getp 19 ck_8 4 253 (hs.k k0_0) (pc_8_4 hs) (by decide) (by decide +kernel) wd_404 dX8_element_19 ?_
    refine G.iload_n 22 1 dX8_element_22 rfl rfl ?_
    refine G.aa 23 x1.toNatClampNeg (253 + 7 + 3 * x1.toNatClampNeg) (hs.k k0_253) (by decide) rfl rfl g1 rfl (pa_14 hs k0_253 (inlt g1)).1 dX8_element_23 ?_
    refine G.astore_n 24 [(3, .ref (zs Z + (253 + 7 + 3 * x1.toNatClampNeg))), (0, .ref (zs Z + 0)), (1, .int x1), (2, .int x2)] dX8_element_24 rfl (Nat.le_of_ble_eq_true rfl) rfl ?_
    refine G.aload_n 25 0 dX8_element_25 rfl rfl ?_
    refine G.geti 26 ck_6 0 (hs.k (pa_14 hs k0_253 (inlt g1)).2) (by decide) (by decide +kernel) wd_374 dX8_element_26 ?_
    refine G.iconst 29 (2 : Int32) dX8_element_29 (by decide +kernel) ?_
    refine G.icmp_ne 30 41 dX8_element_30 (by decide) (fun h2 => ?_) (fun h2 => ?_)
    · replace hf := (if_neg h2).symm.trans hf
      have hf9 := Option.some.inj hf; subst hf9
      exact G.throwSW 41 (own := RX8) (cls := "java/lang/IllegalStateException") (text := "no row, or no such place") (names := ["java/lang/RuntimeException", "java/lang/Exception"]) rfl rfl (by decide +kernel) wd_1296 wd_100 (by decide +kernel) (by decide +kernel) (by decide +kernel) hq hlk hnt hR ⟨Nat.le_of_ble_eq_true rfl, Nat.le_of_ble_eq_true rfl, Nat.le_of_ble_eq_true rfl, Nat.le_of_ble_eq_true rfl⟩ dX8_element_41 dX8_element_44 dX8_element_45 dX8_element_48 dX8_element_51 ⟨rfl, Or.inr rfl, by decide +kernel⟩ (by decide) (by decide)
    · replace hf := (if_pos h2).symm.trans hf
      refine G.aload_n 33 0 dX8_element_33 rfl rfl ?_
      refine G.iload_n 34 3 dX8_element_34 rfl rfl ?_
      refine G.cvZ 35 (As := [.int x2]) ck_6 (hs.k (pa_14 hs k0_253 (inlt g1)).2) (c_X6_hasPlace Z hs (253 + 7 + 3 * x1.toNatClampNeg) x2 (pa_14 hs k0_253 (inlt g1)).2 rfl) mk_X6_hasPlace vk_X6_hasPlace rfl wd_1126 hR (by decide +kernel) ⟨rfl, rfl⟩ rfl (Nat.le_of_ble_eq_true rfl) dX8_element_35 (fun hs2 z2 => ?_)
      refine G.if_ne 38 52 dX8_element_38 (by decide) (fun h3 => ?_) (fun h3 => ?_)
      · replace hf := (if_neg h3).symm.trans hf
        obtain ⟨g2, hf⟩ := gd_e hf
        have hf9 := Option.some.inj hf; subst hf9
        refine G.aload_n 52 0 dX8_element_52 rfl rfl ?_
        refine G.getp 53 ck_6 6 ((253 + 7 + 3 * x1.toNatClampNeg) + 2) (hs.k (pa_14 hs k0_253 (inlt g1)).2) (pt_6_6 hs (pa_14 hs k0_253 (inlt g1)).2).1 (by decide) (by decide +kernel) wd_384 dX8_element_53 ?_
        refine G.iload_n 56 3 dX8_element_56 rfl rfl ?_
        refine G.ia 57 x2.toNatClampNeg (hs.k (pt_6_6 hs (pa_14 hs k0_253 (inlt g1)).2).2) g2 rfl dX8_element_57 ?_
        refine G.i2l 58 dX8_element_58 ?_
        exact G.lretX 59 hq hrt hlk (by decide) (by decide) dX8_element_59 ⟨rfl, rfl, rfl⟩
      · replace hf := (if_pos h3).symm.trans hf
        have hf9 := Option.some.inj hf; subst hf9
        exact G.throwSW 41 (own := RX8) (cls := "java/lang/IllegalStateException") (text := "no row, or no such place") (names := ["java/lang/RuntimeException", "java/lang/Exception"]) rfl rfl (by decide +kernel) wd_1296 wd_100 (by decide +kernel) (by decide +kernel) (by decide +kernel) hq hlk hnt hR ⟨Nat.le_of_ble_eq_true rfl, Nat.le_of_ble_eq_true rfl, Nat.le_of_ble_eq_true rfl, Nat.le_of_ble_eq_true rfl⟩ dX8_element_41 dX8_element_44 dX8_element_45 dX8_element_48 dX8_element_51 ⟨rfl, Or.inr rfl, by decide +kernel⟩ (by decide) (by decide)
  · replace hf := (if_pos h1).symm.trans hf
    have hf9 := Option.some.inj hf; subst hf9
    exact G.throwSW 7 (own := RX8) (cls := "java/lang/IllegalArgumentException") (text := "no such shelf") (names := ["java/lang/RuntimeException", "java/lang/Exception"]) rfl rfl (by decide +kernel) wd_1293 wd_99 (by decide +kernel) (by decide +kernel) (by decide +kernel) hq hlk hnt hR ⟨Nat.le_of_ble_eq_true rfl, Nat.le_of_ble_eq_true rfl, Nat.le_of_ble_eq_true rfl, Nat.le_of_ble_eq_true rfl⟩ dX8_element_7 dX8_element_10 dX8_element_11 dX8_element_14 dX8_element_17 ⟨rfl, Or.inl rfl, by decide +kernel⟩ (by decide) (by decide)
def f_L_element (x1 x2 : Int32) (M : Mem) : Option (Int32 × Mem) := (f_X8_element x1 x2 M).bind fun q => if q.1 = 0 then some (0, sJ M 300 0 q.2) else some (q.1, M)
set_option maxRecDepth 100000 in
set_option maxHeartbeats 4000000 in
theorem c_L_element (Z : Sys) {M : Mem} (hs : St M) (x1 x2 : Int32) {q : Int32 × Mem} (hf : f_L_element x1 x2 M = some q) : CtW Z yL_element cL_element 5 (some .int) [(0, 9, 12, 13), (0, 9, 16, 15)] rm_L_element [.ref (zs Z + 0), .int x1, .int x2, .ref (zs Z + 300)] M (PostI q.1 q.2) := by
  refine CtW.of (by decide +kernel) (Nat.le_of_ble_eq_true rfl) (fun X hR hq hrt hlk htb => ?_)
  show G Z X Y_L_element False 0 0 0 [(0, .ref (zs Z + 0)), (1, .int x1), (2, .int x2), (3, .ref (zs Z + 300))] [] M
  unfold f_L_element at hf
  obtain ⟨q1, e1, hf⟩ := bd_e hf
  refine G.aload_n 0 3 dL_element_0 rfl rfl ?_
  refine G.iconst 1 (0 : Int32) dL_element_1 (by decide +kernel) ?_
  refine G.aload_n 2 0 dL_element_2 rfl rfl ?_
  refine G.iload_n 3 1 dL_element_3 rfl rfl ?_
  refine G.iload_n 4 2 dL_element_4 rfl rfl ?_
  refine G.cvX 5 (As := [.int x1, .int x2]) ck_8 (hs.k k0_0) (c_X8_element Z hs x1 x2 e1) mk_X8_element vk_X8_element rfl wd_1289 hR (by decide +kernel) rfl (Nat.le_of_ble_eq_true rfl) dL_element_5 (fun E M' hp => ?_) (fun v M' hp => ?_)
  · obtain ⟨rfl, hc, rfl⟩ := hp
    rcases hc with hc | hc
    · have hn : ¬ q1.1 = 0 := by rw [hc]; decide +kernel
      replace hf := (if_neg hn).symm.trans hf
      have hf9 := Option.some.inj hf; subst hf9
      have e : exN q1.1 = "java/lang/IllegalArgumentException" := by rw [hc]; decide +kernel
      rw [e]
      refine HX.at (hh := [(0, 9, 12, 13), (0, 9, 16, 15)]) [] (0, 9, 12, 13) [(0, 9, 16, 15)] [] htb rfl rfl (fun i h => absurd h (by simp)) (by decide +kernel) (by decide) wd_1287 wd_1170 (fun q9 => ?_)
      refine G.astore 12 [(4, .ref q9), (0, .ref (zs Z + 0)), (1, .int x1), (2, .int x2), (3, .ref (zs Z + 300))] dL_element_12 (Nat.le_of_ble_eq_true rfl) rfl ?_
      refine G.iconst 14 (1 : Int32) dL_element_14 (by decide +kernel) ?_
      exact G.iretX 15 hq hrt hlk (by decide) (by decide) dL_element_15 ⟨by rw [hc], rfl, hs⟩
    · have hn : ¬ q1.1 = 0 := by rw [hc]; decide +kernel
      replace hf := (if_neg hn).symm.trans hf
      have hf9 := Option.some.inj hf; subst hf9
      have e : exN q1.1 = "java/lang/IllegalStateException" := by rw [hc]; decide +kernel
      rw [e]
      refine HX.at (hh := [(0, 9, 12, 13), (0, 9, 16, 15)]) [(0, 9, 12, 13)] (0, 9, 16, 15) [] ["java/lang/IllegalArgumentException"] htb rfl rfl (fun i h => by
        have hi : i = 0 := by simp at h; omega
        subst hi
        exact ⟨by decide, wd_1287, by decide +kernel⟩) (by decide +kernel) (by decide) wd_1288 wd_1270 (fun q9 => ?_)
      refine G.astore 16 [(4, .ref q9), (0, .ref (zs Z + 0)), (1, .int x1), (2, .int x2), (3, .ref (zs Z + 300))] dL_element_16 (Nat.le_of_ble_eq_true rfl) rfl ?_
      refine G.iconst 18 (2 : Int32) dL_element_18 (by decide +kernel) ?_
      exact G.iretX 19 hq hrt hlk (by decide) (by decide) dL_element_19 ⟨by rw [hc], rfl, hs⟩
  · obtain ⟨rfl, rfl, hc⟩ := hp
    replace hf := (if_pos hc).symm.trans hf
    have hf9 := Option.some.inj hf; subst hf9
    refine G.last 8 (hs.k k0_300) (i := 0) (by decide +kernel : inR 0 1) dL_element_8 ?_
    refine G.goto 9 20 dL_element_9 (by decide) ?_
    refine G.iconst 20 (0 : Int32) dL_element_20 (by decide +kernel) ?_
    exact G.iretX 21 hq hrt hlk (by decide) (by decide) dL_element_21 ⟨rfl, rfl, St.j hs⟩
def f_X8_toss (x1 : Int32) (M : Mem) : Option Int32 := (f_X8_sheetRefusal x1 M).bind fun q => if q = 0 then gd (inR x1 8) (some (f_X6_caughtFailure (253 + 7 + 3 * x1.toNatClampNeg) M)) else some q
set_option maxRecDepth 100000 in
set_option maxHeartbeats 4000000 in
theorem c_X8_toss (Z : Sys) {M : Mem} (hs : St M) (x1 : Int32) {q : Int32} (hf : f_X8_toss x1 M = some q) : Ct Z yX8_toss cX8_toss 3 (some .int) rm_X8_toss [.ref (zs Z + 0), .int x1] M False (PostI q M) := by
  refine Ct.of (by decide +kernel) (Nat.le_of_ble_eq_true rfl) (fun X hR hq _ => ?_)
  show G Z X Y_X8_toss False 0 0 0 [(0, .ref (zs Z + 0)), (1, .int x1)] [] M
  unfold f_X8_toss at hf
  obtain ⟨q1, e1, hf⟩ := bd_e hf
  refine G.aload_n 0 0 dX8_toss_0 rfl rfl ?_
  refine G.iload_n 1 1 dX8_toss_1 rfl rfl ?_
  refine G.cvI 2 (As := [.int x1]) ck_8 (hs.k k0_0) (c_X8_sheetRefusal Z hs x1 e1) mk_X8_sheetRefusal vk_X8_sheetRefusal rfl wd_1144 hR (by decide +kernel) ⟨rfl, rfl⟩ rfl (Nat.le_of_ble_eq_true rfl) dX8_toss_2 (fun hs1 => ?_)
  refine G.istore_n 5 [(2, .int q1), (0, .ref (zs Z + 0)), (1, .int x1)] dX8_toss_5 rfl (Nat.le_of_ble_eq_true rfl) rfl ?_
  refine G.iload_n 6 0 dX8_toss_6 rfl rfl ?_
  refine G.if_eq 7 14 dX8_toss_7 (by decide) (fun h => ?_) (fun h => ?_)
  · replace hf := (if_pos h).symm.trans hf
    obtain ⟨g1, hf⟩ := gd_e hf
    have hf9 := Option.some.inj hf; subst hf9
    refine G.aload_n 14 1 dX8_toss_14 rfl rfl ?_
    refine G.getp 15 ck_8 4 253 (hs.k k0_0) (pc_8_4 hs) (by decide) (by decide +kernel) wd_404 dX8_toss_15 ?_
    refine G.iload_n 18 2 dX8_toss_18 rfl rfl ?_
    refine G.aa 19 x1.toNatClampNeg (253 + 7 + 3 * x1.toNatClampNeg) (hs.k k0_253) (by decide) rfl rfl g1 rfl (pa_14 hs k0_253 (inlt g1)).1 dX8_toss_19 ?_
    refine G.cvW 20 (As := []) ck_6 (hs.k (pa_14 hs k0_253 (inlt g1)).2) (c_X6_caughtFailure Z hs (253 + 7 + 3 * x1.toNatClampNeg) (pa_14 hs k0_253 (inlt g1)).2) ⟨⟨by decide +kernel, by decide +kernel, by decide +kernel⟩, wd_1159, wd_85⟩ ⟨wd_1157, wd_1158⟩ rfl wd_1156 hR (by decide +kernel) rfl (Nat.le_of_ble_eq_true rfl) dX8_toss_20 (fun v M' hp => ?_)
    obtain ⟨rfl, rfl, hs2⟩ := hp
    exact G.iret 23 hq dX8_toss_23 ⟨rfl, rfl, hs⟩
  · replace hf := (if_neg h).symm.trans hf
    have hf9 := Option.some.inj hf; subst hf9
    refine G.iload_n 10 0 dX8_toss_10 rfl rfl ?_
    refine G.goto 11 23 dX8_toss_11 (by decide) ?_
    refine G.widen (cells' := 1) (slots' := 6) (by decide) (by decide) ?_
    exact G.iret 23 hq dX8_toss_23 ⟨rfl, rfl, hs⟩
