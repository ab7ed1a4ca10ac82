/-! the constructors: rows that give the new memory a name -/
def lt1 {α β : Type} (x : α) (f : α → β) : β := f x
def lt2 {α β γ : Type} (x : α) (y : β) (f : α → β → γ) : γ := f x y
theorem lt1_e {α β : Type} {x y : α} {f : α → β} {r : β} (h : lt1 x f = r) (e : y = x) : f y = r := by subst e; exact h
theorem lt2_e {α β γ : Type} {x x' : α} {y y' : β} {f : α → β → γ} {r : γ} (h : lt2 x y f = r) (e : x' = x) (e' : y' = y) : f x' y' = r := by subst e; subst e'; exact h
def PostC (q : Mem) : Option Value → Mem → Prop := fun v M' => v = none ∧ M' = q
section DROWS
variable {Z : Sys} {X : Cx} {Y : My} {ex : Prop} {cells slots : Nat} {loc loc' : List (Nat × Value)} {rest : List Value} {M : Mem}
theorem G.newD (pc : Nat) {ci N idx : Nat} {C : String} {T : u_T} {ty : Nat → FieldType} (hc : ClsOk ci C T ty N) (w1 : Cond.classLink Y.2.1 idx C ∈ TBL) (w2 : Cond.instantiable C N ∈ TBL) (w3 : Cond.initialized C ∈ TBL) (he : ex) {R : Room} (hR : xR X = R) (hr : cells + 1 ≤ R.cells ∧ slots + N ≤ R.slots) (hd : decode Y.1 pc = .ok (.new idx, 3)) (kk : ∀ m1 r1, m1 = nw M (ci, N) → r1 = (mK M).length → G Z X Y ex (cells + 1) (slots + N) (pc + 3) loc (.ref (zs Z + r1) :: rest) m1) : G Z X Y ex cells slots pc loc rest M := G.new pc hc w1 w2 w3 he hR hr hd (kk _ _ rfl rfl)
theorem G.newaID (pc : Nat) (N : Nat) {n : Int32} (w1 : Cond.arrayClass .int ∈ TBL) (hn : ¬ n < 0) (hN : n.toNatClampNeg = N) (hb : N * componentBytes .int ≤ 536870912) (he : ex) {R : Room} (hR : xR X = R) (hr : cells + 1 ≤ R.cells ∧ slots + N ≤ R.slots) (hd : decode Y.1 pc = .ok (.newarray .int, 2)) (kk : ∀ m1 r1, m1 = nw M (10, N) → r1 = (mK M).length → G Z X Y ex (cells + 1) (slots + N) (pc + 2) loc (.ref (zs Z + r1) :: rest) m1) : G Z X Y ex cells slots pc loc (.int n :: rest) M := G.newaI pc N w1 hn hN hb he hR hr hd (kk _ _ rfl rfl)
theorem G.newaZD (pc : Nat) (N : Nat) {n : Int32} (w1 : Cond.arrayClass .boolean ∈ TBL) (hn : ¬ n < 0) (hN : n.toNatClampNeg = N) (hb : N * componentBytes .boolean ≤ 536870912) (he : ex) {R : Room} (hR : xR X = R) (hr : cells + 1 ≤ R.cells ∧ slots + N ≤ R.slots) (hd : decode Y.1 pc = .ok (.newarray .boolean, 2)) (kk : ∀ m1 r1, m1 = nw M (11, N) → r1 = (mK M).length → G Z X Y ex (cells + 1) (slots + N) (pc + 2) loc (.ref (zs Z + r1) :: rest) m1) : G Z X Y ex cells slots pc loc (.int n :: rest) M := G.newaZ pc N w1 hn hN hb he hR hr hd (kk _ _ rfl rfl)
theorem G.newqD (pc : Nat) (t N : Nat) {C : String} {idx : Nat} {n : Int32} (ht : 13 ≤ t) (hfa : (tysZ Z)[t - 10]? = some (zA Z t, .object C)) (w1 : Cond.classLink Y.2.1 idx C ∈ TBL) (w2 : Cond.arrayOver (.object C) ∈ NST) (hn : ¬ n < 0) (hN : n.toNatClampNeg = N) (hb : N * 4 ≤ 536870912) (he : ex) {R : Room} (hR : xR X = R) (hr : cells + 1 ≤ R.cells ∧ slots + N ≤ R.slots) (hd : decode Y.1 pc = .ok (.anewarray idx, 3)) (kk : ∀ m1 r1, m1 = nw M (t, N) → r1 = (mK M).length → G Z X Y ex (cells + 1) (slots + N) (pc + 3) loc (.ref (zs Z + r1) :: rest) m1) : G Z X Y ex cells slots pc loc (.int n :: rest) M := G.newq pc t N ht hfa w1 w2 hn hN hb he hR hr hd (kk _ _ rfl rfl)
theorem G.mnewD (pc : Nat) (N K : Nat) {idx : Nat} {n k : Int32} (w1 : Cond.classLink Y.2.1 idx ("[" ++ (FieldType.array .int).toString) ∈ TBL) (w2 : Cond.arrayOver (.array .int) ∈ NST) (w3 : Cond.arrayClass .int ∈ TBL) (hn : ¬ n < 0) (hk : ¬ k < 0) (hN : n.toNatClampNeg = N) (hK : k.toNatClampNeg = K) (hb : N * 4 ≤ 536870912) (hb2 : K * componentBytes .int ≤ 536870912) (hb3 : K ≤ 536870912) (he : ex) {R : Room} (hR : xR X = R) (hr : cells + (1 + N) ≤ R.cells ∧ slots + (N + N * K) ≤ R.slots) (hd : decode Y.1 pc = .ok (.multianewarray idx 2, 4)) (kk : ∀ m1 r1, m1 = nwm M N K → r1 = (mK M).length → G Z X Y ex (cells + 1 + N) (slots + N + N * K) (pc + 4) loc (.ref (zs Z + r1) :: rest) m1) : G Z X Y ex cells slots pc loc (.int k :: .int n :: rest) M := G.mnewI pc N K w1 w2 w3 hn hk hN hK hb hb2 hb3 he hR hr hd (kk _ _ rfl rfl)
theorem G.putpD (pc : Nat) {ci idx N a : Nat} {C : String} {T : u_T} {ty : Nat → FieldType} (hc : ClsOk ci C T ty N) (k : Nat) {r : Nat} (hk : (mK M)[a]? = some (ci, N)) (hkN : k < N) (hfr : FR ci k = true) (hfin : (T k).2.2.2 = false ∨ ((T k).2.2.2 = true ∧ (xM X).name = "<init>" ∧ (T k).1 = Y.2.1)) (hw : Cond.fieldLink Y.2.1 idx (T k).1 (T k).2.1 (T k).2.2.1 ∈ TBL) (hn : ∀ x, narrow (ty k) (.ref x) = .ref x) (hfit : ∀ x, fits (ty k) (.ref x) = true) (hd : decode Y.1 pc = .ok (.putfield idx, 3)) (kk : ∀ m1, m1 = sP M a k r → G Z X Y ex cells slots (pc + 3) loc rest m1) : G Z X Y ex cells slots pc loc (.ref (zs Z + r) :: .ref (zs Z + a) :: rest) M := G.putp pc hc k hk hkN hfr hfin hw hn hfit hd (kk _ rfl)
theorem G.putiD (pc : Nat) {ci idx N a : Nat} {C : String} {T : u_T} {ty : Nat → FieldType} (hc : ClsOk ci C T ty N) (k : Nat) (hk : (mK M)[a]? = some (ci, N)) (hkN : k < N) (hfr : FR ci k = false) (hfin : (T k).2.2.2 = false) (hw : Cond.fieldLink Y.2.1 idx (T k).1 (T k).2.1 (T k).2.2.1 ∈ TBL) {v : Int32} (hn : narrow (ty k) (.int v) = .int v) (hfit : fits (ty k) (.int v) = true) (hd : decode Y.1 pc = .ok (.putfield idx, 3)) (kk : ∀ m1, m1 = sI M a k v → G Z X Y ex cells slots (pc + 3) loc rest m1) : G Z X Y ex cells slots pc loc (.int v :: .ref (zs Z + a) :: rest) M := G.puti pc hc k hk hkN hfr hfin hw hn hfit hd (kk _ rfl)
theorem G.istD (pc : Nat) {a n : Nat} {i x : Int32} (hk : (mK M)[a]? = some (10, n)) (hin : inR i n) (hd : decode Y.1 pc = .ok (.iastore, 1)) (kk : ∀ m1, m1 = sI M a i.toNatClampNeg x → G Z X Y ex cells slots (pc + 1) loc rest m1) : G Z X Y ex cells slots pc loc (.int x :: .int i :: .ref (zs Z + a) :: rest) M := G.iast pc hk hin hd (kk _ rfl)
theorem G.astD (pc : Nat) {a n t ci N v : Nat} {C : String} {T : u_T} {ty : Nat → FieldType} {i : Int32} (hk : (mK M)[a]? = some (t, n)) (ht : 13 ≤ t) (hfa : (tysZ Z)[t - 10]? = some (zA Z t, .object C)) (hc : ClsOk ci C T ty N) (hv : (mK M)[v]? = some (ci, N)) (hin : inR i n) (hd : decode Y.1 pc = .ok (.aastore, 1)) (kk : ∀ m1, m1 = sP M a i.toNatClampNeg v → G Z X Y ex cells slots (pc + 1) loc rest m1) : G Z X Y ex cells slots pc loc (.ref (zs Z + v) :: .int i :: .ref (zs Z + a) :: rest) M := G.astq pc hk ht hfa hc hv hin hd (kk _ rfl)
theorem G.ci (pc : Nat) {b idx maxL : Nat} {y : MethodName} {cc : ByteArray} {rm R : Room} {As stk : List Value} {q : Mem} (hct : Ct Z y cc maxL none rm (.ref (zs Z + b) :: As) M ex (PostC q)) (hm : MOk y cc maxL none As.length) (hi : Cond.instanceMethod y ∈ TBL) (hy1 : y.name = "<init>") (w1 : Cond.methodLink Y.2.1 idx y ∈ TBL) (hR : xR X = R) (hr : RmOk R cells slots maxL rm) (hst : As.reverse ++ .ref (zs Z + b) :: rest = stk) (hrest : (rest.map fun v => v.category).sum ≤ 8) (hd : decode Y.1 pc = .ok (.invokespecial idx, 3)) (kk : G Z X Y ex (cells + rm.cells) (slots + rm.slots) (pc + 3) loc rest q) : G Z X Y ex cells slots pc loc stk M := G.callI pc hct hm hi hy1 w1 hR hr hst hrest hd (fun v M' hp => by obtain ⟨rfl, rfl⟩ := hp; exact kk)
theorem G.ciN (pc : Nat) {host : String} {b idx maxL : Nat} {y : MethodName} {cc : ByteArray} {rm R : Room} {As stk : List Value} {q : Mem} (hct : Ct Z y cc maxL none rm (.ref (zs Z + b) :: As) M ex (PostC q)) (hm : MOk y cc maxL none As.length) (hi : Cond.instanceMethod y ∈ TBL) (hy1 : y.name = "<init>") (w1 : Cond.methodLinkNest Y.2.1 idx y host ∈ NST) (hR : xR X = R) (hr : RmOk R cells slots maxL rm) (hst : As.reverse ++ .ref (zs Z + b) :: rest = stk) (hrest : (rest.map fun v => v.category).sum ≤ 8) (hd : decode Y.1 pc = .ok (.invokespecial idx, 3)) (kk : G Z X Y ex (cells + rm.cells) (slots + rm.slots) (pc + 3) loc rest q) : G Z X Y ex cells slots pc loc stk M := G.callIN pc hct hm hi hy1 w1 hR hr hst hrest hd (fun v M' hp => by obtain ⟨rfl, rfl⟩ := hp; exact kk)
end DROWS
abbrev Y_X5_init : My := (cX5_init, RX5, 1)
def rm_X5_init : Room := { frames := 1, cells := 1, slots := 1, locals := 100 }
theorem dX5_init_0 : decode cX5_init 0 = .ok (.aload_n 0, 1) := by decide +kernel
theorem dX5_init_1 : decode cX5_init 1 = .ok (.invokespecial 3, 3) := by decide +kernel
theorem dX5_init_4 : decode cX5_init 4 = .ok (.return_, 1) := by decide +kernel
def f_X5_init (a0 : Nat) (M : Mem) : Option Mem := some M
set_option maxRecDepth 100000 in
set_option maxHeartbeats 4000000 in
theorem c_X5_init (Z : Sys) (M : Mem) (a0 : Nat) {q : Mem} (hf : f_X5_init a0 M = some q) : Ct Z yX5_init cX5_init 1 none rm_X5_init [.ref (zs Z + a0)] M True (PostC q) := by
  refine Ct.of (by decide +kernel) (Nat.le_of_ble_eq_true rfl) (fun X hR hq hn => ?_)
  show G Z X Y_X5_init True 0 0 0 [(0, .ref (zs Z + a0))] [] M
  unfold f_X5_init at hf
  refine G.aload_n 0 0 dX5_init_0 rfl rfl ?_
  refine G.objInit 1 wd_173 wd_109 wd_110 hR ⟨Nat.le_of_ble_eq_true rfl, Nat.le_of_ble_eq_true rfl⟩ dX5_init_1 ?_
  have hf9 := Option.some.inj hf; subst hf9
  refine G.widen (cells' := rm_X5_init.cells) (slots' := rm_X5_init.slots) (by simp only [rm_X5_init]; omega) (by simp only [rm_X5_init]; omega) ?_
  exact G.vret 4 hq dX5_init_4 ⟨rfl, rfl⟩

abbrev Y_X2_init : My := (cX2_init, RX2, 1)
def rm_X2_init : Room := { frames := 1, cells := 1, slots := 1, locals := 100 }
theorem dX2_init_0 : decode cX2_init 0 = .ok (.aload_n 0, 1) := by decide +kernel
theorem dX2_init_1 : decode cX2_init 1 = .ok (.invokespecial 1, 3) := by decide +kernel
theorem dX2_init_4 : decode cX2_init 4 = .ok (.return_, 1) := by decide +kernel
def f_X2_init (a0 : Nat) (M : Mem) : Option Mem := some M
set_option maxRecDepth 100000 in
set_option maxHeartbeats 4000000 in
theorem c_X2_init (Z : Sys) (M : Mem) (a0 : Nat) {q : Mem} (hf : f_X2_init a0 M = some q) : Ct Z yX2_init cX2_init 1 none rm_X2_init [.ref (zs Z + a0)] M True (PostC q) := by
  refine Ct.of (by decide +kernel) (Nat.le_of_ble_eq_true rfl) (fun X hR hq hn => ?_)
  show G Z X Y_X2_init True 0 0 0 [(0, .ref (zs Z + a0))] [] M
  unfold f_X2_init at hf
  refine G.aload_n 0 0 dX2_init_0 rfl rfl ?_
  refine G.objInit 1 wd_349 wd_109 wd_110 hR ⟨Nat.le_of_ble_eq_true rfl, Nat.le_of_ble_eq_true rfl⟩ dX2_init_1 ?_
  have hf9 := Option.some.inj hf; subst hf9
  refine G.widen (cells' := rm_X2_init.cells) (slots' := rm_X2_init.slots) (by simp only [rm_X5_init, rm_X2_init]; omega) (by simp only [rm_X5_init, rm_X2_init]; omega) ?_
  exact G.vret 4 hq dX2_init_4 ⟨rfl, rfl⟩

abbrev Y_X7_init : My := (cX7_init, RX7, 1)
def rm_X7_init : Room := { frames := 1, cells := 2, slots := 31, locals := 100 }
theorem dX7_init_0 : decode cX7_init 0 = .ok (.aload_n 0, 1) := by decide +kernel
theorem dX7_init_1 : decode cX7_init 1 = .ok (.invokespecial 3, 3) := by decide +kernel
theorem dX7_init_4 : decode cX7_init 4 = .ok (.aload_n 0, 1) := by decide +kernel
theorem dX7_init_5 : decode cX7_init 5 = .ok (.bipush 30, 2) := by decide +kernel
theorem dX7_init_7 : decode cX7_init 7 = .ok (.newarray .int, 2) := by decide +kernel
theorem dX7_init_9 : decode cX7_init 9 = .ok (.putfield 9, 3) := by decide +kernel
theorem dX7_init_12 : decode cX7_init 12 = .ok (.return_, 1) := by decide +kernel
def f_X7_init (a0 : Nat) (M : Mem) : Option Mem := lt2 (nw M (10, 30)) (mK M).length (fun m1 r2 => gd ((mK m1)[a0]? = some (7, 5)) (lt1 (sP m1 a0 0 r2) (fun m4 => some m4)))
set_option maxRecDepth 100000 in
set_option maxHeartbeats 4000000 in
theorem c_X7_init (Z : Sys) (M : Mem) (a0 : Nat) {q : Mem} (hf : f_X7_init a0 M = some q) : Ct Z yX7_init cX7_init 1 none rm_X7_init [.ref (zs Z + a0)] M True (PostC q) := by
  refine Ct.of (by decide +kernel) (Nat.le_of_ble_eq_true rfl) (fun X hR hq hn => ?_)
  show G Z X Y_X7_init True 0 0 0 [(0, .ref (zs Z + a0))] [] M
  unfold f_X7_init at hf
  refine G.aload_n 0 0 dX7_init_0 rfl rfl ?_
  refine G.objInit 1 wd_312 wd_109 wd_110 hR ⟨Nat.le_of_ble_eq_true rfl, Nat.le_of_ble_eq_true rfl⟩ dX7_init_1 ?_
  refine G.aload_n 4 0 dX7_init_4 rfl rfl ?_
  refine G.bipush 5 (30 : Int32) dX7_init_5 (by decide +kernel) ?_
  refine G.newaID 7 30 wd_161 (by decide +kernel) (by decide +kernel) (by decide +kernel) trivial hR (by simp only [rm_X5_init, rm_X2_init, rm_X7_init]; omega) dX7_init_7 (fun m1 r2 em er => ?_)
  replace hf := lt2_e hf em er
  obtain ⟨g3, hf⟩ := gd_e hf
  refine G.putpD 9 ck_7 0 g3 (by decide) (by decide +kernel) (Or.inr ⟨rfl, hn, rfl⟩) wd_313 (fun _ => rfl) (fun _ => rfl) dX7_init_9 (fun m4 em => ?_)
  replace hf := lt1_e hf em
  have hf9 := Option.some.inj hf; subst hf9
  refine G.widen (cells' := rm_X7_init.cells) (slots' := rm_X7_init.slots) (by simp only [rm_X5_init, rm_X2_init, rm_X7_init]; omega) (by simp only [rm_X5_init, rm_X2_init, rm_X7_init]; omega) ?_
  exact G.vret 12 hq dX7_init_12 ⟨rfl, rfl⟩

abbrev Y_X4_init : My := (cX4_init, RX4, 1)
def rm_X4_init : Room := { frames := 1, cells := 3, slots := 700, locals := 100 }
theorem dX4_init_0 : decode cX4_init 0 = .ok (.aload_n 0, 1) := by decide +kernel
theorem dX4_init_1 : decode cX4_init 1 = .ok (.invokespecial 3, 3) := by decide +kernel
theorem dX4_init_4 : decode cX4_init 4 = .ok (.aload_n 0, 1) := by decide +kernel
theorem dX4_init_5 : decode cX4_init 5 = .ok (.sipush 301, 3) := by decide +kernel
theorem dX4_init_8 : decode cX4_init 8 = .ok (.newarray .int, 2) := by decide +kernel
theorem dX4_init_10 : decode cX4_init 10 = .ok (.putfield 9, 3) := by decide +kernel
theorem dX4_init_13 : decode cX4_init 13 = .ok (.aload_n 0, 1) := by decide +kernel
theorem dX4_init_14 : decode cX4_init 14 = .ok (.sipush 301, 3) := by decide +kernel
theorem dX4_init_17 : decode cX4_init 17 = .ok (.newarray .int, 2) := by decide +kernel
theorem dX4_init_19 : decode cX4_init 19 = .ok (.putfield 15, 3) := by decide +kernel
theorem dX4_init_22 : decode cX4_init 22 = .ok (.return_, 1) := by decide +kernel
def f_X4_init (a0 : Nat) (M : Mem) : Option Mem := lt2 (nw M (10, 301)) (mK M).length (fun m1 r2 => gd ((mK m1)[a0]? = some (4, 2)) (lt1 (sP m1 a0 0 r2) (fun m4 => lt2 (nw m4 (10, 301)) (mK m4).length (fun m5 r6 => gd ((mK m5)[a0]? = some (4, 2)) (lt1 (sP m5 a0 1 r6) (fun m8 => some m8))))))
set_option maxRecDepth 100000 in
set_option maxHeartbeats 4000000 in
theorem c_X4_init (Z : Sys) (M : Mem) (a0 : Nat) {q : Mem} (hf : f_X4_init a0 M = some q) : Ct Z yX4_init cX4_init 1 none rm_X4_init [.ref (zs Z + a0)] M True (PostC q) := by
  refine Ct.of (by decide +kernel) (Nat.le_of_ble_eq_true rfl) (fun X hR hq hn => ?_)
  show G Z X Y_X4_init True 0 0 0 [(0, .ref (zs Z + a0))] [] M
  unfold f_X4_init at hf
  refine G.aload_n 0 0 dX4_init_0 rfl rfl ?_
  refine G.objInit 1 wd_334 wd_109 wd_110 hR ⟨Nat.le_of_ble_eq_true rfl, Nat.le_of_ble_eq_true rfl⟩ dX4_init_1 ?_
  refine G.aload_n 4 0 dX4_init_4 rfl rfl ?_
  refine G.sipush 5 (301 : Int32) dX4_init_5 (by decide +kernel) ?_
  refine G.newaID 8 301 wd_161 (by decide +kernel) (by decide +kernel) (by decide +kernel) trivial hR (by simp only [rm_X5_init, rm_X2_init, rm_X7_init, rm_X4_init]; omega) dX4_init_8 (fun m1 r2 em er => ?_)
  replace hf := lt2_e hf em er
  obtain ⟨g3, hf⟩ := gd_e hf
  refine G.putpD 10 ck_4 0 g3 (by decide) (by decide +kernel) (Or.inr ⟨rfl, hn, rfl⟩) wd_335 (fun _ => rfl) (fun _ => rfl) dX4_init_10 (fun m4 em => ?_)
  replace hf := lt1_e hf em
  refine G.aload_n 13 0 dX4_init_13 rfl rfl ?_
  refine G.sipush 14 (301 : Int32) dX4_init_14 (by decide +kernel) ?_
  refine G.newaID 17 301 wd_161 (by decide +kernel) (by decide +kernel) (by decide +kernel) trivial hR (by simp only [rm_X5_init, rm_X2_init, rm_X7_init, rm_X4_init]; omega) dX4_init_17 (fun m5 r6 em er => ?_)
  replace hf := lt2_e hf em er
  obtain ⟨g7, hf⟩ := gd_e hf
  refine G.putpD 19 ck_4 1 g7 (by decide) (by decide +kernel) (Or.inr ⟨rfl, hn, rfl⟩) wd_337 (fun _ => rfl) (fun _ => rfl) dX4_init_19 (fun m8 em => ?_)
  replace hf := lt1_e hf em
  have hf9 := Option.some.inj hf; subst hf9
  refine G.widen (cells' := rm_X4_init.cells) (slots' := rm_X4_init.slots) (by simp only [rm_X5_init, rm_X2_init, rm_X7_init, rm_X4_init]; omega) (by simp only [rm_X5_init, rm_X2_init, rm_X7_init, rm_X4_init]; omega) ?_
  exact G.vret 22 hq dX4_init_22 ⟨rfl, rfl⟩

abbrev Y_X3_init : My := (cX3_init, RX3, 1)
def rm_X3_init : Room := { frames := 1, cells := 4, slots := 30, locals := 100 }
theorem dX3_init_0 : decode cX3_init 0 = .ok (.aload_n 0, 1) := by decide +kernel
theorem dX3_init_1 : decode cX3_init 1 = .ok (.invokespecial 1, 3) := by decide +kernel
theorem dX3_init_4 : decode cX3_init 4 = .ok (.aload_n 0, 1) := by decide +kernel
theorem dX3_init_5 : decode cX3_init 5 = .ok (.bipush 9, 2) := by decide +kernel
theorem dX3_init_7 : decode cX3_init 7 = .ok (.newarray .boolean, 2) := by decide +kernel
theorem dX3_init_9 : decode cX3_init 9 = .ok (.putfield 9, 3) := by decide +kernel
theorem dX3_init_12 : decode cX3_init 12 = .ok (.aload_n 0, 1) := by decide +kernel
theorem dX3_init_13 : decode cX3_init 13 = .ok (.bipush 9, 2) := by decide +kernel
theorem dX3_init_15 : decode cX3_init 15 = .ok (.newarray .boolean, 2) := by decide +kernel
theorem dX3_init_17 : decode cX3_init 17 = .ok (.putfield 15, 3) := by decide +kernel
theorem dX3_init_20 : decode cX3_init 20 = .ok (.aload_n 0, 1) := by decide +kernel
theorem dX3_init_21 : decode cX3_init 21 = .ok (.bipush 9, 2) := by decide +kernel
theorem dX3_init_23 : decode cX3_init 23 = .ok (.newarray .boolean, 2) := by decide +kernel
theorem dX3_init_25 : decode cX3_init 25 = .ok (.putfield 18, 3) := by decide +kernel
theorem dX3_init_28 : decode cX3_init 28 = .ok (.return_, 1) := by decide +kernel
def f_X3_init (a0 : Nat) (M : Mem) : Option Mem := lt2 (nw M (11, 9)) (mK M).length (fun m1 r2 => gd ((mK m1)[a0]? = some (3, 11)) (lt1 (sP m1 a0 0 r2) (fun m4 => lt2 (nw m4 (11, 9)) (mK m4).length (fun m5 r6 => gd ((mK m5)[a0]? = some (3, 11)) (lt1 (sP m5 a0 1 r6) (fun m8 => lt2 (nw m8 (11, 9)) (mK m8).length (fun m9 r10 => gd ((mK m9)[a0]? = some (3, 11)) (lt1 (sP m9 a0 2 r10) (fun m12 => some m12)))))))))
set_option maxRecDepth 100000 in
set_option maxHeartbeats 4000000 in
theorem c_X3_init (Z : Sys) (M : Mem) (a0 : Nat) {q : Mem} (hf : f_X3_init a0 M = some q) : Ct Z yX3_init cX3_init 1 none rm_X3_init [.ref (zs Z + a0)] M True (PostC q) := by
  refine Ct.of (by decide +kernel) (Nat.le_of_ble_eq_true rfl) (fun X hR hq hn => ?_)
  show G Z X Y_X3_init True 0 0 0 [(0, .ref (zs Z + a0))] [] M
  unfold f_X3_init at hf
  refine G.aload_n 0 0 dX3_init_0 rfl rfl ?_
  refine G.objInit 1 wd_126 wd_109 wd_110 hR ⟨Nat.le_of_ble_eq_true rfl, Nat.le_of_ble_eq_true rfl⟩ dX3_init_1 ?_
  refine G.aload_n 4 0 dX3_init_4 rfl rfl ?_
  refine G.bipush 5 (9 : Int32) dX3_init_5 (by decide +kernel) ?_
  refine G.newaZD 7 9 wd_162 (by decide +kernel) (by decide +kernel) (by decide +kernel) trivial hR (by simp only [rm_X5_init, rm_X2_init, rm_X7_init, rm_X4_init, rm_X3_init]; omega) dX3_init_7 (fun m1 r2 em er => ?_)
  replace hf := lt2_e hf em er
  obtain ⟨g3, hf⟩ := gd_e hf
  refine G.putpD 9 ck_3 0 g3 (by decide) (by decide +kernel) (Or.inr ⟨rfl, hn, rfl⟩) wd_127 (fun _ => rfl) (fun _ => rfl) dX3_init_9 (fun m4 em => ?_)
  replace hf := lt1_e hf em
  refine G.aload_n 12 0 dX3_init_12 rfl rfl ?_
  refine G.bipush 13 (9 : Int32) dX3_init_13 (by decide +kernel) ?_
  refine G.newaZD 15 9 wd_162 (by decide +kernel) (by decide +kernel) (by decide +kernel) trivial hR (by simp only [rm_X5_init, rm_X2_init, rm_X7_init, rm_X4_init, rm_X3_init]; omega) dX3_init_15 (fun m5 r6 em er => ?_)
  replace hf := lt2_e hf em er
  obtain ⟨g7, hf⟩ := gd_e hf
  refine G.putpD 17 ck_3 1 g7 (by decide) (by decide +kernel) (Or.inr ⟨rfl, hn, rfl⟩) wd_128 (fun _ => rfl) (fun _ => rfl) dX3_init_17 (fun m8 em => ?_)
  replace hf := lt1_e hf em
  refine G.aload_n 20 0 dX3_init_20 rfl rfl ?_
  refine G.bipush 21 (9 : Int32) dX3_init_21 (by decide +kernel) ?_
  refine G.newaZD 23 9 wd_162 (by decide +kernel) (by decide +kernel) (by decide +kernel) trivial hR (by simp only [rm_X5_init, rm_X2_init, rm_X7_init, rm_X4_init, rm_X3_init]; omega) dX3_init_23 (fun m9 r10 em er => ?_)
  replace hf := lt2_e hf em er
  obtain ⟨g11, hf⟩ := gd_e hf
  refine G.putpD 25 ck_3 2 g11 (by decide) (by decide +kernel) (Or.inr ⟨rfl, hn, rfl⟩) wd_129 (fun _ => rfl) (fun _ => rfl) dX3_init_25 (fun m12 em => ?_)
  replace hf := lt1_e hf em
  have hf9 := Option.some.inj hf; subst hf9
  refine G.widen (cells' := rm_X3_init.cells) (slots' := rm_X3_init.slots) (by simp only [rm_X5_init, rm_X2_init, rm_X7_init, rm_X4_init, rm_X3_init]; omega) (by simp only [rm_X5_init, rm_X2_init, rm_X7_init, rm_X4_init, rm_X3_init]; omega) ?_
  exact G.vret 28 hq dX3_init_28 ⟨rfl, rfl⟩

abbrev Y_X1_init : My := (cX1_init, RX1, 1)
def rm_X1_init : Room := { frames := 2, cells := 2, slots := 3, locals := 120 }
theorem dX1_init_0 : decode cX1_init 0 = .ok (.aload_n 0, 1) := by decide +kernel
theorem dX1_init_1 : decode cX1_init 1 = .ok (.invokespecial 3, 3) := by decide +kernel
theorem dX1_init_4 : decode cX1_init 4 = .ok (.aload_n 0, 1) := by decide +kernel
theorem dX1_init_5 : decode cX1_init 5 = .ok (.new 9, 3) := by decide +kernel
theorem dX1_init_8 : decode cX1_init 8 = .ok (.dup, 1) := by decide +kernel
theorem dX1_init_9 : decode cX1_init 9 = .ok (.invokespecial 11, 3) := by decide +kernel
theorem dX1_init_12 : decode cX1_init 12 = .ok (.putfield 12, 3) := by decide +kernel
theorem dX1_init_15 : decode cX1_init 15 = .ok (.return_, 1) := by decide +kernel
def f_X1_init (a0 : Nat) (M : Mem) : Option Mem := lt2 (nw M (5, 2)) (mK M).length (fun m1 r2 => (f_X5_init r2 m1).bind fun q3 => gd ((mK q3)[a0]? = some (1, 12)) (lt1 (sP q3 a0 0 r2) (fun m6 => some m6)))
set_option maxRecDepth 100000 in
set_option maxHeartbeats 4000000 in
theorem c_X1_init (Z : Sys) (M : Mem) (a0 : Nat) {q : Mem} (hf : f_X1_init a0 M = some q) : Ct Z yX1_init cX1_init 1 none rm_X1_init [.ref (zs Z + a0)] M True (PostC q) := by
  refine Ct.of (by decide +kernel) (Nat.le_of_ble_eq_true rfl) (fun X hR hq hn => ?_)
  show G Z X Y_X1_init True 0 0 0 [(0, .ref (zs Z + a0))] [] M
  unfold f_X1_init at hf
  refine G.aload_n 0 0 dX1_init_0 rfl rfl ?_
  refine G.objInit 1 wd_167 wd_109 wd_110 hR ⟨Nat.le_of_ble_eq_true rfl, Nat.le_of_ble_eq_true rfl⟩ dX1_init_1 ?_
  refine G.aload_n 4 0 dX1_init_4 rfl rfl ?_
  refine G.newD 5 ck_5 wd_168 wd_169 wd_81 trivial hR (by simp only [rm_X5_init, rm_X2_init, rm_X7_init, rm_X4_init, rm_X3_init, rm_X1_init]; omega) dX1_init_5 (fun m1 r2 em er => ?_)
  replace hf := lt2_e hf em er
  refine G.dup 8 dX1_init_8 rfl ?_
  obtain ⟨q3, e4, hf⟩ := bd_e hf
  refine G.ciN 9 (As := []) (c_X5_init Z m1 r2 e4) mk_X5_init wd_171 rfl wd_170 hR (by simp only [RmOk, rm_X5_init, rm_X2_init, rm_X7_init, rm_X4_init, rm_X3_init, rm_X1_init]; omega) rfl (Nat.le_of_ble_eq_true rfl) dX1_init_9 ?_
  obtain ⟨g5, hf⟩ := gd_e hf
  refine G.putpD 12 ck_1 0 g5 (by decide) (by decide +kernel) (Or.inr ⟨rfl, hn, rfl⟩) wd_186 (fun _ => rfl) (fun _ => rfl) dX1_init_12 (fun m6 em => ?_)
  replace hf := lt1_e hf em
  have hf9 := Option.some.inj hf; subst hf9
  refine G.widen (cells' := rm_X1_init.cells) (slots' := rm_X1_init.slots) (by simp only [rm_X5_init, rm_X2_init, rm_X7_init, rm_X4_init, rm_X3_init, rm_X1_init]; omega) (by simp only [rm_X5_init, rm_X2_init, rm_X7_init, rm_X4_init, rm_X3_init, rm_X1_init]; omega) ?_
  exact G.vret 15 hq dX1_init_15 ⟨rfl, rfl⟩

abbrev Y_X6_init : My := (cX6_init, RX6, 1)
def rm_X6_init : Room := { frames := 2, cells := 3, slots := 90, locals := 120 }
theorem dX6_init_0 : decode cX6_init 0 = .ok (.aload_n 0, 1) := by decide +kernel
theorem dX6_init_1 : decode cX6_init 1 = .ok (.invokespecial 3, 3) := by decide +kernel
theorem dX6_init_4 : decode cX6_init 4 = .ok (.aload_n 0, 1) := by decide +kernel
theorem dX6_init_5 : decode cX6_init 5 = .ok (.iconst 0, 1) := by decide +kernel
theorem dX6_init_6 : decode cX6_init 6 = .ok (.putfield 11, 3) := by decide +kernel
theorem dX6_init_9 : decode cX6_init 9 = .ok (.aload_n 0, 1) := by decide +kernel
theorem dX6_init_10 : decode cX6_init 10 = .ok (.new 15, 3) := by decide +kernel
theorem dX6_init_13 : decode cX6_init 13 = .ok (.dup, 1) := by decide +kernel
theorem dX6_init_14 : decode cX6_init 14 = .ok (.invokespecial 17, 3) := by decide +kernel
theorem dX6_init_17 : decode cX6_init 17 = .ok (.putfield 18, 3) := by decide +kernel
theorem dX6_init_20 : decode cX6_init 20 = .ok (.aload_n 0, 1) := by decide +kernel
theorem dX6_init_21 : decode cX6_init 21 = .ok (.bipush 80, 2) := by decide +kernel
theorem dX6_init_23 : decode cX6_init 23 = .ok (.newarray .int, 2) := by decide +kernel
theorem dX6_init_25 : decode cX6_init 25 = .ok (.putfield 22, 3) := by decide +kernel
theorem dX6_init_28 : decode cX6_init 28 = .ok (.return_, 1) := by decide +kernel
def f_X6_init (a0 : Nat) (M : Mem) : Option Mem := gd ((mK M)[a0]? = some (6, 7)) (lt1 (sI M a0 0 (0 : Int32)) (fun m2 => lt2 (nw m2 (5, 2)) (mK m2).length (fun m3 r4 => (f_X5_init r4 m3).bind fun q5 => gd ((mK q5)[a0]? = some (6, 7)) (lt1 (sP q5 a0 1 r4) (fun m8 => lt2 (nw m8 (10, 80)) (mK m8).length (fun m9 r10 => gd ((mK m9)[a0]? = some (6, 7)) (lt1 (sP m9 a0 6 r10) (fun m12 => some m12))))))))
set_option maxRecDepth 100000 in
set_option maxHeartbeats 4000000 in
theorem c_X6_init (Z : Sys) (M : Mem) (a0 : Nat) {q : Mem} (hf : f_X6_init a0 M = some q) : Ct Z yX6_init cX6_init 1 none rm_X6_init [.ref (zs Z + a0)] M True (PostC q) := by
  refine Ct.of (by decide +kernel) (Nat.le_of_ble_eq_true rfl) (fun X hR hq hn => ?_)
  show G Z X Y_X6_init True 0 0 0 [(0, .ref (zs Z + a0))] [] M
  unfold f_X6_init at hf
  refine G.aload_n 0 0 dX6_init_0 rfl rfl ?_
  refine G.objInit 1 wd_370 wd_109 wd_110 hR ⟨Nat.le_of_ble_eq_true rfl, Nat.le_of_ble_eq_true rfl⟩ dX6_init_1 ?_
  refine G.aload_n 4 0 dX6_init_4 rfl rfl ?_
  refine G.iconst 5 (0 : Int32) dX6_init_5 (by decide +kernel) ?_
  obtain ⟨g1, hf⟩ := gd_e hf
  refine G.putiD 6 ck_6 0 g1 (by decide) (by decide +kernel) rfl wd_373 rfl rfl dX6_init_6 (fun m2 em => ?_)
  replace hf := lt1_e hf em
  refine G.aload_n 9 0 dX6_init_9 rfl rfl ?_
  refine G.newD 10 ck_5 wd_371 wd_169 wd_81 trivial hR (by simp only [rm_X5_init, rm_X2_init, rm_X7_init, rm_X4_init, rm_X3_init, rm_X1_init, rm_X6_init]; omega) dX6_init_10 (fun m3 r4 em er => ?_)
  replace hf := lt2_e hf em er
  refine G.dup 13 dX6_init_13 rfl ?_
  obtain ⟨q5, e6, hf⟩ := bd_e hf
  refine G.ciN 14 (As := []) (c_X5_init Z m3 r4 e6) mk_X5_init wd_171 rfl wd_372 hR (by simp only [RmOk, rm_X5_init, rm_X2_init, rm_X7_init, rm_X4_init, rm_X3_init, rm_X1_init, rm_X6_init]; omega) rfl (Nat.le_of_ble_eq_true rfl) dX6_init_14 ?_
  obtain ⟨g7, hf⟩ := gd_e hf
  refine G.putpD 17 ck_6 1 g7 (by decide) (by decide +kernel) (Or.inr ⟨rfl, hn, rfl⟩) wd_375 (fun _ => rfl) (fun _ => rfl) dX6_init_17 (fun m8 em => ?_)
  replace hf := lt1_e hf em
  refine G.aload_n 20 0 dX6_init_20 rfl rfl ?_
  refine G.bipush 21 (80 : Int32) dX6_init_21 (by decide +kernel) ?_
  refine G.newaID 23 80 wd_161 (by decide +kernel) (by decide +kernel) (by decide +kernel) trivial hR (by simp only [rm_X5_init, rm_X2_init, rm_X7_init, rm_X4_init, rm_X3_init, rm_X1_init, rm_X6_init]; omega) dX6_init_23 (fun m9 r10 em er => ?_)
  replace hf := lt2_e hf em er
  obtain ⟨g11, hf⟩ := gd_e hf
  refine G.putpD 25 ck_6 6 g11 (by decide) (by decide +kernel) (Or.inr ⟨rfl, hn, rfl⟩) wd_383 (fun _ => rfl) (fun _ => rfl) dX6_init_25 (fun m12 em => ?_)
  replace hf := lt1_e hf em
  have hf9 := Option.some.inj hf; subst hf9
  refine G.widen (cells' := rm_X6_init.cells) (slots' := rm_X6_init.slots) (by simp only [rm_X5_init, rm_X2_init, rm_X7_init, rm_X4_init, rm_X3_init, rm_X1_init, rm_X6_init]; omega) (by simp only [rm_X5_init, rm_X2_init, rm_X7_init, rm_X4_init, rm_X3_init, rm_X1_init, rm_X6_init]; omega) ?_
  exact G.vret 28 hq dX6_init_28 ⟨rfl, rfl⟩

abbrev Y_X0_init : My := (cX0_init, RX0, 2)
def rm_X0_init : Room := { frames := 3, cells := 150, slots := 3000, locals := 140 }
theorem dX0_init_0 : decode cX0_init 0 = .ok (.aload_n 0, 1) := by decide +kernel
theorem dX0_init_1 : decode cX0_init 1 = .ok (.invokespecial 5, 3) := by decide +kernel
theorem dX0_init_4 : decode cX0_init 4 = .ok (.aload_n 0, 1) := by decide +kernel
theorem dX0_init_5 : decode cX0_init 5 = .ok (.bipush 30, 2) := by decide +kernel
theorem dX0_init_7 : decode cX0_init 7 = .ok (.anewarray 11, 3) := by decide +kernel
theorem dX0_init_10 : decode cX0_init 10 = .ok (.putfield 13, 3) := by decide +kernel
theorem dX0_init_13 : decode cX0_init 13 = .ok (.aload_n 0, 1) := by decide +kernel
theorem dX0_init_14 : decode cX0_init 14 = .ok (.bipush 10, 2) := by decide +kernel
theorem dX0_init_16 : decode cX0_init 16 = .ok (.newarray .int, 2) := by decide +kernel
theorem dX0_init_18 : decode cX0_init 18 = .ok (.dup, 1) := by decide +kernel
theorem dX0_init_19 : decode cX0_init 19 = .ok (.iconst 0, 1) := by decide +kernel
theorem dX0_init_20 : decode cX0_init 20 = .ok (.iconst 0, 1) := by decide +kernel
theorem dX0_init_21 : decode cX0_init 21 = .ok (.iastore, 1) := by decide +kernel
theorem dX0_init_22 : decode cX0_init 22 = .ok (.dup, 1) := by decide +kernel
theorem dX0_init_23 : decode cX0_init 23 = .ok (.iconst 1, 1) := by decide +kernel
theorem dX0_init_24 : decode cX0_init 24 = .ok (.bipush 50, 2) := by decide +kernel
theorem dX0_init_26 : decode cX0_init 26 = .ok (.iastore, 1) := by decide +kernel
theorem dX0_init_27 : decode cX0_init 27 = .ok (.dup, 1) := by decide +kernel
theorem dX0_init_28 : decode cX0_init 28 = .ok (.iconst 2, 1) := by decide +kernel
theorem dX0_init_29 : decode cX0_init 29 = .ok (.bipush 50, 2) := by decide +kernel
theorem dX0_init_31 : decode cX0_init 31 = .ok (.iastore, 1) := by decide +kernel
theorem dX0_init_32 : decode cX0_init 32 = .ok (.dup, 1) := by decide +kernel
theorem dX0_init_33 : decode cX0_init 33 = .ok (.iconst 3, 1) := by decide +kernel
theorem dX0_init_34 : decode cX0_init 34 = .ok (.bipush 10, 2) := by decide +kernel
theorem dX0_init_36 : decode cX0_init 36 = .ok (.iastore, 1) := by decide +kernel
theorem dX0_init_37 : decode cX0_init 37 = .ok (.dup, 1) := by decide +kernel
theorem dX0_init_38 : decode cX0_init 38 = .ok (.iconst 4, 1) := by decide +kernel
theorem dX0_init_39 : decode cX0_init 39 = .ok (.bipush 50, 2) := by decide +kernel
theorem dX0_init_41 : decode cX0_init 41 = .ok (.iastore, 1) := by decide +kernel
theorem dX0_init_42 : decode cX0_init 42 = .ok (.dup, 1) := by decide +kernel
theorem dX0_init_43 : decode cX0_init 43 = .ok (.iconst 5, 1) := by decide +kernel
theorem dX0_init_44 : decode cX0_init 44 = .ok (.bipush 50, 2) := by decide +kernel
theorem dX0_init_46 : decode cX0_init 46 = .ok (.iastore, 1) := by decide +kernel
theorem dX0_init_47 : decode cX0_init 47 = .ok (.dup, 1) := by decide +kernel
theorem dX0_init_48 : decode cX0_init 48 = .ok (.bipush 6, 2) := by decide +kernel
theorem dX0_init_50 : decode cX0_init 50 = .ok (.bipush 50, 2) := by decide +kernel
theorem dX0_init_52 : decode cX0_init 52 = .ok (.iastore, 1) := by decide +kernel
theorem dX0_init_53 : decode cX0_init 53 = .ok (.dup, 1) := by decide +kernel
theorem dX0_init_54 : decode cX0_init 54 = .ok (.bipush 7, 2) := by decide +kernel
theorem dX0_init_56 : decode cX0_init 56 = .ok (.bipush 50, 2) := by decide +kernel
theorem dX0_init_58 : decode cX0_init 58 = .ok (.iastore, 1) := by decide +kernel
theorem dX0_init_59 : decode cX0_init 59 = .ok (.dup, 1) := by decide +kernel
theorem dX0_init_60 : decode cX0_init 60 = .ok (.bipush 8, 2) := by decide +kernel
theorem dX0_init_62 : decode cX0_init 62 = .ok (.bipush 50, 2) := by decide +kernel
theorem dX0_init_64 : decode cX0_init 64 = .ok (.iastore, 1) := by decide +kernel
theorem dX0_init_65 : decode cX0_init 65 = .ok (.dup, 1) := by decide +kernel
theorem dX0_init_66 : decode cX0_init 66 = .ok (.bipush 9, 2) := by decide +kernel
theorem dX0_init_68 : decode cX0_init 68 = .ok (.bipush 50, 2) := by decide +kernel
theorem dX0_init_70 : decode cX0_init 70 = .ok (.iastore, 1) := by decide +kernel
theorem dX0_init_71 : decode cX0_init 71 = .ok (.putfield 17, 3) := by decide +kernel
theorem dX0_init_74 : decode cX0_init 74 = .ok (.aload_n 0, 1) := by decide +kernel
theorem dX0_init_75 : decode cX0_init 75 = .ok (.iconst 4, 1) := by decide +kernel
theorem dX0_init_76 : decode cX0_init 76 = .ok (.newarray .boolean, 2) := by decide +kernel
theorem dX0_init_78 : decode cX0_init 78 = .ok (.putfield 21, 3) := by decide +kernel
theorem dX0_init_81 : decode cX0_init 81 = .ok (.aload_n 0, 1) := by decide +kernel
theorem dX0_init_82 : decode cX0_init 82 = .ok (.iconst 4, 1) := by decide +kernel
theorem dX0_init_83 : decode cX0_init 83 = .ok (.newarray .int, 2) := by decide +kernel
theorem dX0_init_85 : decode cX0_init 85 = .ok (.putfield 25, 3) := by decide +kernel
theorem dX0_init_88 : decode cX0_init 88 = .ok (.aload_n 0, 1) := by decide +kernel
theorem dX0_init_89 : decode cX0_init 89 = .ok (.iconst 4, 1) := by decide +kernel
theorem dX0_init_90 : decode cX0_init 90 = .ok (.newarray .int, 2) := by decide +kernel
theorem dX0_init_92 : decode cX0_init 92 = .ok (.putfield 28, 3) := by decide +kernel
theorem dX0_init_95 : decode cX0_init 95 = .ok (.aload_n 0, 1) := by decide +kernel
theorem dX0_init_96 : decode cX0_init 96 = .ok (.bipush 10, 2) := by decide +kernel
theorem dX0_init_98 : decode cX0_init 98 = .ok (.bipush 80, 2) := by decide +kernel
theorem dX0_init_100 : decode cX0_init 100 = .ok (.multianewarray 31 2, 4) := by decide +kernel
theorem dX0_init_104 : decode cX0_init 104 = .ok (.putfield 33, 3) := by decide +kernel
theorem dX0_init_107 : decode cX0_init 107 = .ok (.aload_n 0, 1) := by decide +kernel
theorem dX0_init_108 : decode cX0_init 108 = .ok (.bipush 10, 2) := by decide +kernel
theorem dX0_init_110 : decode cX0_init 110 = .ok (.newarray .int, 2) := by decide +kernel
theorem dX0_init_112 : decode cX0_init 112 = .ok (.putfield 36, 3) := by decide +kernel
theorem dX0_init_115 : decode cX0_init 115 = .ok (.aload_n 0, 1) := by decide +kernel
theorem dX0_init_116 : decode cX0_init 116 = .ok (.new 39, 3) := by decide +kernel
theorem dX0_init_119 : decode cX0_init 119 = .ok (.dup, 1) := by decide +kernel
theorem dX0_init_120 : decode cX0_init 120 = .ok (.invokespecial 41, 3) := by decide +kernel
theorem dX0_init_123 : decode cX0_init 123 = .ok (.putfield 42, 3) := by decide +kernel
theorem dX0_init_126 : decode cX0_init 126 = .ok (.aload_n 0, 1) := by decide +kernel
theorem dX0_init_127 : decode cX0_init 127 = .ok (.bipush 10, 2) := by decide +kernel
theorem dX0_init_129 : decode cX0_init 129 = .ok (.newarray .int, 2) := by decide +kernel
theorem dX0_init_131 : decode cX0_init 131 = .ok (.putfield 46, 3) := by decide +kernel
theorem dX0_init_134 : decode cX0_init 134 = .ok (.aload_n 0, 1) := by decide +kernel
theorem dX0_init_135 : decode cX0_init 135 = .ok (.bipush 30, 2) := by decide +kernel
theorem dX0_init_137 : decode cX0_init 137 = .ok (.newarray .int, 2) := by decide +kernel
theorem dX0_init_139 : decode cX0_init 139 = .ok (.putfield 49, 3) := by decide +kernel
theorem dX0_init_142 : decode cX0_init 142 = .ok (.iconst 0, 1) := by decide +kernel
theorem dX0_init_143 : decode cX0_init 143 = .ok (.istore_n 1, 1) := by decide +kernel
theorem dX0_init_144 : decode cX0_init 144 = .ok (.iload_n 1, 1) := by decide +kernel
theorem dX0_init_145 : decode cX0_init 145 = .ok (.bipush 30, 2) := by decide +kernel
theorem dX0_init_147 : decode cX0_init 147 = .ok (.if_icmp .ge 22, 3) := by decide +kernel
theorem dX0_init_150 : decode cX0_init 150 = .ok (.aload_n 0, 1) := by decide +kernel
theorem dX0_init_151 : decode cX0_init 151 = .ok (.getfield 13, 3) := by decide +kernel
theorem dX0_init_154 : decode cX0_init 154 = .ok (.iload_n 1, 1) := by decide +kernel
theorem dX0_init_155 : decode cX0_init 155 = .ok (.new 11, 3) := by decide +kernel
theorem dX0_init_158 : decode cX0_init 158 = .ok (.dup, 1) := by decide +kernel
theorem dX0_init_159 : decode cX0_init 159 = .ok (.invokespecial 52, 3) := by decide +kernel
theorem dX0_init_162 : decode cX0_init 162 = .ok (.aastore, 1) := by decide +kernel
theorem dX0_init_163 : decode cX0_init 163 = .ok (.iinc 1 1, 3) := by decide +kernel
theorem dX0_init_166 : decode cX0_init 166 = .ok (.goto (-22), 3) := by decide +kernel
theorem dX0_init_169 : decode cX0_init 169 = .ok (.return_, 1) := by decide +kernel
def L_X0_init_144 : Nat → Nat → Int32 → Mem → Option Mem
  | 0, _, _, _ => none
  | n + 1, a0, x1, M => if (30 : Int32) ≤ x1 then some M else gd ((mK M)[a0]? = some (0, 12)) ((mP M a0 0).bind fun r85 => lt2 (nw M (1, 12)) (mK M).length (fun m87 r88 => (f_X1_init r88 m87).bind fun q89 => gd ((mK q89)[r85]? = some (13, 30)) (gd (inR x1 30) (gd ((mK q89)[r88]? = some (1, 12)) (lt1 (sP q89 r85 x1.toNatClampNeg r88) (fun m94 => L_X0_init_144 n a0 (x1 + 1) m94))))))
def f_X0_init (a0 : Nat) (M : Mem) : Option Mem := lt2 (nw M (13, 30)) (mK M).length (fun m1 r2 => gd ((mK m1)[a0]? = some (0, 12)) (lt1 (sP m1 a0 0 r2) (fun m4 => lt2 (nw m4 (10, 10)) (mK m4).length (fun m5 r6 => gd ((mK m5)[r6]? = some (10, ((mK m5)[r6]?.map (fun z => z.2)).getD 0)) (gd (inR (0 : Int32) (((mK m5)[r6]?.map (fun z => z.2)).getD 0)) (lt1 (sI m5 r6 (0 : Int32).toNatClampNeg (0 : Int32)) (fun m10 => gd ((mK m10)[r6]? = some (10, ((mK m10)[r6]?.map (fun z => z.2)).getD 0)) (gd (inR (1 : Int32) (((mK m10)[r6]?.map (fun z => z.2)).getD 0)) (lt1 (sI m10 r6 (1 : Int32).toNatClampNeg (50 : Int32)) (fun m14 => gd ((mK m14)[r6]? = some (10, ((mK m14)[r6]?.map (fun z => z.2)).getD 0)) (gd (inR (2 : Int32) (((mK m14)[r6]?.map (fun z => z.2)).getD 0)) (lt1 (sI m14 r6 (2 : Int32).toNatClampNeg (50 : Int32)) (fun m18 => gd ((mK m18)[r6]? = some (10, ((mK m18)[r6]?.map (fun z => z.2)).getD 0)) (gd (inR (3 : Int32) (((mK m18)[r6]?.map (fun z => z.2)).getD 0)) (lt1 (sI m18 r6 (3 : Int32).toNatClampNeg (10 : Int32)) (fun m22 => gd ((mK m22)[r6]? = some (10, ((mK m22)[r6]?.map (fun z => z.2)).getD 0)) (gd (inR (4 : Int32) (((mK m22)[r6]?.map (fun z => z.2)).getD 0)) (lt1 (sI m22 r6 (4 : Int32).toNatClampNeg (50 : Int32)) (fun m26 => gd ((mK m26)[r6]? = some (10, ((mK m26)[r6]?.map (fun z => z.2)).getD 0)) (gd (inR (5 : Int32) (((mK m26)[r6]?.map (fun z => z.2)).getD 0)) (lt1 (sI m26 r6 (5 : Int32).toNatClampNeg (50 : Int32)) (fun m30 => gd ((mK m30)[r6]? = some (10, ((mK m30)[r6]?.map (fun z => z.2)).getD 0)) (gd (inR (6 : Int32) (((mK m30)[r6]?.map (fun z => z.2)).getD 0)) (lt1 (sI m30 r6 (6 : Int32).toNatClampNeg (50 : Int32)) (fun m34 => gd ((mK m34)[r6]? = some (10, ((mK m34)[r6]?.map (fun z => z.2)).getD 0)) (gd (inR (7 : Int32) (((mK m34)[r6]?.map (fun z => z.2)).getD 0)) (lt1 (sI m34 r6 (7 : Int32).toNatClampNeg (50 : Int32)) (fun m38 => gd ((mK m38)[r6]? = some (10, ((mK m38)[r6]?.map (fun z => z.2)).getD 0)) (gd (inR (8 : Int32) (((mK m38)[r6]?.map (fun z => z.2)).getD 0)) (lt1 (sI m38 r6 (8 : Int32).toNatClampNeg (50 : Int32)) (fun m42 => gd ((mK m42)[r6]? = some (10, ((mK m42)[r6]?.map (fun z => z.2)).getD 0)) (gd (inR (9 : Int32) (((mK m42)[r6]?.map (fun z => z.2)).getD 0)) (lt1 (sI m42 r6 (9 : Int32).toNatClampNeg (50 : Int32)) (fun m46 => gd ((mK m46)[a0]? = some (0, 12)) (lt1 (sP m46 a0 2 r6) (fun m48 => lt2 (nw m48 (11, 4)) (mK m48).length (fun m49 r50 => gd ((mK m49)[a0]? = some (0, 12)) (lt1 (sP m49 a0 3 r50) (fun m52 => lt2 (nw m52 (10, 4)) (mK m52).length (fun m53 r54 => gd ((mK m53)[a0]? = some (0, 12)) (lt1 (sP m53 a0 4 r54) (fun m56 => lt2 (nw m56 (10, 4)) (mK m56).length (fun m57 r58 => gd ((mK m57)[a0]? = some (0, 12)) (lt1 (sP m57 a0 5 r58) (fun m60 => lt2 (nwm m60 10 80) (mK m60).length (fun m61 r62 => gd ((mK m61)[a0]? = some (0, 12)) (lt1 (sP m61 a0 6 r62) (fun m64 => lt2 (nw m64 (10, 10)) (mK m64).length (fun m65 r66 => gd ((mK m65)[a0]? = some (0, 12)) (lt1 (sP m65 a0 7 r66) (fun m68 => lt2 (nw m68 (3, 11)) (mK m68).length (fun m69 r70 => (f_X3_init r70 m69).bind fun q71 => gd ((mK q71)[a0]? = some (0, 12)) (lt1 (sP q71 a0 9 r70) (fun m74 => lt2 (nw m74 (10, 10)) (mK m74).length (fun m75 r76 => gd ((mK m75)[a0]? = some (0, 12)) (lt1 (sP m75 a0 10 r76) (fun m78 => lt2 (nw m78 (10, 30)) (mK m78).length (fun m79 r80 => gd ((mK m79)[a0]? = some (0, 12)) (lt1 (sP m79 a0 11 r80) (fun m82 => L_X0_init_144 31 a0 (0 : Int32) m82))))))))))))))))))))))))))))))))))))))))))))))))))))))))))))
set_option maxRecDepth 100000 in
set_option maxHeartbeats 4000000 in
theorem l_X0_init_144 (Z : Sys) (X : Cx) (hR : xR X = rm_X0_init) (hn : (xM X).name = yX0_init.name) {q : Mem} (hq : RetOk Z X none True (PostC q) rm_X0_init.cells rm_X0_init.slots) : ∀ (n cs sl : Nat) (a0 : Nat) (x1 : Int32) (M : Mem) (hf : L_X0_init_144 n a0 x1 M = some q) (hb : cs + 4 * n ≤ rm_X0_init.cells ∧ sl + 20 * n ≤ rm_X0_init.slots), G Z X Y_X0_init True cs sl 144 [(0, .ref (zs Z + a0)), (1, .int x1)] [] M := by
  intro n
  induction n with
  | zero => intro cs sl a0 x1 M hf hb; exact absurd hf (by simp [L_X0_init_144])
  | succ n ih =>
    intro cs sl a0 x1 M hf hb
    simp only [rm_X0_init] at hb
    unfold L_X0_init_144 at hf
    refine G.iload_n 144 1 dX0_init_144 rfl rfl ?_
    refine G.bipush 145 (30 : Int32) dX0_init_145 (by decide +kernel) ?_
    refine G.icmp_ge 147 169 dX0_init_147 (by decide) (fun h83 => ?_) (fun h83 => ?_)
    · replace hf := (if_pos h83).symm.trans hf
      have hf9 := Option.some.inj hf; subst hf9
      refine G.widen (cells' := rm_X0_init.cells) (slots' := rm_X0_init.slots) (by simp only [rm_X5_init, rm_X2_init, rm_X7_init, rm_X4_init, rm_X3_init, rm_X1_init, rm_X6_init, rm_X0_init]; omega) (by simp only [rm_X5_init, rm_X2_init, rm_X7_init, rm_X4_init, rm_X3_init, rm_X1_init, rm_X6_init, rm_X0_init]; omega) ?_
      exact G.vret 169 hq dX0_init_169 ⟨rfl, rfl⟩
    · replace hf := (if_neg h83).symm.trans hf
      refine G.aload_n 150 0 dX0_init_150 rfl rfl ?_
      obtain ⟨g84, hf⟩ := gd_e hf
      obtain ⟨r85, e86, hf⟩ := bd_e hf
      refine G.getp 151 ck_0 0 r85 g84 e86 (by decide) (by decide +kernel) wd_257 dX0_init_151 ?_
      refine G.iload_n 154 1 dX0_init_154 rfl rfl ?_
      refine G.newD 155 ck_1 wd_117 wd_163 wd_80 trivial hR (by simp only [rm_X5_init, rm_X2_init, rm_X7_init, rm_X4_init, rm_X3_init, rm_X1_init, rm_X6_init, rm_X0_init]; omega) dX0_init_155 (fun m87 r88 em er => ?_)
      replace hf := lt2_e hf em er
      refine G.dup 158 dX0_init_158 rfl ?_
      obtain ⟨q89, e90, hf⟩ := bd_e hf
      refine G.ciN 159 (As := []) (c_X1_init Z m87 r88 e90) mk_X1_init wd_165 rfl wd_164 hR (by simp only [RmOk, rm_X5_init, rm_X2_init, rm_X7_init, rm_X4_init, rm_X3_init, rm_X1_init, rm_X6_init, rm_X0_init]; omega) rfl (Nat.le_of_ble_eq_true rfl) dX0_init_159 ?_
      obtain ⟨g91, hf⟩ := gd_e hf
      obtain ⟨g92, hf⟩ := gd_e hf
      obtain ⟨g93, hf⟩ := gd_e hf
      refine G.astD 162 g91 (by decide) rfl ck_1 g93 g92 dX0_init_162 (fun m94 em => ?_)
      replace hf := lt1_e hf em
      refine G.iinc 163 1 (x1 + 1) [(1, .int (x1 + 1)), (0, .ref (zs Z + a0))] dX0_init_163 rfl (congrArg (fun z => x1 + z) (by decide +kernel)) (Nat.le_of_ble_eq_true rfl) rfl ?_
      refine G.goto 166 144 dX0_init_166 (by decide) ?_
      refine G.locs [1, 0] rfl ?_
      exact ih _ _ a0 (x1 + 1) m94 hf (by simp only [rm_X5_init, rm_X2_init, rm_X7_init, rm_X4_init, rm_X3_init, rm_X1_init, rm_X6_init, rm_X0_init]; omega)
set_option maxRecDepth 100000 in
set_option maxHeartbeats 4000000 in
theorem c_X0_init (Z : Sys) (M : Mem) (a0 : Nat) {q : Mem} (hf : f_X0_init a0 M = some q) : Ct Z yX0_init cX0_init 2 none rm_X0_init [.ref (zs Z + a0)] M True (PostC q) := by
  refine Ct.of (by decide +kernel) (Nat.le_of_ble_eq_true rfl) (fun X hR hq hn => ?_)
  show G Z X Y_X0_init True 0 0 0 [(0, .ref (zs Z + a0))] [] M
  unfold f_X0_init at hf
  refine G.aload_n 0 0 dX0_init_0 rfl rfl ?_
  refine G.objInit 1 wd_116 wd_109 wd_110 hR ⟨Nat.le_of_ble_eq_true rfl, Nat.le_of_ble_eq_true rfl⟩ dX0_init_1 ?_
  refine G.aload_n 4 0 dX0_init_4 rfl rfl ?_
  refine G.bipush 5 (30 : Int32) dX0_init_5 (by decide +kernel) ?_
  refine G.newqD 7 13 30 (by decide) rfl wd_117 wd_118 (by decide +kernel) (by decide +kernel) (by decide +kernel) trivial hR (by simp only [rm_X5_init, rm_X2_init, rm_X7_init, rm_X4_init, rm_X3_init, rm_X1_init, rm_X6_init, rm_X0_init]; omega) dX0_init_7 (fun m1 r2 em er => ?_)
  replace hf := lt2_e hf em er
  obtain ⟨g3, hf⟩ := gd_e hf
  refine G.putpD 10 ck_0 0 g3 (by decide) (by decide +kernel) (Or.inr ⟨rfl, hn, rfl⟩) wd_257 (fun _ => rfl) (fun _ => rfl) dX0_init_10 (fun m4 em => ?_)
  replace hf := lt1_e hf em
  refine G.aload_n 13 0 dX0_init_13 rfl rfl ?_
  refine G.bipush 14 (10 : Int32) dX0_init_14 (by decide +kernel) ?_
  refine G.newaID 16 10 wd_161 (by decide +kernel) (by decide +kernel) (by decide +kernel) trivial hR (by simp only [rm_X5_init, rm_X2_init, rm_X7_init, rm_X4_init, rm_X3_init, rm_X1_init, rm_X6_init, rm_X0_init]; omega) dX0_init_16 (fun m5 r6 em er => ?_)
  replace hf := lt2_e hf em er
  refine G.dup 18 dX0_init_18 rfl ?_
  refine G.iconst 19 (0 : Int32) dX0_init_19 (by decide +kernel) ?_
  refine G.iconst 20 (0 : Int32) dX0_init_20 (by decide +kernel) ?_
  obtain ⟨g8, hf⟩ := gd_e hf
  obtain ⟨g9, hf⟩ := gd_e hf
  refine G.istD 21 g8 g9 dX0_init_21 (fun m10 em => ?_)
  replace hf := lt1_e hf em
  refine G.dup 22 dX0_init_22 rfl ?_
  refine G.iconst 23 (1 : Int32) dX0_init_23 (by decide +kernel) ?_
  refine G.bipush 24 (50 : Int32) dX0_init_24 (by decide +kernel) ?_
  obtain ⟨g12, hf⟩ := gd_e hf
  obtain ⟨g13, hf⟩ := gd_e hf
  refine G.istD 26 g12 g13 dX0_init_26 (fun m14 em => ?_)
  replace hf := lt1_e hf em
  refine G.dup 27 dX0_init_27 rfl ?_
  refine G.iconst 28 (2 : Int32) dX0_init_28 (by decide +kernel) ?_
  refine G.bipush 29 (50 : Int32) dX0_init_29 (by decide +kernel) ?_
  obtain ⟨g16, hf⟩ := gd_e hf
  obtain ⟨g17, hf⟩ := gd_e hf
  refine G.istD 31 g16 g17 dX0_init_31 (fun m18 em => ?_)
  replace hf := lt1_e hf em
  refine G.dup 32 dX0_init_32 rfl ?_
  refine G.iconst 33 (3 : Int32) dX0_init_33 (by decide +kernel) ?_
  refine G.bipush 34 (10 : Int32) dX0_init_34 (by decide +kernel) ?_
  obtain ⟨g20, hf⟩ := gd_e hf
  obtain ⟨g21, hf⟩ := gd_e hf
  refine G.istD 36 g20 g21 dX0_init_36 (fun m22 em => ?_)
  replace hf := lt1_e hf em
  refine G.dup 37 dX0_init_37 rfl ?_
  refine G.iconst 38 (4 : Int32) dX0_init_38 (by decide +kernel) ?_
  refine G.bipush 39 (50 : Int32) dX0_init_39 (by decide +kernel) ?_
  obtain ⟨g24, hf⟩ := gd_e hf
  obtain ⟨g25, hf⟩ := gd_e hf
  refine G.istD 41 g24 g25 dX0_init_41 (fun m26 em => ?_)
  replace hf := lt1_e hf em
  refine G.dup 42 dX0_init_42 rfl ?_
  refine G.iconst 43 (5 : Int32) dX0_init_43 (by decide +kernel) ?_
  refine G.bipush 44 (50 : Int32) dX0_init_44 (by decide +kernel) ?_
  obtain ⟨g28, hf⟩ := gd_e hf
  obtain ⟨g29, hf⟩ := gd_e hf
  refine G.istD 46 g28 g29 dX0_init_46 (fun m30 em => ?_)
  replace hf := lt1_e hf em
  refine G.dup 47 dX0_init_47 rfl ?_
  refine G.bipush 48 (6 : Int32) dX0_init_48 (by decide +kernel) ?_
  refine G.bipush 50 (50 : Int32) dX0_init_50 (by decide +kernel) ?_
  obtain ⟨g32, hf⟩ := gd_e hf
  obtain ⟨g33, hf⟩ := gd_e hf
  refine G.istD 52 g32 g33 dX0_init_52 (fun m34 em => ?_)
  replace hf := lt1_e hf em
  refine G.dup 53 dX0_init_53 rfl ?_
  refine G.bipush 54 (7 : Int32) dX0_init_54 (by decide +kernel) ?_
  refine G.bipush 56 (50 : Int32) dX0_init_56 (by decide +kernel) ?_
  obtain ⟨g36, hf⟩ := gd_e hf
  obtain ⟨g37, hf⟩ := gd_e hf
  refine G.istD 58 g36 g37 dX0_init_58 (fun m38 em => ?_)
  replace hf := lt1_e hf em
  refine G.dup 59 dX0_init_59 rfl ?_
  refine G.bipush 60 (8 : Int32) dX0_init_60 (by decide +kernel) ?_
  refine G.bipush 62 (50 : Int32) dX0_init_62 (by decide +kernel) ?_
  obtain ⟨g40, hf⟩ := gd_e hf
  obtain ⟨g41, hf⟩ := gd_e hf
  refine G.istD 64 g40 g41 dX0_init_64 (fun m42 em => ?_)
  replace hf := lt1_e hf em
  refine G.dup 65 dX0_init_65 rfl ?_
  refine G.bipush 66 (9 : Int32) dX0_init_66 (by decide +kernel) ?_
  refine G.bipush 68 (50 : Int32) dX0_init_68 (by decide +kernel) ?_
  obtain ⟨g44, hf⟩ := gd_e hf
  obtain ⟨g45, hf⟩ := gd_e hf
  refine G.istD 70 g44 g45 dX0_init_70 (fun m46 em => ?_)
  replace hf := lt1_e hf em
  obtain ⟨g47, hf⟩ := gd_e hf
  refine G.putpD 71 ck_0 2 g47 (by decide) (by decide +kernel) (Or.inr ⟨rfl, hn, rfl⟩) wd_265 (fun _ => rfl) (fun _ => rfl) dX0_init_71 (fun m48 em => ?_)
  replace hf := lt1_e hf em
  refine G.aload_n 74 0 dX0_init_74 rfl rfl ?_
  refine G.iconst 75 (4 : Int32) dX0_init_75 (by decide +kernel) ?_
  refine G.newaZD 76 4 wd_162 (by decide +kernel) (by decide +kernel) (by decide +kernel) trivial hR (by simp only [rm_X5_init, rm_X2_init, rm_X7_init, rm_X4_init, rm_X3_init, rm_X1_init, rm_X6_init, rm_X0_init]; omega) dX0_init_76 (fun m49 r50 em er => ?_)
  replace hf := lt2_e hf em er
  obtain ⟨g51, hf⟩ := gd_e hf
  refine G.putpD 78 ck_0 3 g51 (by decide) (by decide +kernel) (Or.inr ⟨rfl, hn, rfl⟩) wd_267 (fun _ => rfl) (fun _ => rfl) dX0_init_78 (fun m52 em => ?_)
  replace hf := lt1_e hf em
  refine G.aload_n 81 0 dX0_init_81 rfl rfl ?_
  refine G.iconst 82 (4 : Int32) dX0_init_82 (by decide +kernel) ?_
  refine G.newaID 83 4 wd_161 (by decide +kernel) (by decide +kernel) (by decide +kernel) trivial hR (by simp only [rm_X5_init, rm_X2_init, rm_X7_init, rm_X4_init, rm_X3_init, rm_X1_init, rm_X6_init, rm_X0_init]; omega) dX0_init_83 (fun m53 r54 em er => ?_)
  replace hf := lt2_e hf em er
  obtain ⟨g55, hf⟩ := gd_e hf
  refine G.putpD 85 ck_0 4 g55 (by decide) (by decide +kernel) (Or.inr ⟨rfl, hn, rfl⟩) wd_269 (fun _ => rfl) (fun _ => rfl) dX0_init_85 (fun m56 em => ?_)
  replace hf := lt1_e hf em
  refine G.aload_n 88 0 dX0_init_88 rfl rfl ?_
  refine G.iconst 89 (4 : Int32) dX0_init_89 (by decide +kernel) ?_
  refine G.newaID 90 4 wd_161 (by decide +kernel) (by decide +kernel) (by decide +kernel) trivial hR (by simp only [rm_X5_init, rm_X2_init, rm_X7_init, rm_X4_init, rm_X3_init, rm_X1_init, rm_X6_init, rm_X0_init]; omega) dX0_init_90 (fun m57 r58 em er => ?_)
  replace hf := lt2_e hf em er
  obtain ⟨g59, hf⟩ := gd_e hf
  refine G.putpD 92 ck_0 5 g59 (by decide) (by decide +kernel) (Or.inr ⟨rfl, hn, rfl⟩) wd_271 (fun _ => rfl) (fun _ => rfl) dX0_init_92 (fun m60 em => ?_)
  replace hf := lt1_e hf em
  refine G.aload_n 95 0 dX0_init_95 rfl rfl ?_
  refine G.bipush 96 (10 : Int32) dX0_init_96 (by decide +kernel) ?_
  refine G.bipush 98 (80 : Int32) dX0_init_98 (by decide +kernel) ?_
  refine G.mnewD 100 10 80 wd_119 wd_120 wd_161 (by decide +kernel) (by decide +kernel) (by decide +kernel) (by decide +kernel) (by decide +kernel) (by decide +kernel) (by decide +kernel) trivial hR (by simp only [rm_X5_init, rm_X2_init, rm_X7_init, rm_X4_init, rm_X3_init, rm_X1_init, rm_X6_init, rm_X0_init]; omega) dX0_init_100 (fun m61 r62 em er => ?_)
  replace hf := lt2_e hf em er
  obtain ⟨g63, hf⟩ := gd_e hf
  refine G.putpD 104 ck_0 6 g63 (by decide) (by decide +kernel) (Or.inr ⟨rfl, hn, rfl⟩) wd_273 (fun _ => rfl) (fun _ => rfl) dX0_init_104 (fun m64 em => ?_)
  replace hf := lt1_e hf em
  refine G.aload_n 107 0 dX0_init_107 rfl rfl ?_
  refine G.bipush 108 (10 : Int32) dX0_init_108 (by decide +kernel) ?_
  refine G.newaID 110 10 wd_161 (by decide +kernel) (by decide +kernel) (by decide +kernel) trivial hR (by simp only [rm_X5_init, rm_X2_init, rm_X7_init, rm_X4_init, rm_X3_init, rm_X1_init, rm_X6_init, rm_X0_init]; omega) dX0_init_110 (fun m65 r66 em er => ?_)
  replace hf := lt2_e hf em er
  obtain ⟨g67, hf⟩ := gd_e hf
  refine G.putpD 112 ck_0 7 g67 (by decide) (by decide +kernel) (Or.inr ⟨rfl, hn, rfl⟩) wd_274 (fun _ => rfl) (fun _ => rfl) dX0_init_112 (fun m68 em => ?_)
  replace hf := lt1_e hf em
  refine G.aload_n 115 0 dX0_init_115 rfl rfl ?_
  refine G.newD 116 ck_3 wd_121 wd_122 wd_79 trivial hR (by simp only [rm_X5_init, rm_X2_init, rm_X7_init, rm_X4_init, rm_X3_init, rm_X1_init, rm_X6_init, rm_X0_init]; omega) dX0_init_116 (fun m69 r70 em er => ?_)
  replace hf := lt2_e hf em er
  refine G.dup 119 dX0_init_119 rfl ?_
  obtain ⟨q71, e72, hf⟩ := bd_e hf
  refine G.ciN 120 (As := []) (c_X3_init Z m69 r70 e72) mk_X3_init wd_124 rfl wd_123 hR (by simp only [RmOk, rm_X5_init, rm_X2_init, rm_X7_init, rm_X4_init, rm_X3_init, rm_X1_init, rm_X6_init, rm_X0_init]; omega) rfl (Nat.le_of_ble_eq_true rfl) dX0_init_120 ?_
  obtain ⟨g73, hf⟩ := gd_e hf
  refine G.putpD 123 ck_0 9 g73 (by decide) (by decide +kernel) (Or.inr ⟨rfl, hn, rfl⟩) wd_277 (fun _ => rfl) (fun _ => rfl) dX0_init_123 (fun m74 em => ?_)
  replace hf := lt1_e hf em
  refine G.aload_n 126 0 dX0_init_126 rfl rfl ?_
  refine G.bipush 127 (10 : Int32) dX0_init_127 (by decide +kernel) ?_
  refine G.newaID 129 10 wd_161 (by decide +kernel) (by decide +kernel) (by decide +kernel) trivial hR (by simp only [rm_X5_init, rm_X2_init, rm_X7_init, rm_X4_init, rm_X3_init, rm_X1_init, rm_X6_init, rm_X0_init]; omega) dX0_init_129 (fun m75 r76 em er => ?_)
  replace hf := lt2_e hf em er
  obtain ⟨g77, hf⟩ := gd_e hf
  refine G.putpD 131 ck_0 10 g77 (by decide) (by decide +kernel) (Or.inr ⟨rfl, hn, rfl⟩) wd_278 (fun _ => rfl) (fun _ => rfl) dX0_init_131 (fun m78 em => ?_)
  replace hf := lt1_e hf em
  refine G.aload_n 134 0 dX0_init_134 rfl rfl ?_
  refine G.bipush 135 (30 : Int32) dX0_init_135 (by decide +kernel) ?_
  refine G.newaID 137 30 wd_161 (by decide +kernel) (by decide +kernel) (by decide +kernel) trivial hR (by simp only [rm_X5_init, rm_X2_init, rm_X7_init, rm_X4_init, rm_X3_init, rm_X1_init, rm_X6_init, rm_X0_init]; omega) dX0_init_137 (fun m79 r80 em er => ?_)
  replace hf := lt2_e hf em er
  obtain ⟨g81, hf⟩ := gd_e hf
  refine G.putpD 139 ck_0 11 g81 (by decide) (by decide +kernel) (Or.inr ⟨rfl, hn, rfl⟩) wd_279 (fun _ => rfl) (fun _ => rfl) dX0_init_139 (fun m82 em => ?_)
  replace hf := lt1_e hf em
  refine G.iconst 142 (0 : Int32) dX0_init_142 (by decide +kernel) ?_
  refine G.istore_n 143 [(1, .int (0 : Int32)), (0, .ref (zs Z + a0))] dX0_init_143 rfl (Nat.le_of_ble_eq_true rfl) rfl ?_
  refine G.locs [1, 0] rfl ?_
  exact l_X0_init_144 Z X hR hn hq 31 _ _ a0 (0 : Int32) m82 hf (by simp only [rm_X5_init, rm_X2_init, rm_X7_init, rm_X4_init, rm_X3_init, rm_X1_init, rm_X6_init, rm_X0_init]; omega)

abbrev Y_X8_init : My := (cX8_init, RX8, 2)
def rm_X8_init : Room := { frames := 4, cells := 600, slots := 20000, locals := 161 }
theorem dX8_init_0 : decode cX8_init 0 = .ok (.aload_n 0, 1) := by decide +kernel
theorem dX8_init_1 : decode cX8_init 1 = .ok (.invokespecial 1, 3) := by decide +kernel
theorem dX8_init_4 : decode cX8_init 4 = .ok (.aload_n 0, 1) := by decide +kernel
theorem dX8_init_5 : decode cX8_init 5 = .ok (.new 7, 3) := by decide +kernel
theorem dX8_init_8 : decode cX8_init 8 = .ok (.dup, 1) := by decide +kernel
theorem dX8_init_9 : decode cX8_init 9 = .ok (.invokespecial 9, 3) := by decide +kernel
theorem dX8_init_12 : decode cX8_init 12 = .ok (.putfield 10, 3) := by decide +kernel
theorem dX8_init_15 : decode cX8_init 15 = .ok (.aload_n 0, 1) := by decide +kernel
theorem dX8_init_16 : decode cX8_init 16 = .ok (.new 7, 3) := by decide +kernel
theorem dX8_init_19 : decode cX8_init 19 = .ok (.dup, 1) := by decide +kernel
theorem dX8_init_20 : decode cX8_init 20 = .ok (.invokespecial 9, 3) := by decide +kernel
theorem dX8_init_23 : decode cX8_init 23 = .ok (.putfield 16, 3) := by decide +kernel
theorem dX8_init_26 : decode cX8_init 26 = .ok (.aload_n 0, 1) := by decide +kernel
theorem dX8_init_27 : decode cX8_init 27 = .ok (.new 7, 3) := by decide +kernel
theorem dX8_init_30 : decode cX8_init 30 = .ok (.dup, 1) := by decide +kernel
theorem dX8_init_31 : decode cX8_init 31 = .ok (.invokespecial 9, 3) := by decide +kernel
theorem dX8_init_34 : decode cX8_init 34 = .ok (.putfield 19, 3) := by decide +kernel
theorem dX8_init_37 : decode cX8_init 37 = .ok (.aload_n 0, 1) := by decide +kernel
theorem dX8_init_38 : decode cX8_init 38 = .ok (.bipush 8, 2) := by decide +kernel
theorem dX8_init_40 : decode cX8_init 40 = .ok (.anewarray 22, 3) := by decide +kernel
theorem dX8_init_43 : decode cX8_init 43 = .ok (.putfield 24, 3) := by decide +kernel
theorem dX8_init_46 : decode cX8_init 46 = .ok (.aload_n 0, 1) := by decide +kernel
theorem dX8_init_47 : decode cX8_init 47 = .ok (.new 28, 3) := by decide +kernel
theorem dX8_init_50 : decode cX8_init 50 = .ok (.dup, 1) := by decide +kernel
theorem dX8_init_51 : decode cX8_init 51 = .ok (.invokespecial 30, 3) := by decide +kernel
theorem dX8_init_54 : decode cX8_init 54 = .ok (.putfield 31, 3) := by decide +kernel
theorem dX8_init_57 : decode cX8_init 57 = .ok (.aload_n 0, 1) := by decide +kernel
theorem dX8_init_58 : decode cX8_init 58 = .ok (.new 35, 3) := by decide +kernel
theorem dX8_init_61 : decode cX8_init 61 = .ok (.dup, 1) := by decide +kernel
theorem dX8_init_62 : decode cX8_init 62 = .ok (.invokespecial 37, 3) := by decide +kernel
theorem dX8_init_65 : decode cX8_init 65 = .ok (.putfield 38, 3) := by decide +kernel
theorem dX8_init_68 : decode cX8_init 68 = .ok (.aload_n 0, 1) := by decide +kernel
theorem dX8_init_69 : decode cX8_init 69 = .ok (.new 42, 3) := by decide +kernel
theorem dX8_init_72 : decode cX8_init 72 = .ok (.dup, 1) := by decide +kernel
theorem dX8_init_73 : decode cX8_init 73 = .ok (.invokespecial 44, 3) := by decide +kernel
theorem dX8_init_76 : decode cX8_init 76 = .ok (.putfield 45, 3) := by decide +kernel
theorem dX8_init_79 : decode cX8_init 79 = .ok (.iconst 0, 1) := by decide +kernel
theorem dX8_init_80 : decode cX8_init 80 = .ok (.istore_n 1, 1) := by decide +kernel
theorem dX8_init_81 : decode cX8_init 81 = .ok (.iload_n 1, 1) := by decide +kernel
theorem dX8_init_82 : decode cX8_init 82 = .ok (.bipush 8, 2) := by decide +kernel
theorem dX8_init_84 : decode cX8_init 84 = .ok (.if_icmp .ge 22, 3) := by decide +kernel
theorem dX8_init_87 : decode cX8_init 87 = .ok (.aload_n 0, 1) := by decide +kernel
theorem dX8_init_88 : decode cX8_init 88 = .ok (.getfield 24, 3) := by decide +kernel
theorem dX8_init_91 : decode cX8_init 91 = .ok (.iload_n 1, 1) := by decide +kernel
theorem dX8_init_92 : decode cX8_init 92 = .ok (.new 22, 3) := by decide +kernel
theorem dX8_init_95 : decode cX8_init 95 = .ok (.dup, 1) := by decide +kernel
theorem dX8_init_96 : decode cX8_init 96 = .ok (.invokespecial 49, 3) := by decide +kernel
theorem dX8_init_99 : decode cX8_init 99 = .ok (.aastore, 1) := by decide +kernel
theorem dX8_init_100 : decode cX8_init 100 = .ok (.iinc 1 1, 3) := by decide +kernel
theorem dX8_init_103 : decode cX8_init 103 = .ok (.goto (-22), 3) := by decide +kernel
theorem dX8_init_106 : decode cX8_init 106 = .ok (.return_, 1) := by decide +kernel
def L_X8_init_81 : Nat → Nat → Int32 → Mem → Option Mem
  | 0, _, _, _ => none
  | n + 1, a0, x1, M => if (8 : Int32) ≤ x1 then some M else gd ((mK M)[a0]? = some (8, 8)) ((mP M a0 4).bind fun r43 => lt2 (nw M (6, 7)) (mK M).length (fun m45 r46 => (f_X6_init r46 m45).bind fun q47 => gd ((mK q47)[r43]? = some (14, 8)) (gd (inR x1 8) (gd ((mK q47)[r46]? = some (6, 7)) (lt1 (sP q47 r43 x1.toNatClampNeg r46) (fun m52 => L_X8_init_81 n a0 (x1 + 1) m52))))))
def f_X8_init (a0 : Nat) (M : Mem) : Option Mem := lt2 (nw M (0, 12)) (mK M).length (fun m1 r2 => (f_X0_init r2 m1).bind fun q3 => gd ((mK q3)[a0]? = some (8, 8)) (lt1 (sP q3 a0 0 r2) (fun m6 => lt2 (nw m6 (0, 12)) (mK m6).length (fun m7 r8 => (f_X0_init r8 m7).bind fun q9 => gd ((mK q9)[a0]? = some (8, 8)) (lt1 (sP q9 a0 1 r8) (fun m12 => lt2 (nw m12 (0, 12)) (mK m12).length (fun m13 r14 => (f_X0_init r14 m13).bind fun q15 => gd ((mK q15)[a0]? = some (8, 8)) (lt1 (sP q15 a0 2 r14) (fun m18 => lt2 (nw m18 (14, 8)) (mK m18).length (fun m19 r20 => gd ((mK m19)[a0]? = some (8, 8)) (lt1 (sP m19 a0 4 r20) (fun m22 => lt2 (nw m22 (7, 5)) (mK m22).length (fun m23 r24 => (f_X7_init r24 m23).bind fun q25 => gd ((mK q25)[a0]? = some (8, 8)) (lt1 (sP q25 a0 5 r24) (fun m28 => lt2 (nw m28 (4, 2)) (mK m28).length (fun m29 r30 => (f_X4_init r30 m29).bind fun q31 => gd ((mK q31)[a0]? = some (8, 8)) (lt1 (sP q31 a0 6 r30) (fun m34 => lt2 (nw m34 (2, 5)) (mK m34).length (fun m35 r36 => (f_X2_init r36 m35).bind fun q37 => gd ((mK q37)[a0]? = some (8, 8)) (lt1 (sP q37 a0 7 r36) (fun m40 => L_X8_init_81 9 a0 (0 : Int32) m40)))))))))))))))))))))
set_option maxRecDepth 100000 in
set_option maxHeartbeats 4000000 in
theorem l_X8_init_81 (Z : Sys) (X : Cx) (hR : xR X = rm_X8_init) (hn : (xM X).name = yX8_init.name) {q : Mem} (hq : RetOk Z X none True (PostC q) rm_X8_init.cells rm_X8_init.slots) : ∀ (n cs sl : Nat) (a0 : Nat) (x1 : Int32) (M : Mem) (hf : L_X8_init_81 n a0 x1 M = some q) (hb : cs + 5 * n ≤ rm_X8_init.cells ∧ sl + 110 * n ≤ rm_X8_init.slots), G Z X Y_X8_init True cs sl 81 [(0, .ref (zs Z + a0)), (1, .int x1)] [] M := by
  intro n
  induction n with
  | zero => intro cs sl a0 x1 M hf hb; exact absurd hf (by simp [L_X8_init_81])
  | succ n ih =>
    intro cs sl a0 x1 M hf hb
    simp only [rm_X8_init] at hb
    unfold L_X8_init_81 at hf
    refine G.iload_n 81 1 dX8_init_81 rfl rfl ?_
    refine G.bipush 82 (8 : Int32) dX8_init_82 (by decide +kernel) ?_
    refine G.icmp_ge 84 106 dX8_init_84 (by decide) (fun h41 => ?_) (fun h41 => ?_)
    · replace hf := (if_pos h41).symm.trans hf
      have hf9 := Option.some.inj hf; subst hf9
      refine G.widen (cells' := rm_X8_init.cells) (slots' := rm_X8_init.slots) (by simp only [rm_X5_init, rm_X2_init, rm_X7_init, rm_X4_init, rm_X3_init, rm_X1_init, rm_X6_init, rm_X0_init, rm_X8_init]; omega) (by simp only [rm_X5_init, rm_X2_init, rm_X7_init, rm_X4_init, rm_X3_init, rm_X1_init, rm_X6_init, rm_X0_init, rm_X8_init]; omega) ?_
      exact G.vret 106 hq dX8_init_106 ⟨rfl, rfl⟩
    · replace hf := (if_neg h41).symm.trans hf
      refine G.aload_n 87 0 dX8_init_87 rfl rfl ?_
      obtain ⟨g42, hf⟩ := gd_e hf
      obtain ⟨r43, e44, hf⟩ := bd_e hf
      refine G.getp 88 ck_8 4 r43 g42 e44 (by decide) (by decide +kernel) wd_404 dX8_init_88 ?_
      refine G.iload_n 91 1 dX8_init_91 rfl rfl ?_
      refine G.newD 92 ck_6 wd_305 wd_366 wd_85 trivial hR (by simp only [rm_X5_init, rm_X2_init, rm_X7_init, rm_X4_init, rm_X3_init, rm_X1_init, rm_X6_init, rm_X0_init, rm_X8_init]; omega) dX8_init_92 (fun m45 r46 em er => ?_)
      replace hf := lt2_e hf em er
      refine G.dup 95 dX8_init_95 rfl ?_
      obtain ⟨q47, e48, hf⟩ := bd_e hf
      refine G.ciN 96 (As := []) (c_X6_init Z m45 r46 e48) mk_X6_init wd_368 rfl wd_367 hR (by simp only [RmOk, rm_X5_init, rm_X2_init, rm_X7_init, rm_X4_init, rm_X3_init, rm_X1_init, rm_X6_init, rm_X0_init, rm_X8_init]; omega) rfl (Nat.le_of_ble_eq_true rfl) dX8_init_96 ?_
      obtain ⟨g49, hf⟩ := gd_e hf
      obtain ⟨g50, hf⟩ := gd_e hf
      obtain ⟨g51, hf⟩ := gd_e hf
      refine G.astD 99 g49 (by decide) rfl ck_6 g51 g50 dX8_init_99 (fun m52 em => ?_)
      replace hf := lt1_e hf em
      refine G.iinc 100 1 (x1 + 1) [(1, .int (x1 + 1)), (0, .ref (zs Z + a0))] dX8_init_100 rfl (congrArg (fun z => x1 + z) (by decide +kernel)) (Nat.le_of_ble_eq_true rfl) rfl ?_
      refine G.goto 103 81 dX8_init_103 (by decide) ?_
      refine G.locs [1, 0] rfl ?_
      exact ih _ _ a0 (x1 + 1) m52 hf (by simp only [rm_X5_init, rm_X2_init, rm_X7_init, rm_X4_init, rm_X3_init, rm_X1_init, rm_X6_init, rm_X0_init, rm_X8_init]; omega)
set_option maxRecDepth 100000 in
set_option maxHeartbeats 4000000 in
theorem c_X8_init (Z : Sys) (M : Mem) (a0 : Nat) {q : Mem} (hf : f_X8_init a0 M = some q) : Ct Z yX8_init cX8_init 2 none rm_X8_init [.ref (zs Z + a0)] M True (PostC q) := by
  refine Ct.of (by decide +kernel) (Nat.le_of_ble_eq_true rfl) (fun X hR hq hn => ?_)
  show G Z X Y_X8_init True 0 0 0 [(0, .ref (zs Z + a0))] [] M
  unfold f_X8_init at hf
  refine G.aload_n 0 0 dX8_init_0 rfl rfl ?_
  refine G.objInit 1 wd_108 wd_109 wd_110 hR ⟨Nat.le_of_ble_eq_true rfl, Nat.le_of_ble_eq_true rfl⟩ dX8_init_1 ?_
  refine G.aload_n 4 0 dX8_init_4 rfl rfl ?_
  refine G.newD 5 ck_0 wd_111 wd_112 wd_78 trivial hR (by simp only [rm_X5_init, rm_X2_init, rm_X7_init, rm_X4_init, rm_X3_init, rm_X1_init, rm_X6_init, rm_X0_init, rm_X8_init]; omega) dX8_init_5 (fun m1 r2 em er => ?_)
  replace hf := lt2_e hf em er
  refine G.dup 8 dX8_init_8 rfl ?_
  obtain ⟨q3, e4, hf⟩ := bd_e hf
  refine G.ci 9 (As := []) (c_X0_init Z m1 r2 e4) mk_X0_init wd_114 rfl wd_113 hR (by simp only [RmOk, rm_X5_init, rm_X2_init, rm_X7_init, rm_X4_init, rm_X3_init, rm_X1_init, rm_X6_init, rm_X0_init, rm_X8_init]; omega) rfl (Nat.le_of_ble_eq_true rfl) dX8_init_9 ?_
  obtain ⟨g5, hf⟩ := gd_e hf
  refine G.putpD 12 ck_8 0 g5 (by decide) (by decide +kernel) (Or.inr ⟨rfl, hn, rfl⟩) wd_400 (fun _ => rfl) (fun _ => rfl) dX8_init_12 (fun m6 em => ?_)
  replace hf := lt1_e hf em
  refine G.aload_n 15 0 dX8_init_15 rfl rfl ?_
  refine G.newD 16 ck_0 wd_111 wd_112 wd_78 trivial hR (by simp only [rm_X5_init, rm_X2_init, rm_X7_init, rm_X4_init, rm_X3_init, rm_X1_init, rm_X6_init, rm_X0_init, rm_X8_init]; omega) dX8_init_16 (fun m7 r8 em er => ?_)
  replace hf := lt2_e hf em er
  refine G.dup 19 dX8_init_19 rfl ?_
  obtain ⟨q9, e10, hf⟩ := bd_e hf
  refine G.ci 20 (As := []) (c_X0_init Z m7 r8 e10) mk_X0_init wd_114 rfl wd_113 hR (by simp only [RmOk, rm_X5_init, rm_X2_init, rm_X7_init, rm_X4_init, rm_X3_init, rm_X1_init, rm_X6_init, rm_X0_init, rm_X8_init]; omega) rfl (Nat.le_of_ble_eq_true rfl) dX8_init_20 ?_
  obtain ⟨g11, hf⟩ := gd_e hf
  refine G.putpD 23 ck_8 1 g11 (by decide) (by decide +kernel) (Or.inr ⟨rfl, hn, rfl⟩) wd_401 (fun _ => rfl) (fun _ => rfl) dX8_init_23 (fun m12 em => ?_)
  replace hf := lt1_e hf em
  refine G.aload_n 26 0 dX8_init_26 rfl rfl ?_
  refine G.newD 27 ck_0 wd_111 wd_112 wd_78 trivial hR (by simp only [rm_X5_init, rm_X2_init, rm_X7_init, rm_X4_init, rm_X3_init, rm_X1_init, rm_X6_init, rm_X0_init, rm_X8_init]; omega) dX8_init_27 (fun m13 r14 em er => ?_)
  replace hf := lt2_e hf em er
  refine G.dup 30 dX8_init_30 rfl ?_
  obtain ⟨q15, e16, hf⟩ := bd_e hf
  refine G.ci 31 (As := []) (c_X0_init Z m13 r14 e16) mk_X0_init wd_114 rfl wd_113 hR (by simp only [RmOk, rm_X5_init, rm_X2_init, rm_X7_init, rm_X4_init, rm_X3_init, rm_X1_init, rm_X6_init, rm_X0_init, rm_X8_init]; omega) rfl (Nat.le_of_ble_eq_true rfl) dX8_init_31 ?_
  obtain ⟨g17, hf⟩ := gd_e hf
  refine G.putpD 34 ck_8 2 g17 (by decide) (by decide +kernel) (Or.inr ⟨rfl, hn, rfl⟩) wd_402 (fun _ => rfl) (fun _ => rfl) dX8_init_34 (fun m18 em => ?_)
  replace hf := lt1_e hf em
  refine G.aload_n 37 0 dX8_init_37 rfl rfl ?_
  refine G.bipush 38 (8 : Int32) dX8_init_38 (by decide +kernel) ?_
  refine G.newqD 40 14 8 (by decide) rfl wd_305 wd_306 (by decide +kernel) (by decide +kernel) (by decide +kernel) trivial hR (by simp only [rm_X5_init, rm_X2_init, rm_X7_init, rm_X4_init, rm_X3_init, rm_X1_init, rm_X6_init, rm_X0_init, rm_X8_init]; omega) dX8_init_40 (fun m19 r20 em er => ?_)
  replace hf := lt2_e hf em er
  obtain ⟨g21, hf⟩ := gd_e hf
  refine G.putpD 43 ck_8 4 g21 (by decide) (by decide +kernel) (Or.inr ⟨rfl, hn, rfl⟩) wd_404 (fun _ => rfl) (fun _ => rfl) dX8_init_43 (fun m22 em => ?_)
  replace hf := lt1_e hf em
  refine G.aload_n 46 0 dX8_init_46 rfl rfl ?_
  refine G.newD 47 ck_7 wd_307 wd_308 wd_82 trivial hR (by simp only [rm_X5_init, rm_X2_init, rm_X7_init, rm_X4_init, rm_X3_init, rm_X1_init, rm_X6_init, rm_X0_init, rm_X8_init]; omega) dX8_init_47 (fun m23 r24 em er => ?_)
  replace hf := lt2_e hf em er
  refine G.dup 50 dX8_init_50 rfl ?_
  obtain ⟨q25, e26, hf⟩ := bd_e hf
  refine G.ciN 51 (As := []) (c_X7_init Z m23 r24 e26) mk_X7_init wd_310 rfl wd_309 hR (by simp only [RmOk, rm_X5_init, rm_X2_init, rm_X7_init, rm_X4_init, rm_X3_init, rm_X1_init, rm_X6_init, rm_X0_init, rm_X8_init]; omega) rfl (Nat.le_of_ble_eq_true rfl) dX8_init_51 ?_
  obtain ⟨g27, hf⟩ := gd_e hf
  refine G.putpD 54 ck_8 5 g27 (by decide) (by decide +kernel) (Or.inr ⟨rfl, hn, rfl⟩) wd_405 (fun _ => rfl) (fun _ => rfl) dX8_init_54 (fun m28 em => ?_)
  replace hf := lt1_e hf em
  refine G.aload_n 57 0 dX8_init_57 rfl rfl ?_
  refine G.newD 58 ck_4 wd_329 wd_330 wd_83 trivial hR (by simp only [rm_X5_init, rm_X2_init, rm_X7_init, rm_X4_init, rm_X3_init, rm_X1_init, rm_X6_init, rm_X0_init, rm_X8_init]; omega) dX8_init_58 (fun m29 r30 em er => ?_)
  replace hf := lt2_e hf em er
  refine G.dup 61 dX8_init_61 rfl ?_
  obtain ⟨q31, e32, hf⟩ := bd_e hf
  refine G.ciN 62 (As := []) (c_X4_init Z m29 r30 e32) mk_X4_init wd_332 rfl wd_331 hR (by simp only [RmOk, rm_X5_init, rm_X2_init, rm_X7_init, rm_X4_init, rm_X3_init, rm_X1_init, rm_X6_init, rm_X0_init, rm_X8_init]; omega) rfl (Nat.le_of_ble_eq_true rfl) dX8_init_62 ?_
  obtain ⟨g33, hf⟩ := gd_e hf
  refine G.putpD 65 ck_8 6 g33 (by decide) (by decide +kernel) (Or.inr ⟨rfl, hn, rfl⟩) wd_406 (fun _ => rfl) (fun _ => rfl) dX8_init_65 (fun m34 em => ?_)
  replace hf := lt1_e hf em
  refine G.aload_n 68 0 dX8_init_68 rfl rfl ?_
  refine G.newD 69 ck_2 wd_344 wd_345 wd_84 trivial hR (by simp only [rm_X5_init, rm_X2_init, rm_X7_init, rm_X4_init, rm_X3_init, rm_X1_init, rm_X6_init, rm_X0_init, rm_X8_init]; omega) dX8_init_69 (fun m35 r36 em er => ?_)
  replace hf := lt2_e hf em er
  refine G.dup 72 dX8_init_72 rfl ?_
  obtain ⟨q37, e38, hf⟩ := bd_e hf
  refine G.ciN 73 (As := []) (c_X2_init Z m35 r36 e38) mk_X2_init wd_347 rfl wd_346 hR (by simp only [RmOk, rm_X5_init, rm_X2_init, rm_X7_init, rm_X4_init, rm_X3_init, rm_X1_init, rm_X6_init, rm_X0_init, rm_X8_init]; omega) rfl (Nat.le_of_ble_eq_true rfl) dX8_init_73 ?_
  obtain ⟨g39, hf⟩ := gd_e hf
  refine G.putpD 76 ck_8 7 g39 (by decide) (by decide +kernel) (Or.inr ⟨rfl, hn, rfl⟩) wd_407 (fun _ => rfl) (fun _ => rfl) dX8_init_76 (fun m40 em => ?_)
  replace hf := lt1_e hf em
  refine G.iconst 79 (0 : Int32) dX8_init_79 (by decide +kernel) ?_
  refine G.istore_n 80 [(1, .int (0 : Int32)), (0, .ref (zs Z + a0))] dX8_init_80 rfl (Nat.le_of_ble_eq_true rfl) rfl ?_
  refine G.locs [1, 0] rfl ?_
  exact l_X8_init_81 Z X hR hn hq 9 _ _ a0 (0 : Int32) m40 hf (by simp only [rm_X5_init, rm_X2_init, rm_X7_init, rm_X4_init, rm_X3_init, rm_X1_init, rm_X6_init, rm_X0_init, rm_X8_init]; omega)

abbrev Y_X9_init : My := (cX9_init, RX9, 2)
def rm_X9_init : Room := { frames := 1, cells := 20, slots := 40000, locals := 100 }
theorem dX9_init_0 : decode cX9_init 0 = .ok (.aload_n 0, 1) := by decide +kernel
theorem dX9_init_1 : decode cX9_init 1 = .ok (.invokespecial 1, 3) := by decide +kernel
theorem dX9_init_4 : decode cX9_init 4 = .ok (.aload_n 0, 1) := by decide +kernel
theorem dX9_init_5 : decode cX9_init 5 = .ok (.sipush 1194, 3) := by decide +kernel
theorem dX9_init_8 : decode cX9_init 8 = .ok (.newarray .int, 2) := by decide +kernel
theorem dX9_init_10 : decode cX9_init 10 = .ok (.putfield 9, 3) := by decide +kernel
theorem dX9_init_13 : decode cX9_init 13 = .ok (.aload_n 0, 1) := by decide +kernel
theorem dX9_init_14 : decode cX9_init 14 = .ok (.sipush 1194, 3) := by decide +kernel
theorem dX9_init_17 : decode cX9_init 17 = .ok (.newarray .int, 2) := by decide +kernel
theorem dX9_init_19 : decode cX9_init 19 = .ok (.putfield 13, 3) := by decide +kernel
theorem dX9_init_22 : decode cX9_init 22 = .ok (.aload_n 0, 1) := by decide +kernel
theorem dX9_init_23 : decode cX9_init 23 = .ok (.bipush 8, 2) := by decide +kernel
theorem dX9_init_25 : decode cX9_init 25 = .ok (.newarray .int, 2) := by decide +kernel
theorem dX9_init_27 : decode cX9_init 27 = .ok (.putfield 16, 3) := by decide +kernel
theorem dX9_init_30 : decode cX9_init 30 = .ok (.aload_n 0, 1) := by decide +kernel
theorem dX9_init_31 : decode cX9_init 31 = .ok (.bipush 8, 2) := by decide +kernel
theorem dX9_init_33 : decode cX9_init 33 = .ok (.newarray .int, 2) := by decide +kernel
theorem dX9_init_35 : decode cX9_init 35 = .ok (.putfield 19, 3) := by decide +kernel
theorem dX9_init_38 : decode cX9_init 38 = .ok (.aload_n 0, 1) := by decide +kernel
theorem dX9_init_39 : decode cX9_init 39 = .ok (.bipush 8, 2) := by decide +kernel
theorem dX9_init_41 : decode cX9_init 41 = .ok (.newarray .int, 2) := by decide +kernel
theorem dX9_init_43 : decode cX9_init 43 = .ok (.putfield 22, 3) := by decide +kernel
theorem dX9_init_46 : decode cX9_init 46 = .ok (.aload_n 0, 1) := by decide +kernel
theorem dX9_init_47 : decode cX9_init 47 = .ok (.sipush 640, 3) := by decide +kernel
theorem dX9_init_50 : decode cX9_init 50 = .ok (.newarray .int, 2) := by decide +kernel
theorem dX9_init_52 : decode cX9_init 52 = .ok (.putfield 25, 3) := by decide +kernel
theorem dX9_init_55 : decode cX9_init 55 = .ok (.aload_n 0, 1) := by decide +kernel
theorem dX9_init_56 : decode cX9_init 56 = .ok (.bipush 8, 2) := by decide +kernel
theorem dX9_init_58 : decode cX9_init 58 = .ok (.newarray .int, 2) := by decide +kernel
theorem dX9_init_60 : decode cX9_init 60 = .ok (.putfield 28, 3) := by decide +kernel
theorem dX9_init_63 : decode cX9_init 63 = .ok (.aload_n 0, 1) := by decide +kernel
theorem dX9_init_64 : decode cX9_init 64 = .ok (.bipush 8, 2) := by decide +kernel
theorem dX9_init_66 : decode cX9_init 66 = .ok (.newarray .int, 2) := by decide +kernel
theorem dX9_init_68 : decode cX9_init 68 = .ok (.putfield 31, 3) := by decide +kernel
theorem dX9_init_71 : decode cX9_init 71 = .ok (.aload_n 0, 1) := by decide +kernel
theorem dX9_init_72 : decode cX9_init 72 = .ok (.bipush 10, 2) := by decide +kernel
theorem dX9_init_74 : decode cX9_init 74 = .ok (.newarray .int, 2) := by decide +kernel
theorem dX9_init_76 : decode cX9_init 76 = .ok (.putfield 34, 3) := by decide +kernel
theorem dX9_init_79 : decode cX9_init 79 = .ok (.aload_n 0, 1) := by decide +kernel
theorem dX9_init_80 : decode cX9_init 80 = .ok (.bipush 30, 2) := by decide +kernel
theorem dX9_init_82 : decode cX9_init 82 = .ok (.newarray .int, 2) := by decide +kernel
theorem dX9_init_84 : decode cX9_init 84 = .ok (.putfield 37, 3) := by decide +kernel
theorem dX9_init_87 : decode cX9_init 87 = .ok (.aload_n 0, 1) := by decide +kernel
theorem dX9_init_88 : decode cX9_init 88 = .ok (.sipush 9331, 3) := by decide +kernel
theorem dX9_init_91 : decode cX9_init 91 = .ok (.newarray .int, 2) := by decide +kernel
theorem dX9_init_93 : decode cX9_init 93 = .ok (.putfield 40, 3) := by decide +kernel
theorem dX9_init_96 : decode cX9_init 96 = .ok (.aload_n 0, 1) := by decide +kernel
theorem dX9_init_97 : decode cX9_init 97 = .ok (.bipush 30, 2) := by decide +kernel
theorem dX9_init_99 : decode cX9_init 99 = .ok (.newarray .int, 2) := by decide +kernel
theorem dX9_init_101 : decode cX9_init 101 = .ok (.putfield 43, 3) := by decide +kernel
theorem dX9_init_104 : decode cX9_init 104 = .ok (.aload_n 0, 1) := by decide +kernel
theorem dX9_init_105 : decode cX9_init 105 = .ok (.bipush 30, 2) := by decide +kernel
theorem dX9_init_107 : decode cX9_init 107 = .ok (.newarray .int, 2) := by decide +kernel
theorem dX9_init_109 : decode cX9_init 109 = .ok (.putfield 46, 3) := by decide +kernel
theorem dX9_init_112 : decode cX9_init 112 = .ok (.aload_n 0, 1) := by decide +kernel
theorem dX9_init_113 : decode cX9_init 113 = .ok (.bipush 30, 2) := by decide +kernel
theorem dX9_init_115 : decode cX9_init 115 = .ok (.newarray .int, 2) := by decide +kernel
theorem dX9_init_117 : decode cX9_init 117 = .ok (.putfield 49, 3) := by decide +kernel
theorem dX9_init_120 : decode cX9_init 120 = .ok (.aload_n 0, 1) := by decide +kernel
theorem dX9_init_121 : decode cX9_init 121 = .ok (.bipush 30, 2) := by decide +kernel
theorem dX9_init_123 : decode cX9_init 123 = .ok (.newarray .int, 2) := by decide +kernel
theorem dX9_init_125 : decode cX9_init 125 = .ok (.putfield 52, 3) := by decide +kernel
theorem dX9_init_128 : decode cX9_init 128 = .ok (.aload_n 0, 1) := by decide +kernel
theorem dX9_init_129 : decode cX9_init 129 = .ok (.aload_n 0, 1) := by decide +kernel
theorem dX9_init_130 : decode cX9_init 130 = .ok (.getfield 25, 3) := by decide +kernel
theorem dX9_init_133 : decode cX9_init 133 = .ok (.putfield 55, 3) := by decide +kernel
theorem dX9_init_136 : decode cX9_init 136 = .ok (.aload_n 0, 1) := by decide +kernel
theorem dX9_init_137 : decode cX9_init 137 = .ok (.getfield 9, 3) := by decide +kernel
theorem dX9_init_140 : decode cX9_init 140 = .ok (.sipush 361, 3) := by decide +kernel
theorem dX9_init_143 : decode cX9_init 143 = .ok (.bipush 50, 2) := by decide +kernel
theorem dX9_init_145 : decode cX9_init 145 = .ok (.iastore, 1) := by decide +kernel
theorem dX9_init_146 : decode cX9_init 146 = .ok (.aload_n 0, 1) := by decide +kernel
theorem dX9_init_147 : decode cX9_init 147 = .ok (.getfield 9, 3) := by decide +kernel
theorem dX9_init_150 : decode cX9_init 150 = .ok (.sipush 362, 3) := by decide +kernel
theorem dX9_init_153 : decode cX9_init 153 = .ok (.bipush 50, 2) := by decide +kernel
theorem dX9_init_155 : decode cX9_init 155 = .ok (.iastore, 1) := by decide +kernel
theorem dX9_init_156 : decode cX9_init 156 = .ok (.aload_n 0, 1) := by decide +kernel
theorem dX9_init_157 : decode cX9_init 157 = .ok (.getfield 9, 3) := by decide +kernel
theorem dX9_init_160 : decode cX9_init 160 = .ok (.sipush 363, 3) := by decide +kernel
theorem dX9_init_163 : decode cX9_init 163 = .ok (.bipush 10, 2) := by decide +kernel
theorem dX9_init_165 : decode cX9_init 165 = .ok (.iastore, 1) := by decide +kernel
theorem dX9_init_166 : decode cX9_init 166 = .ok (.iconst 4, 1) := by decide +kernel
theorem dX9_init_167 : decode cX9_init 167 = .ok (.istore_n 1, 1) := by decide +kernel
theorem dX9_init_168 : decode cX9_init 168 = .ok (.iload_n 1, 1) := by decide +kernel
theorem dX9_init_169 : decode cX9_init 169 = .ok (.bipush 10, 2) := by decide +kernel
theorem dX9_init_171 : decode cX9_init 171 = .ok (.if_icmp .ge 21, 3) := by decide +kernel
theorem dX9_init_174 : decode cX9_init 174 = .ok (.aload_n 0, 1) := by decide +kernel
theorem dX9_init_175 : decode cX9_init 175 = .ok (.getfield 9, 3) := by decide +kernel
theorem dX9_init_178 : decode cX9_init 178 = .ok (.sipush 360, 3) := by decide +kernel
theorem dX9_init_181 : decode cX9_init 181 = .ok (.iload_n 1, 1) := by decide +kernel
theorem dX9_init_182 : decode cX9_init 182 = .ok (.iadd, 1) := by decide +kernel
theorem dX9_init_183 : decode cX9_init 183 = .ok (.bipush 50, 2) := by decide +kernel
theorem dX9_init_185 : decode cX9_init 185 = .ok (.iastore, 1) := by decide +kernel
theorem dX9_init_186 : decode cX9_init 186 = .ok (.iinc 1 1, 3) := by decide +kernel
theorem dX9_init_189 : decode cX9_init 189 = .ok (.goto (-21), 3) := by decide +kernel
theorem dX9_init_192 : decode cX9_init 192 = .ok (.return_, 1) := by decide +kernel
def L_X9_init_168 : Nat → Nat → Int32 → Mem → Option Mem
  | 0, _, _, _ => none
  | n + 1, a0, x1, M => if (10 : Int32) ≤ x1 then some M else gd ((mK M)[a0]? = some (9, 28)) ((mP M a0 0).bind fun r89 => gd ((mK M)[r89]? = some (10, ((mK M)[r89]?.map (fun z => z.2)).getD 0)) (gd (inR ((360 : Int32) + x1) (((mK M)[r89]?.map (fun z => z.2)).getD 0)) (lt1 (sI M r89 ((360 : Int32) + x1).toNatClampNeg (50 : Int32)) (fun m94 => L_X9_init_168 n a0 (x1 + 1) m94))))
def f_X9_init (a0 : Nat) (M : Mem) : Option Mem := lt2 (nw M (10, 1194)) (mK M).length (fun m1 r2 => gd ((mK m1)[a0]? = some (9, 28)) (lt1 (sP m1 a0 0 r2) (fun m4 => lt2 (nw m4 (10, 1194)) (mK m4).length (fun m5 r6 => gd ((mK m5)[a0]? = some (9, 28)) (lt1 (sP m5 a0 1 r6) (fun m8 => lt2 (nw m8 (10, 8)) (mK m8).length (fun m9 r10 => gd ((mK m9)[a0]? = some (9, 28)) (lt1 (sP m9 a0 2 r10) (fun m12 => lt2 (nw m12 (10, 8)) (mK m12).length (fun m13 r14 => gd ((mK m13)[a0]? = some (9, 28)) (lt1 (sP m13 a0 3 r14) (fun m16 => lt2 (nw m16 (10, 8)) (mK m16).length (fun m17 r18 => gd ((mK m17)[a0]? = some (9, 28)) (lt1 (sP m17 a0 4 r18) (fun m20 => lt2 (nw m20 (10, 640)) (mK m20).length (fun m21 r22 => gd ((mK m21)[a0]? = some (9, 28)) (lt1 (sP m21 a0 5 r22) (fun m24 => lt2 (nw m24 (10, 8)) (mK m24).length (fun m25 r26 => gd ((mK m25)[a0]? = some (9, 28)) (lt1 (sP m25 a0 6 r26) (fun m28 => lt2 (nw m28 (10, 8)) (mK m28).length (fun m29 r30 => gd ((mK m29)[a0]? = some (9, 28)) (lt1 (sP m29 a0 7 r30) (fun m32 => lt2 (nw m32 (10, 10)) (mK m32).length (fun m33 r34 => gd ((mK m33)[a0]? = some (9, 28)) (lt1 (sP m33 a0 10 r34) (fun m36 => lt2 (nw m36 (10, 30)) (mK m36).length (fun m37 r38 => gd ((mK m37)[a0]? = some (9, 28)) (lt1 (sP m37 a0 12 r38) (fun m40 => lt2 (nw m40 (10, 9331)) (mK m40).length (fun m41 r42 => gd ((mK m41)[a0]? = some (9, 28)) (lt1 (sP m41 a0 15 r42) (fun m44 => lt2 (nw m44 (10, 30)) (mK m44).length (fun m45 r46 => gd ((mK m45)[a0]? = some (9, 28)) (lt1 (sP m45 a0 17 r46) (fun m48 => lt2 (nw m48 (10, 30)) (mK m48).length (fun m49 r50 => gd ((mK m49)[a0]? = some (9, 28)) (lt1 (sP m49 a0 18 r50) (fun m52 => lt2 (nw m52 (10, 30)) (mK m52).length (fun m53 r54 => gd ((mK m53)[a0]? = some (9, 28)) (lt1 (sP m53 a0 19 r54) (fun m56 => lt2 (nw m56 (10, 30)) (mK m56).length (fun m57 r58 => gd ((mK m57)[a0]? = some (9, 28)) (lt1 (sP m57 a0 20 r58) (fun m60 => gd ((mK m60)[a0]? = some (9, 28)) ((mP m60 a0 5).bind fun r62 => gd ((mK m60)[a0]? = some (9, 28)) (lt1 (sP m60 a0 26 r62) (fun m65 => gd ((mK m65)[a0]? = some (9, 28)) ((mP m65 a0 0).bind fun r67 => gd ((mK m65)[r67]? = some (10, ((mK m65)[r67]?.map (fun z => z.2)).getD 0)) (gd (inR (361 : Int32) (((mK m65)[r67]?.map (fun z => z.2)).getD 0)) (lt1 (sI m65 r67 (361 : Int32).toNatClampNeg (50 : Int32)) (fun m72 => gd ((mK m72)[a0]? = some (9, 28)) ((mP m72 a0 0).bind fun r74 => gd ((mK m72)[r74]? = some (10, ((mK m72)[r74]?.map (fun z => z.2)).getD 0)) (gd (inR (362 : Int32) (((mK m72)[r74]?.map (fun z => z.2)).getD 0)) (lt1 (sI m72 r74 (362 : Int32).toNatClampNeg (50 : Int32)) (fun m79 => gd ((mK m79)[a0]? = some (9, 28)) ((mP m79 a0 0).bind fun r81 => gd ((mK m79)[r81]? = some (10, ((mK m79)[r81]?.map (fun z => z.2)).getD 0)) (gd (inR (363 : Int32) (((mK m79)[r81]?.map (fun z => z.2)).getD 0)) (lt1 (sI m79 r81 (363 : Int32).toNatClampNeg (10 : Int32)) (fun m86 => L_X9_init_168 8 a0 (4 : Int32) m86))))))))))))))))))))))))))))))))))))))))))))))))))))))))))))
set_option maxRecDepth 100000 in
set_option maxHeartbeats 4000000 in
theorem l_X9_init_168 (Z : Sys) (X : Cx) (hR : xR X = rm_X9_init) (hn : (xM X).name = yX9_init.name) {q : Mem} (hq : RetOk Z X none True (PostC q) rm_X9_init.cells rm_X9_init.slots) : ∀ (n cs sl : Nat) (a0 : Nat) (x1 : Int32) (M : Mem) (hf : L_X9_init_168 n a0 x1 M = some q) (hb : cs + 0 * n ≤ rm_X9_init.cells ∧ sl + 0 * n ≤ rm_X9_init.slots), G Z X Y_X9_init True cs sl 168 [(0, .ref (zs Z + a0)), (1, .int x1)] [] M := by
  intro n
  induction n with
  | zero => intro cs sl a0 x1 M hf hb; exact absurd hf (by simp [L_X9_init_168])
  | succ n ih =>
    intro cs sl a0 x1 M hf hb
    simp only [rm_X9_init] at hb
    unfold L_X9_init_168 at hf
    refine G.iload_n 168 1 dX9_init_168 rfl rfl ?_
    refine G.bipush 169 (10 : Int32) dX9_init_169 (by decide +kernel) ?_
    refine G.icmp_ge 171 192 dX9_init_171 (by decide) (fun h87 => ?_) (fun h87 => ?_)
    · replace hf := (if_pos h87).symm.trans hf
      have hf9 := Option.some.inj hf; subst hf9
      refine G.widen (cells' := rm_X9_init.cells) (slots' := rm_X9_init.slots) (by simp only [rm_X5_init, rm_X2_init, rm_X7_init, rm_X4_init, rm_X3_init, rm_X1_init, rm_X6_init, rm_X0_init, rm_X8_init, rm_X9_init]; omega) (by simp only [rm_X5_init, rm_X2_init, rm_X7_init, rm_X4_init, rm_X3_init, rm_X1_init, rm_X6_init, rm_X0_init, rm_X8_init, rm_X9_init]; omega) ?_
      exact G.vret 192 hq dX9_init_192 ⟨rfl, rfl⟩
    · replace hf := (if_neg h87).symm.trans hf
      refine G.aload_n 174 0 dX9_init_174 rfl rfl ?_
      obtain ⟨g88, hf⟩ := gd_e hf
      obtain ⟨r89, e90, hf⟩ := bd_e hf
      refine G.getp 175 ck_9 0 r89 g88 e90 (by decide) (by decide +kernel) wd_1305 dX9_init_175 ?_
      refine G.sipush 178 (360 : Int32) dX9_init_178 (by decide +kernel) ?_
      refine G.iload_n 181 1 dX9_init_181 rfl rfl ?_
      refine G.iadd 182 dX9_init_182 ?_
      refine G.bipush 183 (50 : Int32) dX9_init_183 (by decide +kernel) ?_
      obtain ⟨g92, hf⟩ := gd_e hf
      obtain ⟨g93, hf⟩ := gd_e hf
      refine G.istD 185 g92 g93 dX9_init_185 (fun m94 em => ?_)
      replace hf := lt1_e hf em
      refine G.iinc 186 1 (x1 + 1) [(1, .int (x1 + 1)), (0, .ref (zs Z + a0))] dX9_init_186 rfl (congrArg (fun z => x1 + z) (by decide +kernel)) (Nat.le_of_ble_eq_true rfl) rfl ?_
      refine G.goto 189 168 dX9_init_189 (by decide) ?_
      refine G.locs [1, 0] rfl ?_
      exact ih _ _ a0 (x1 + 1) m94 hf (by simp only [rm_X5_init, rm_X2_init, rm_X7_init, rm_X4_init, rm_X3_init, rm_X1_init, rm_X6_init, rm_X0_init, rm_X8_init, rm_X9_init]; omega)
set_option maxRecDepth 100000 in
set_option maxHeartbeats 4000000 in
theorem c_X9_init (Z : Sys) (M : Mem) (a0 : Nat) {q : Mem} (hf : f_X9_init a0 M = some q) : Ct Z yX9_init cX9_init 2 none rm_X9_init [.ref (zs Z + a0)] M True (PostC q) := by
  refine Ct.of (by decide +kernel) (Nat.le_of_ble_eq_true rfl) (fun X hR hq hn => ?_)
  show G Z X Y_X9_init True 0 0 0 [(0, .ref (zs Z + a0))] [] M
  unfold f_X9_init at hf
  refine G.aload_n 0 0 dX9_init_0 rfl rfl ?_
  refine G.objInit 1 wd_1304 wd_109 wd_110 hR ⟨Nat.le_of_ble_eq_true rfl, Nat.le_of_ble_eq_true rfl⟩ dX9_init_1 ?_
  refine G.aload_n 4 0 dX9_init_4 rfl rfl ?_
  refine G.sipush 5 (1194 : Int32) dX9_init_5 (by decide +kernel) ?_
  refine G.newaID 8 1194 wd_161 (by decide +kernel) (by decide +kernel) (by decide +kernel) trivial hR (by simp only [rm_X5_init, rm_X2_init, rm_X7_init, rm_X4_init, rm_X3_init, rm_X1_init, rm_X6_init, rm_X0_init, rm_X8_init, rm_X9_init]; omega) dX9_init_8 (fun m1 r2 em er => ?_)
  replace hf := lt2_e hf em er
  obtain ⟨g3, hf⟩ := gd_e hf
  refine G.putpD 10 ck_9 0 g3 (by decide) (by decide +kernel) (Or.inr ⟨rfl, hn, rfl⟩) wd_1305 (fun _ => rfl) (fun _ => rfl) dX9_init_10 (fun m4 em => ?_)
  replace hf := lt1_e hf em
  refine G.aload_n 13 0 dX9_init_13 rfl rfl ?_
  refine G.sipush 14 (1194 : Int32) dX9_init_14 (by decide +kernel) ?_
  refine G.newaID 17 1194 wd_161 (by decide +kernel) (by decide +kernel) (by decide +kernel) trivial hR (by simp only [rm_X5_init, rm_X2_init, rm_X7_init, rm_X4_init, rm_X3_init, rm_X1_init, rm_X6_init, rm_X0_init, rm_X8_init, rm_X9_init]; omega) dX9_init_17 (fun m5 r6 em er => ?_)
  replace hf := lt2_e hf em er
  obtain ⟨g7, hf⟩ := gd_e hf
  refine G.putpD 19 ck_9 1 g7 (by decide) (by decide +kernel) (Or.inr ⟨rfl, hn, rfl⟩) wd_1306 (fun _ => rfl) (fun _ => rfl) dX9_init_19 (fun m8 em => ?_)
  replace hf := lt1_e hf em
  refine G.aload_n 22 0 dX9_init_22 rfl rfl ?_
  refine G.bipush 23 (8 : Int32) dX9_init_23 (by decide +kernel) ?_
  refine G.newaID 25 8 wd_161 (by decide +kernel) (by decide +kernel) (by decide +kernel) trivial hR (by simp only [rm_X5_init, rm_X2_init, rm_X7_init, rm_X4_init, rm_X3_init, rm_X1_init, rm_X6_init, rm_X0_init, rm_X8_init, rm_X9_init]; omega) dX9_init_25 (fun m9 r10 em er => ?_)
  replace hf := lt2_e hf em er
  obtain ⟨g11, hf⟩ := gd_e hf
  refine G.putpD 27 ck_9 2 g11 (by decide) (by decide +kernel) (Or.inr ⟨rfl, hn, rfl⟩) wd_1307 (fun _ => rfl) (fun _ => rfl) dX9_init_27 (fun m12 em => ?_)
  replace hf := lt1_e hf em
  refine G.aload_n 30 0 dX9_init_30 rfl rfl ?_
  refine G.bipush 31 (8 : Int32) dX9_init_31 (by decide +kernel) ?_
  refine G.newaID 33 8 wd_161 (by decide +kernel) (by decide +kernel) (by decide +kernel) trivial hR (by simp only [rm_X5_init, rm_X2_init, rm_X7_init, rm_X4_init, rm_X3_init, rm_X1_init, rm_X6_init, rm_X0_init, rm_X8_init, rm_X9_init]; omega) dX9_init_33 (fun m13 r14 em er => ?_)
  replace hf := lt2_e hf em er
  obtain ⟨g15, hf⟩ := gd_e hf
  refine G.putpD 35 ck_9 3 g15 (by decide) (by decide +kernel) (Or.inr ⟨rfl, hn, rfl⟩) wd_1308 (fun _ => rfl) (fun _ => rfl) dX9_init_35 (fun m16 em => ?_)
  replace hf := lt1_e hf em
  refine G.aload_n 38 0 dX9_init_38 rfl rfl ?_
  refine G.bipush 39 (8 : Int32) dX9_init_39 (by decide +kernel) ?_
  refine G.newaID 41 8 wd_161 (by decide +kernel) (by decide +kernel) (by decide +kernel) trivial hR (by simp only [rm_X5_init, rm_X2_init, rm_X7_init, rm_X4_init, rm_X3_init, rm_X1_init, rm_X6_init, rm_X0_init, rm_X8_init, rm_X9_init]; omega) dX9_init_41 (fun m17 r18 em er => ?_)
  replace hf := lt2_e hf em er
  obtain ⟨g19, hf⟩ := gd_e hf
  refine G.putpD 43 ck_9 4 g19 (by decide) (by decide +kernel) (Or.inr ⟨rfl, hn, rfl⟩) wd_1309 (fun _ => rfl) (fun _ => rfl) dX9_init_43 (fun m20 em => ?_)
  replace hf := lt1_e hf em
  refine G.aload_n 46 0 dX9_init_46 rfl rfl ?_
  refine G.sipush 47 (640 : Int32) dX9_init_47 (by decide +kernel) ?_
  refine G.newaID 50 640 wd_161 (by decide +kernel) (by decide +kernel) (by decide +kernel) trivial hR (by simp only [rm_X5_init, rm_X2_init, rm_X7_init, rm_X4_init, rm_X3_init, rm_X1_init, rm_X6_init, rm_X0_init, rm_X8_init, rm_X9_init]; omega) dX9_init_50 (fun m21 r22 em er => ?_)
  replace hf := lt2_e hf em er
  obtain ⟨g23, hf⟩ := gd_e hf
  refine G.putpD 52 ck_9 5 g23 (by decide) (by decide +kernel) (Or.inr ⟨rfl, hn, rfl⟩) wd_1310 (fun _ => rfl) (fun _ => rfl) dX9_init_52 (fun m24 em => ?_)
  replace hf := lt1_e hf em
  refine G.aload_n 55 0 dX9_init_55 rfl rfl ?_
  refine G.bipush 56 (8 : Int32) dX9_init_56 (by decide +kernel) ?_
  refine G.newaID 58 8 wd_161 (by decide +kernel) (by decide +kernel) (by decide +kernel) trivial hR (by simp only [rm_X5_init, rm_X2_init, rm_X7_init, rm_X4_init, rm_X3_init, rm_X1_init, rm_X6_init, rm_X0_init, rm_X8_init, rm_X9_init]; omega) dX9_init_58 (fun m25 r26 em er => ?_)
  replace hf := lt2_e hf em er
  obtain ⟨g27, hf⟩ := gd_e hf
  refine G.putpD 60 ck_9 6 g27 (by decide) (by decide +kernel) (Or.inr ⟨rfl, hn, rfl⟩) wd_1311 (fun _ => rfl) (fun _ => rfl) dX9_init_60 (fun m28 em => ?_)
  replace hf := lt1_e hf em
  refine G.aload_n 63 0 dX9_init_63 rfl rfl ?_
  refine G.bipush 64 (8 : Int32) dX9_init_64 (by decide +kernel) ?_
  refine G.newaID 66 8 wd_161 (by decide +kernel) (by decide +kernel) (by decide +kernel) trivial hR (by simp only [rm_X5_init, rm_X2_init, rm_X7_init, rm_X4_init, rm_X3_init, rm_X1_init, rm_X6_init, rm_X0_init, rm_X8_init, rm_X9_init]; omega) dX9_init_66 (fun m29 r30 em er => ?_)
  replace hf := lt2_e hf em er
  obtain ⟨g31, hf⟩ := gd_e hf
  refine G.putpD 68 ck_9 7 g31 (by decide) (by decide +kernel) (Or.inr ⟨rfl, hn, rfl⟩) wd_1312 (fun _ => rfl) (fun _ => rfl) dX9_init_68 (fun m32 em => ?_)
  replace hf := lt1_e hf em
  refine G.aload_n 71 0 dX9_init_71 rfl rfl ?_
  refine G.bipush 72 (10 : Int32) dX9_init_72 (by decide +kernel) ?_
  refine G.newaID 74 10 wd_161 (by decide +kernel) (by decide +kernel) (by decide +kernel) trivial hR (by simp only [rm_X5_init, rm_X2_init, rm_X7_init, rm_X4_init, rm_X3_init, rm_X1_init, rm_X6_init, rm_X0_init, rm_X8_init, rm_X9_init]; omega) dX9_init_74 (fun m33 r34 em er => ?_)
  replace hf := lt2_e hf em er
  obtain ⟨g35, hf⟩ := gd_e hf
  refine G.putpD 76 ck_9 10 g35 (by decide) (by decide +kernel) (Or.inr ⟨rfl, hn, rfl⟩) wd_1315 (fun _ => rfl) (fun _ => rfl) dX9_init_76 (fun m36 em => ?_)
  replace hf := lt1_e hf em
  refine G.aload_n 79 0 dX9_init_79 rfl rfl ?_
  refine G.bipush 80 (30 : Int32) dX9_init_80 (by decide +kernel) ?_
  refine G.newaID 82 30 wd_161 (by decide +kernel) (by decide +kernel) (by decide +kernel) trivial hR (by simp only [rm_X5_init, rm_X2_init, rm_X7_init, rm_X4_init, rm_X3_init, rm_X1_init, rm_X6_init, rm_X0_init, rm_X8_init, rm_X9_init]; omega) dX9_init_82 (fun m37 r38 em er => ?_)
  replace hf := lt2_e hf em er
  obtain ⟨g39, hf⟩ := gd_e hf
  refine G.putpD 84 ck_9 12 g39 (by decide) (by decide +kernel) (Or.inr ⟨rfl, hn, rfl⟩) wd_1317 (fun _ => rfl) (fun _ => rfl) dX9_init_84 (fun m40 em => ?_)
  replace hf := lt1_e hf em
  refine G.aload_n 87 0 dX9_init_87 rfl rfl ?_
  refine G.sipush 88 (9331 : Int32) dX9_init_88 (by decide +kernel) ?_
  refine G.newaID 91 9331 wd_161 (by decide +kernel) (by decide +kernel) (by decide +kernel) trivial hR (by simp only [rm_X5_init, rm_X2_init, rm_X7_init, rm_X4_init, rm_X3_init, rm_X1_init, rm_X6_init, rm_X0_init, rm_X8_init, rm_X9_init]; omega) dX9_init_91 (fun m41 r42 em er => ?_)
  replace hf := lt2_e hf em er
  obtain ⟨g43, hf⟩ := gd_e hf
  refine G.putpD 93 ck_9 15 g43 (by decide) (by decide +kernel) (Or.inr ⟨rfl, hn, rfl⟩) wd_1320 (fun _ => rfl) (fun _ => rfl) dX9_init_93 (fun m44 em => ?_)
  replace hf := lt1_e hf em
  refine G.aload_n 96 0 dX9_init_96 rfl rfl ?_
  refine G.bipush 97 (30 : Int32) dX9_init_97 (by decide +kernel) ?_
  refine G.newaID 99 30 wd_161 (by decide +kernel) (by decide +kernel) (by decide +kernel) trivial hR (by simp only [rm_X5_init, rm_X2_init, rm_X7_init, rm_X4_init, rm_X3_init, rm_X1_init, rm_X6_init, rm_X0_init, rm_X8_init, rm_X9_init]; omega) dX9_init_99 (fun m45 r46 em er => ?_)
  replace hf := lt2_e hf em er
  obtain ⟨g47, hf⟩ := gd_e hf
  refine G.putpD 101 ck_9 17 g47 (by decide) (by decide +kernel) (Or.inr ⟨rfl, hn, rfl⟩) wd_1322 (fun _ => rfl) (fun _ => rfl) dX9_init_101 (fun m48 em => ?_)
  replace hf := lt1_e hf em
  refine G.aload_n 104 0 dX9_init_104 rfl rfl ?_
  refine G.bipush 105 (30 : Int32) dX9_init_105 (by decide +kernel) ?_
  refine G.newaID 107 30 wd_161 (by decide +kernel) (by decide +kernel) (by decide +kernel) trivial hR (by simp only [rm_X5_init, rm_X2_init, rm_X7_init, rm_X4_init, rm_X3_init, rm_X1_init, rm_X6_init, rm_X0_init, rm_X8_init, rm_X9_init]; omega) dX9_init_107 (fun m49 r50 em er => ?_)
  replace hf := lt2_e hf em er
  obtain ⟨g51, hf⟩ := gd_e hf
  refine G.putpD 109 ck_9 18 g51 (by decide) (by decide +kernel) (Or.inr ⟨rfl, hn, rfl⟩) wd_1323 (fun _ => rfl) (fun _ => rfl) dX9_init_109 (fun m52 em => ?_)
  replace hf := lt1_e hf em
  refine G.aload_n 112 0 dX9_init_112 rfl rfl ?_
  refine G.bipush 113 (30 : Int32) dX9_init_113 (by decide +kernel) ?_
  refine G.newaID 115 30 wd_161 (by decide +kernel) (by decide +kernel) (by decide +kernel) trivial hR (by simp only [rm_X5_init, rm_X2_init, rm_X7_init, rm_X4_init, rm_X3_init, rm_X1_init, rm_X6_init, rm_X0_init, rm_X8_init, rm_X9_init]; omega) dX9_init_115 (fun m53 r54 em er => ?_)
  replace hf := lt2_e hf em er
  obtain ⟨g55, hf⟩ := gd_e hf
  refine G.putpD 117 ck_9 19 g55 (by decide) (by decide +kernel) (Or.inr ⟨rfl, hn, rfl⟩) wd_1324 (fun _ => rfl) (fun _ => rfl) dX9_init_117 (fun m56 em => ?_)
  replace hf := lt1_e hf em
  refine G.aload_n 120 0 dX9_init_120 rfl rfl ?_
  refine G.bipush 121 (30 : Int32) dX9_init_121 (by decide +kernel) ?_
  refine G.newaID 123 30 wd_161 (by decide +kernel) (by decide +kernel) (by decide +kernel) trivial hR (by simp only [rm_X5_init, rm_X2_init, rm_X7_init, rm_X4_init, rm_X3_init, rm_X1_init, rm_X6_init, rm_X0_init, rm_X8_init, rm_X9_init]; omega) dX9_init_123 (fun m57 r58 em er => ?_)
  replace hf := lt2_e hf em er
  obtain ⟨g59, hf⟩ := gd_e hf
  refine G.putpD 125 ck_9 20 g59 (by decide) (by decide +kernel) (Or.inr ⟨rfl, hn, rfl⟩) wd_1325 (fun _ => rfl) (fun _ => rfl) dX9_init_125 (fun m60 em => ?_)
  replace hf := lt1_e hf em
  refine G.aload_n 128 0 dX9_init_128 rfl rfl ?_
  refine G.aload_n 129 0 dX9_init_129 rfl rfl ?_
  obtain ⟨g61, hf⟩ := gd_e hf
  obtain ⟨r62, e63, hf⟩ := bd_e hf
  refine G.getp 130 ck_9 5 r62 g61 e63 (by decide) (by decide +kernel) wd_1310 dX9_init_130 ?_
  obtain ⟨g64, hf⟩ := gd_e hf
  refine G.putpD 133 ck_9 26 g64 (by decide) (by decide +kernel) (Or.inl rfl) wd_1331 (fun _ => rfl) (fun _ => rfl) dX9_init_133 (fun m65 em => ?_)
  replace hf := lt1_e hf em
  refine G.aload_n 136 0 dX9_init_136 rfl rfl ?_
  obtain ⟨g66, hf⟩ := gd_e hf
  obtain ⟨r67, e68, hf⟩ := bd_e hf
  refine G.getp 137 ck_9 0 r67 g66 e68 (by decide) (by decide +kernel) wd_1305 dX9_init_137 ?_
  refine G.sipush 140 (361 : Int32) dX9_init_140 (by decide +kernel) ?_
  refine G.bipush 143 (50 : Int32) dX9_init_143 (by decide +kernel) ?_
  obtain ⟨g70, hf⟩ := gd_e hf
  obtain ⟨g71, hf⟩ := gd_e hf
  refine G.istD 145 g70 g71 dX9_init_145 (fun m72 em => ?_)
  replace hf := lt1_e hf em
  refine G.aload_n 146 0 dX9_init_146 rfl rfl ?_
  obtain ⟨g73, hf⟩ := gd_e hf
  obtain ⟨r74, e75, hf⟩ := bd_e hf
  refine G.getp 147 ck_9 0 r74 g73 e75 (by decide) (by decide +kernel) wd_1305 dX9_init_147 ?_
  refine G.sipush 150 (362 : Int32) dX9_init_150 (by decide +kernel) ?_
  refine G.bipush 153 (50 : Int32) dX9_init_153 (by decide +kernel) ?_
  obtain ⟨g77, hf⟩ := gd_e hf
  obtain ⟨g78, hf⟩ := gd_e hf
  refine G.istD 155 g77 g78 dX9_init_155 (fun m79 em => ?_)
  replace hf := lt1_e hf em
  refine G.aload_n 156 0 dX9_init_156 rfl rfl ?_
  obtain ⟨g80, hf⟩ := gd_e hf
  obtain ⟨r81, e82, hf⟩ := bd_e hf
  refine G.getp 157 ck_9 0 r81 g80 e82 (by decide) (by decide +kernel) wd_1305 dX9_init_157 ?_
  refine G.sipush 160 (363 : Int32) dX9_init_160 (by decide +kernel) ?_
  refine G.bipush 163 (10 : Int32) dX9_init_163 (by decide +kernel) ?_
  obtain ⟨g84, hf⟩ := gd_e hf
  obtain ⟨g85, hf⟩ := gd_e hf
  refine G.istD 165 g84 g85 dX9_init_165 (fun m86 em => ?_)
  replace hf := lt1_e hf em
  refine G.iconst 166 (4 : Int32) dX9_init_166 (by decide +kernel) ?_
  refine G.istore_n 167 [(1, .int (4 : Int32)), (0, .ref (zs Z + a0))] dX9_init_167 rfl (Nat.le_of_ble_eq_true rfl) rfl ?_
  refine G.locs [1, 0] rfl ?_
  exact l_X9_init_168 Z X hR hn hq 8 _ _ a0 (4 : Int32) m86 hf (by simp only [rm_X5_init, rm_X2_init, rm_X7_init, rm_X4_init, rm_X3_init, rm_X1_init, rm_X6_init, rm_X0_init, rm_X8_init, rm_X9_init]; omega)
