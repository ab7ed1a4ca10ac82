/-! small functions of the machine's arithmetic, rows with them; switches; the group of recursive methods -/
def jrem (x y : Int32) : Int32 := x - x / y * y
def jmax (x y : Int32) : Int32 := if x < y then y else x
def jmin (x y : Int32) : Int32 := if y < x then y else x
def jabs (x : Int32) : Int32 := if 0 ≤ x then x else 0 - x
def jushr (x y : Int32) : Int32 := (x.toUInt32 >>> (y.toUInt32 &&& Int32.toUInt32 31)).toInt32
theorem nz_ok {v : Int32} (h : v = 0 ∨ v = 1) : narrow .boolean (.int v) = .int v := by rcases h with rfl | rfl <;> rfl
theorem fz_ok {v : Int32} (h : v = 0 ∨ v = 1) : fits .boolean (.int v) = true := by rcases h with rfl | rfl <;> rfl
theorem ln_k {a t n : Nat} (h : K0[a]? = some (t, n)) : K0[a]? = some (t, ln a) := by rw [ln_of h]; exact h
theorem lk_d {l : List (Int × Int)} {d k : Int} (h : ∀ a ∈ l.map (fun q => q.1), k ≠ a) : Op.lookupswitch.offset l d k = d := by
  induction l with
  | nil => rfl
  | cons p r ih =>
    obtain ⟨b, q⟩ := p
    show (if b = k then q else Op.lookupswitch.offset r d k) = d
    rw [if_neg (fun e => h b (by simp) e.symm)]
    exact ih (fun a ha => h a (by simp only [List.map_cons, List.mem_cons]; exact Or.inr ha))
section PROWS
variable {Z : Sys} {X : Cx} {Y : My} {ex : Prop} {cells slots : Nat} {loc loc' : List (Nat × Value)} {rest : List Value} {M : Mem}
theorem G.iremJ (pc : Nat) {x y : Int32} (hd : decode Y.1 pc = .ok (.irem, 1)) (hne : ¬ y = 0) (k : G Z X Y ex cells slots (pc + 1) loc (.int (jrem x y) :: rest) M) : G Z X Y ex cells slots pc loc (.int y :: .int x :: rest) M := G.irem pc hd hne k
theorem G.iushr (pc : Nat) {x y : Int32} (hd : decode Y.1 pc = .ok (.iushr, 1)) (k : G Z X Y ex cells slots (pc + 1) loc (.int (jushr x y) :: rest) M) : G Z X Y ex cells slots pc loc (.int y :: .int x :: rest) M := fun O ls H locs hl hP hS => lv_iushr O.1 O.2.1 hd rfl (k O ls H locs hl hP hS)
theorem G.mmaxJ (pc : Nat) {idx : Nat} {x y : Int32} (w1 : Cond.methodLink Y.2.1 idx Lib.Math.max.name ∈ TBL) (w2 : Cond.static Lib.Math.max.name ∈ TBL) (w3 : Cond.initialized "java/lang/Math" ∈ TBL) (w4 : Cond.code Lib.Math.max.name Lib.Math.max.code 2 (some .int) ∈ TBL) {R : Room} (hR : xR X = R) (hr : 1 ≤ R.frames ∧ (rest.map fun v => v.category).sum + 13 ≤ R.locals ∧ cells ≤ R.cells ∧ slots ≤ R.slots) (hd : decode Y.1 pc = .ok (.invokestatic idx, 3)) (kk : G Z X Y ex cells slots (pc + 3) loc (.int (jmax x y) :: rest) M) : G Z X Y ex cells slots pc loc (.int y :: .int x :: rest) M := G.mmax pc w1 w2 w3 w4 hR hr hd kk
theorem G.mminJ (pc : Nat) {idx : Nat} {x y : Int32} (w1 : Cond.methodLink Y.2.1 idx Lib.Math.min.name ∈ TBL) (w2 : Cond.static Lib.Math.min.name ∈ TBL) (w3 : Cond.initialized "java/lang/Math" ∈ TBL) (w4 : Cond.code Lib.Math.min.name Lib.Math.min.code 2 (some .int) ∈ TBL) {R : Room} (hR : xR X = R) (hr : 1 ≤ R.frames ∧ (rest.map fun v => v.category).sum + 13 ≤ R.locals ∧ cells ≤ R.cells ∧ slots ≤ R.slots) (hd : decode Y.1 pc = .ok (.invokestatic idx, 3)) (kk : G Z X Y ex cells slots (pc + 3) loc (.int (jmin x y) :: rest) M) : G Z X Y ex cells slots pc loc (.int y :: .int x :: rest) M := G.mmin pc w1 w2 w3 w4 hR hr hd kk
theorem G.mabsJ (pc : Nat) {idx : Nat} {x : Int32} (w1 : Cond.methodLink Y.2.1 idx Lib.Math.abs.name ∈ TBL) (w2 : Cond.static Lib.Math.abs.name ∈ TBL) (w3 : Cond.initialized "java/lang/Math" ∈ TBL) (w4 : Cond.code Lib.Math.abs.name Lib.Math.abs.code 1 (some .int) ∈ TBL) {R : Room} (hR : xR X = R) (hr : 1 ≤ R.frames ∧ (rest.map fun v => v.category).sum + 13 ≤ R.locals ∧ cells ≤ R.cells ∧ slots ≤ R.slots) (hd : decode Y.1 pc = .ok (.invokestatic idx, 3)) (kk : G Z X Y ex cells slots (pc + 3) loc (.int (jabs x) :: rest) M) : G Z X Y ex cells slots pc loc (.int x :: rest) M := G.mabs pc w1 w2 w3 w4 hR hr hd kk
end PROWS
/-- the room of a method of the group or, and, test, d levels deep -/
def rmP (d : Nat) : Room := { frames := 20 + 2 * d, cells := 0, slots := 0, locals := 1000 + 60 * d }
theorem rmP_r {d n : Nat} (h : n ≤ 20) : RmOk (rmP (d + 1)) 0 0 n (rmP d) := by
  refine ⟨?_, ?_, ?_, ?_⟩ <;> simp only [rmP] <;> omega
theorem rmP_c {d n : Nat} {rm : Room} (h : RmOk (rmP 0) 0 0 n rm) : RmOk (rmP (d + 1)) 0 0 n rm := by
  obtain ⟨h1, h2, h3, h4⟩ := h
  simp only [rmP] at h1 h2 h3 h4
  refine ⟨?_, ?_, ?_, ?_⟩ <;> simp only [rmP] <;> omega
def RecOk (Z : Sys) (d : Nat) (rec : Nat → Mem → Option (Int32 × Mem)) : Prop := ∀ (M : Mem), St M → ∀ q : Int32 × Mem, (rec 0 M = some q → Ct Z yX9_or cX9_or 3 (some .boolean) (rmP d) [.ref (zs Z + 284)] M False (PostZ q.1 q.2)) ∧ (rec 1 M = some q → Ct Z yX9_and cX9_and 3 (some .boolean) (rmP d) [.ref (zs Z + 284)] M False (PostZ q.1 q.2)) ∧ (rec 2 M = some q → Ct Z yX9_test cX9_test 4 (some .boolean) (rmP d) [.ref (zs Z + 284)] M False (PostZ q.1 q.2))
theorem RecOk.o {Z : Sys} {d : Nat} {rec : Nat → Mem → Option (Int32 × Mem)} (h : RecOk Z d rec) {M : Mem} (hs : St M) {q : Int32 × Mem} (e : rec 0 M = some q) : Ct Z yX9_or cX9_or 3 (some .boolean) (rmP d) [.ref (zs Z + 284)] M False (PostZ q.1 q.2) := (h M hs q).1 e
theorem RecOk.a {Z : Sys} {d : Nat} {rec : Nat → Mem → Option (Int32 × Mem)} (h : RecOk Z d rec) {M : Mem} (hs : St M) {q : Int32 × Mem} (e : rec 1 M = some q) : Ct Z yX9_and cX9_and 3 (some .boolean) (rmP d) [.ref (zs Z + 284)] M False (PostZ q.1 q.2) := (h M hs q).2.1 e
theorem RecOk.t {Z : Sys} {d : Nat} {rec : Nat → Mem → Option (Int32 × Mem)} (h : RecOk Z d rec) {M : Mem} (hs : St M) {q : Int32 × Mem} (e : rec 2 M = some q) : Ct Z yX9_test cX9_test 4 (some .boolean) (rmP d) [.ref (zs Z + 284)] M False (PostZ q.1 q.2) := (h M hs q).2.2 e
def DEP : Nat := 200
