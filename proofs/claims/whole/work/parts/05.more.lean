/-! the whole memory as one list of the kit's; arraycopy; rows of rows -/
def wsOf (Z : Sys) (M : Mem) : va_W := (mK M).zipIdx.map (fun q => (zs Z + q.2, ent Z M q.2 q.1))
theorem wsOf_get {Z : Sys} {M : Mem} (a : Nat) : (wsOf Z M)[a]? = ((mK M)[a]?).map (fun kd => (zs Z + a, ent Z M a kd)) := by
  unfold wsOf
  rw [List.getElem?_map, List.getElem?_zipIdx]
  cases (mK M)[a]? <;> simp
theorem wsOf_len {Z : Sys} {M : Mem} : (wsOf Z M).length = (mK M).length := by simp [wsOf]
theorem Rp.ws {Z : Sys} {ex : Prop} {M : Mem} {H : Heap} (h : Rp Z ex M H) : va_P (zD Z) vwCl (wsOf Z M) H := fun k q hq => by
  rw [wsOf_get] at hq
  obtain ⟨kd, h1, rfl⟩ := Option.map_eq_some_iff.mp hq
  exact h.1 k kd h1
theorem wsOf_D {Z : Sys} {M : Mem} : va_D (Ar Z) (wsOf Z M) := by
  refine ⟨fun i j p q hi hj hpq => ?_, fun k q hq => ?_⟩
  · rw [wsOf_get] at hi hj
    obtain ⟨_, _, rfl⟩ := Option.map_eq_some_iff.mp hi
    obtain ⟨_, _, rfl⟩ := Option.map_eq_some_iff.mp hj
    have : zs Z + i = zs Z + j := hpq
    omega
  · rw [wsOf_get] at hq
    obtain ⟨_, _, rfl⟩ := Option.map_eq_some_iff.mp hq
    exact Nat.le_add_right _ _
section MROWS
variable {Z : Sys} {X : Cx} {Y : My} {ex : Prop} {cells slots : Nat} {loc loc' : List (Nat × Value)} {rest : List Value} {M : Mem}
theorem G.copyi (pc : Nat) {a0 a n0 n1 idx : Nat} {sp dp n : Int32} (hk0 : (mK M)[a0]? = some (10, n0)) (hk1 : (mK M)[a]? = some (10, n1)) (w1 : Cond.methodLink Y.2.1 idx arraycopyName ∈ TBL) (w2 : Cond.native arraycopyName ∈ TBL) (w3 : Cond.static arraycopyName ∈ TBL) (w4 : Cond.initialized "java/lang/System" ∈ TBL) (h1 : ¬ sp < 0) (h2 : ¬ dp < 0) (h3 : ¬ n < 0) (h4 : sp.toNatClampNeg + n.toNatClampNeg ≤ n0) (h5 : dp.toNatClampNeg + n.toNatClampNeg ≤ n1) {R : Room} (hR : xR X = R) (hr : 1 ≤ R.frames ∧ (rest.map fun v => v.category).sum + (nativeFrameWords "java/lang/System" "arraycopy" 5 + 11) ≤ R.locals) (hd : decode Y.1 pc = .ok (.invokestatic idx, 3)) (kk : G Z X Y False cells slots (pc + 3) loc rest (cI M a0 sp.toNatClampNeg a dp.toNatClampNeg n.toNatClampNeg)) : G Z X Y False cells slots pc loc (.int n :: .int dp :: .ref (zs Z + a) :: .int sp :: .ref (zs Z + a0) :: rest) M := fun O ls H locs hl hP hS => by
  subst hR
  have g0 : (wsOf Z M)[a0]? = some (zs Z + a0, .inl (zA Z 10, n0, .inl (mI M a0))) := by rw [wsOf_get, hk0]; rfl
  have g1 : (wsOf Z M)[a]? = some (zs Z + a, .inl (zA Z 10, n1, .inl (mI M a))) := by rw [wsOf_get, hk1]; rfl
  refine va_copyi (D := zD Z) (tys := tysZ Z) O.1 O.2.1 (O.2.2.1.trans hl.1.symm) O.2.2.2.1 (O.2.2.2.2.1 _ w1) (O.2.2.2.2.1 _ w2) (O.2.2.2.2.1 _ w3) (O.2.2.2.2.1 _ w4) O.2.2.2.2.2.1.1 hP.ws wsOf_D hS a0 a 0 0 g0 g1 rfl rfl rfl h1 h2 h3 h4 h5 (fun i _ => rfl) hr.1 hr.2 hd (fun H1 locs1 hP1 hD1 hS1 => ?_)
  refine kk O ls H1 locs1 hl ⟨fun x kd hx => ?_, ?_, fun h => h.elim⟩ hS1
  · have hx' : (mK M)[x]? = some kd := hx
    by_cases e : x = a
    · subst e
      rw [hk1] at hx'
      cases hx'
      have := hP1 x (zs Z + x, .inl (zA Z 10, n1, .inl (va_cpy (mI M a0) (mI M x) sp.toNatClampNeg dp.toNatClampNeg n.toNatClampNeg))) (by rw [List.getElem?_set_self (by rw [wsOf_len]; exact kl hk1)])
      have e2 : mI (cI M a0 sp.toNatClampNeg x dp.toNatClampNeg n.toNatClampNeg) x = va_cpy (mI M a0) (mI M x) sp.toNatClampNeg dp.toNatClampNeg n.toNatClampNeg := by
        funext j
        simp [mI, cI, va_cpy]
      show va_at _ _ (_, .inl (zA Z 10, n1, .inl (mI _ x))) _
      rw [e2]
      exact this
    · have := hP1 x (zs Z + x, ent Z M x kd) (by rw [List.getElem?_set_ne (Ne.symm e), wsOf_get, hx']; rfl)
      rw [ent_congr (M' := cI M a0 sp.toNatClampNeg a dp.toNatClampNeg n.toNatClampNeg) (M := M) (fun k => ⟨by simp [mI, cI, e], rfl, rfl⟩)]
      exact this
  · show zs Z + (mK M).length ≤ _
    have hl1 := kl hk1
    obtain ⟨kd, hkd⟩ : ∃ kd, (mK M)[(mK M).length - 1]? = some kd := ⟨_, List.getElem?_eq_getElem (by omega)⟩
    obtain ⟨q, hq, hq1⟩ : ∃ q : Nat × va_E, ((wsOf Z M).set a (zs Z + a, .inl (zA Z 10, n1, .inl (va_cpy (mI M a0) (mI M a) sp.toNatClampNeg dp.toNatClampNeg n.toNatClampNeg))))[(mK M).length - 1]? = some q ∧ q.1 = zs Z + ((mK M).length - 1) := by
      by_cases e : (mK M).length - 1 = a
      · rw [e, List.getElem?_set_self (by rw [wsOf_len]; exact hl1)]
        exact ⟨_, rfl, rfl⟩
      · rw [List.getElem?_set_ne (Ne.symm e), wsOf_get, hkd]
        exact ⟨_, rfl, rfl⟩
    have := (hP1 _ q hq).lt
    omega
theorem mn_outer (c : ClassId) (N h0 : Nat) : ∀ i : Nat, Jvm.Free.Multi.outerC c N h0 i = arrV c N (fun j => va_rf (if j < i then some (h0 + 1 + j) else none))
  | 0 => by
    show ({ cls := c, slots := Array.replicate N .null, vm := .none } : Cell) = _
    rw [arrV_new]
    refine congrArg (arrV c N) (funext fun j => ?_)
    simp [va_rf]
  | i + 1 => by
    show (Jvm.Free.Multi.outerC c N h0 i).setSlot i (.ref (h0 + 1 + i)) = _
    rw [mn_outer c N h0 i, arrV_store]
    refine congrArg (arrV c N) (funext fun j => ?_)
    by_cases e : j = i
    · subst e
      simp [updV, va_rf]
    · by_cases h : j < i
      · simp [updV, e, h, Nat.lt_succ_of_lt h]
      · simp [updV, e, h, show ¬ j < i + 1 by omega]
theorem G.mnewI (pc : Nat) (N K : Nat) {idx : Nat} {n k : Int32} (w1 : Cond.classLink Y.2.1 idx ("[" ++ (FieldType.array .int).toString) ∈ TBL) (w2 : Cond.arrayOver (.array .int) ∈ NST) (w3 : Cond.arrayClass .int ∈ TBL) (hn : ¬ n < 0) (hk : ¬ k < 0) (hN : n.toNatClampNeg = N) (hK : k.toNatClampNeg = K) (hb : N * 4 ≤ 536870912) (hb2 : K * componentBytes .int ≤ 536870912) (hb3 : K ≤ 536870912) (he : ex) {R : Room} (hR : xR X = R) (hr : cells + (1 + N) ≤ R.cells ∧ slots + (N + N * K) ≤ R.slots) (hd : decode Y.1 pc = .ok (.multianewarray idx 2, 4)) (kk : G Z X Y ex (cells + 1 + N) (slots + N + N * K) (pc + 4) loc (.ref (zs Z + (mK M).length) :: rest) (nwm M N K)) : G Z X Y ex cells slots pc loc (.int k :: .int n :: rest) M := fun O ls H locs hl hP hS => by
  subst hR; subst hN; subst hK
  intro T hT Xs
  obtain ⟨vm₁, cA, comp, -, fA, fC, hO, -, X', step⟩ := Xs.multianewarray2F (ty := .int) O.1 O.2.2.2.1 (O.2.2.2.2.1 _ w1) (O.2.2.2.2.2.1.2 _ w2) (O.2.2.2.2.1 _ w3) (g := F0 (xm X) pc ls (.int k :: .int n :: rest)) rfl (by rw [O.2.1]; exact hd) rfl hn hk hb hb2 hb3 rfl rfl hr.1 hr.2
  have eA : cA = zA Z 15 := by
    have h := (O.2.2.2.2.2.1.1.2 5 _ rfl).2
    exact Option.some.inj (fA.symm.trans h)
  have eC : comp = zA Z 10 := by
    have h := (O.2.2.2.2.2.1.1.2 0 _ rfl).2
    exact Option.some.inj (fC.symm.trans h)
  subst eA; subst eC
  generalize hF : Jvm.Free.Multi.fill (T.setVm vm₁) (zA Z 15) (zA Z 10) n.toNatClampNeg k.toNatClampNeg (defaultValue .int) n.toNatClampNeg = F at X' step
  have hTh : (T.setVm vm₁).heap = H := hT
  obtain ⟨f1, f2, -, -⟩ := Jvm.Free.Multi.fill_facts (T.setVm vm₁) (zA Z 15) (zA Z 10) n.toNatClampNeg k.toNatClampNeg (defaultValue .int) n.toNatClampNeg
  rw [hF, hTh] at f1 f2
  have hold : ∀ x : Nat, x < H.size → F.heap[x]? = H[x]? := fun x hx => by
    have := Jvm.Free.Multi.fill_old (T.setVm vm₁) (zA Z 15) (zA Z 10) n.toNatClampNeg k.toNatClampNeg (defaultValue .int) (a := x) (by rw [hTh]; exact hx) n.toNatClampNeg
    rw [hF, hTh] at this
    exact this
  have hrow : ∀ j : Nat, j < n.toNatClampNeg → F.heap[H.size + 1 + j]? = some (arrV (zA Z 10) k.toNatClampNeg (fun _ => .int 0)) := fun j hj => by
    have := Jvm.Free.Multi.fill_inner (T.setVm vm₁) (zA Z 15) (zA Z 10) n.toNatClampNeg k.toNatClampNeg (defaultValue .int) n.toNatClampNeg j hj
    rw [hF, hTh] at this
    rw [this, ← arrV_new]
    rfl
  rw [mn_outer] at f2
  have hs := hP.2.2 he
  have hlen : (mK (nwm M n.toNatClampNeg k.toNatClampNeg)).length = (mK M).length + 1 + n.toNatClampNeg := by simp [mK, nwm]; omega
  have hP' : Rp Z ex (nwm M n.toNatClampNeg k.toNatClampNeg) F.heap := by
    refine ⟨fun x kd hx => ?_, by rw [hlen, f1, hs]; omega, fun _ => by rw [hlen, f1, hs]; omega⟩
    have hx' : ((mK M) ++ (15, n.toNatClampNeg) :: List.replicate n.toNatClampNeg (10, k.toNatClampNeg))[x]? = some kd := hx
    by_cases e : x < (mK M).length
    · rw [List.getElem?_append_left e] at hx'
      have hne : x ≠ M.1.length := Nat.ne_of_lt e
      have hnl : ¬ M.1.length ≤ x := Nat.not_le.mpr e
      rw [ent_congr (M' := nwm M n.toNatClampNeg k.toNatClampNeg) (M := M) (fun k => ⟨by simp [mI, nwm, hnl], by simp [mP, nwm, hne, hnl], by simp [mJ, nwm, hnl]⟩)]
      exact (hP.1 x kd hx').kept (hold _ (by show zs Z + x < H.size; omega))
    · rw [List.getElem?_append_right (by omega)] at hx'
      obtain ⟨d, hdx⟩ : ∃ d, x = (mK M).length + d := ⟨x - (mK M).length, by omega⟩
      subst hdx
      rw [show (mK M).length + d - (mK M).length = d by omega] at hx'
      cases d with
      | zero =>
        cases hx'
        show F.heap[zs Z + (mK M).length]? = some (arrV (zA Z 15) n.toNatClampNeg (fun j => va_rf ((mP (nwm M n.toNatClampNeg k.toNatClampNeg) (mK M).length j).map (zs Z + ·))))
        rw [← hs, f2]
        congr 2
        funext j
        by_cases hj : j < n.toNatClampNeg
        · have e : mP (nwm M n.toNatClampNeg k.toNatClampNeg) (mK M).length j = some ((mK M).length + 1 + j) := by simp [mP, mK, nwm, hj]
          rw [e, if_pos hj]
          exact congrArg Value.ref (show H.size + 1 + j = zs Z + ((mK M).length + 1 + j) by omega)
        · simp [mP, mK, nwm, hj, va_rf]
      | succ d =>
        rw [List.getElem?_cons_succ] at hx'
        have hdn : d < n.toNatClampNeg := by
          have := (List.getElem?_eq_some_iff.mp hx').1
          simpa using this
        rw [List.getElem?_replicate_of_lt hdn] at hx'
        cases hx'
        show F.heap[zs Z + ((mK M).length + (d + 1))]? = some (arrV (zA Z 10) k.toNatClampNeg (fun j => .int (mI (nwm M n.toNatClampNeg k.toNatClampNeg) ((mK M).length + (d + 1)) j)))
        rw [show zs Z + ((mK M).length + (d + 1)) = H.size + 1 + d by omega, hrow d hdn]
        congr 2
        funext j
        simp [mI, mK, nwm]
  have hTz : T.heap.size = zs Z + (mK M).length := by rw [hT]; exact hs
  rw [hTz] at step
  obtain ⟨t, a1, b1⟩ := kk O ls F.heap locs hl hP' (push_S hS (by rw [f1]; omega) hold) F rfl X'
  exact ⟨t, step t a1, b1⟩
end MROWS
