/-! what is true of a class of the system, by the tables -/
def ClsOk (ci : Nat) (C : String) (T : u_T) (ty : Nat → FieldType) (N : Nat) : Prop := ci < 10 ∧ vwCl[ci]? = some (C, T, N) ∧ (∀ w ∈ u_ws C T N, w ∈ TBL) ∧ (∀ k, k < N → parseFieldDescriptor (T k).2.2.1 = some (ty k)) ∧ (∀ a, a < N → ∀ b, b < N → a ≠ b → (T a).2.1 ≠ (T b).2.1) ∧ (∀ k, k < N → defaultValue (ty k) = if FR ci k = true then .null else .int 0)
theorem gin {ws : List Cond} (h : ∀ w ∈ ws, w ∈ TBL) : GoodIn TBL ws := fun w hw => ⟨h w hw, good_of_word (List.mem_filter.mp (h w hw)).2⟩
theorem ent_obj {Z : Sys} {M : Mem} {a ci n : Nat} (h : ci < 10) : ent Z M a (ci, n) = .inr (ci, (List.range n).map (vf Z M a ci)) := if_pos h
theorem ent_congr {Z : Sys} {M M' : Mem} {x : Nat} {kd : Nat × Nat} (h : ∀ k, mI M' x k = mI M x k ∧ mP M' x k = mP M x k ∧ mJ M' x k = mJ M x k) : ent Z M' x kd = ent Z M x kd := by
  have h1 : mI M' x = mI M x := funext fun k => (h k).1
  have h2 : mP M' x = mP M x := funext fun k => (h k).2.1
  have h3 : mJ M' x = mJ M x := funext fun k => (h k).2.2
  have h4 : vf Z M' x kd.1 = vf Z M x kd.1 := funext fun k => by unfold vf; rw [h1, h2]
  unfold ent
  rw [h4, h1, h2, h3]
theorem vp_range {N j : Nat} {f : Nat → Value} (h : j < N) : vp_V ((List.range N).map f) j = f j := by simp [vp_V, h]
theorem Rp.one {Z : Sys} {ex : Prop} {M : Mem} {H : Heap} {a : Nat} {kd : Nat × Nat} (h : Rp Z ex M H) (hk : (mK M)[a]? = some kd) : va_P (zD Z) vwCl [(zs Z + a, ent Z M a kd)] H := fun k q hq => by
  cases k with
  | zero => cases hq; exact h.1 a kd hk
  | succ k => simp at hq
theorem kl {M : Mem} {a : Nat} {kd : Nat × Nat} (h : (mK M)[a]? = some kd) : a < (mK M).length := (List.getElem?_eq_some_iff.mp h).1
/-- one cell has changed -/
theorem Rp.upd {Z : Sys} {ex : Prop} {M M' : Mem} {H H' : Heap} {a : Nat} {kd : Nat × Nat} (hP : Rp Z ex M H) (hK : mK M' = mK M) (ho : ∀ x k, x ≠ a → mI M' x k = mI M x k ∧ mP M' x k = mP M x k ∧ mJ M' x k = mJ M x k) (hz : H'.size = H.size) (oq : ∀ q, q ≠ zs Z + a → H'[q]? = H[q]?) (hk : (mK M)[a]? = some kd) (hat : va_at (zD Z) vwCl (zs Z + a, ent Z M' a kd) H') : Rp Z ex M' H' := by
  refine ⟨fun x kd' hx => ?_, by rw [hK, hz]; exact hP.2.1, fun he => by rw [hK, hz]; exact hP.2.2 he⟩
  rw [hK] at hx
  by_cases e : x = a
  · subst e
    rw [hk] at hx
    cases hx
    exact hat
  · rw [ent_congr (fun k => ho x k e)]
    exact (hP.1 x kd' hx).kept (oq _ (by intro h; exact e (by omega)))
/-- a cell more -/
theorem Rp.push {Z : Sys} {ex : Prop} {M : Mem} {H H' : Heap} {kd : Nat × Nat} (hP : Rp Z ex M H) (he : ex) (hz : H'.size = H.size + 1) (oq : ∀ q, q < H.size → H'[q]? = H[q]?) (hat : va_at (zD Z) vwCl (H.size, ent Z (nw M kd) (mK M).length kd) H') : Rp Z ex (nw M kd) H' := by
  have hs := hP.2.2 he
  have hl : (mK (nw M kd)).length = (mK M).length + 1 := by simp [mK, nw]
  refine ⟨fun x kd' hx => ?_, by rw [hl, hz, hs]; omega, fun _ => by rw [hl, hz, hs]; omega⟩
  have hx' : ((mK M) ++ [kd])[x]? = some kd' := hx
  by_cases e : x < (mK M).length
  · rw [List.getElem?_append_left e] at hx'
    have hne : x ≠ M.1.length := Nat.ne_of_lt e
    rw [ent_congr (M' := nw M kd) (M := M) (fun k => ⟨by simp [mI, nw, hne], by simp [mP, nw, hne], by simp [mJ, nw, hne]⟩)]
    exact (hP.1 x kd' hx').kept (oq _ (by show zs Z + x < H.size; omega))
  · rw [List.getElem?_append_right (by omega)] at hx'
    have h0 : x - (mK M).length < 1 := (List.getElem?_eq_some_iff.mp hx').1
    have h1 : x = (mK M).length := by omega
    subst h1
    rw [Nat.sub_self] at hx'
    cases hx'
    rw [← hs]
    exact hat
theorem push_S {Z : Sys} {H0 H H' : Heap} {locs : List Loc} (hS : va_S (Ar Z) H0 H locs) (hz : H.size ≤ H'.size) (oq : ∀ q, q < H.size → H'[q]? = H[q]?) : va_S (Ar Z) H0 H' locs := ⟨Nat.le_trans hS.1 hz, fun x h1 h2 => (oq x (Nat.lt_of_lt_of_le h1 hS.1)).trans (hS.2.1 x h1 h2), hS.2.2⟩
section HROWS
variable {Z : Sys} {X : Cx} {Y : My} {ex : Prop} {cells slots : Nat} {loc loc' : List (Nat × Value)} {rest : List Value} {M : Mem}
theorem G.geti (pc : Nat) {ci idx N a : Nat} {C : String} {T : u_T} {ty : Nat → FieldType} (hc : ClsOk ci C T ty N) (k : Nat) (hk : (mK M)[a]? = some (ci, N)) (hkN : k < N) (hfr : FR ci k = false) (hw : Cond.fieldLink Y.2.1 idx (T k).1 (T k).2.1 (T k).2.2.1 ∈ TBL) (hd : decode Y.1 pc = .ok (.getfield idx, 3)) (kk : G Z X Y ex cells slots (pc + 3) loc (.int (mI M a k) :: rest) M) : G Z X Y ex cells slots pc loc (.ref (zs Z + a) :: rest) M := fun O ls H locs hl hP hS =>
  va_get (ws := [(zs Z + a, ent Z M a (ci, N))]) (Ts := TBL) O.1 O.2.1 O.2.2.2.2.1 hc.2.2.1 O.2.2.2.1 O.2.2.2.2.2.1.1 (hP.one hk) 0 (fs := (List.range N).map (vf Z M a ci)) (by rw [ent_obj hc.1]; rfl) hc.2.1 k hkN (O.2.2.2.2.1 _ hw) (fun _ h => h) (v := .int (mI M a k)) (by simp [hkN, vf]; intro h; rw [hfr] at h; cases h) hd (kk O ls H locs hl hP hS)
theorem G.getp (pc : Nat) {ci idx N a : Nat} {C : String} {T : u_T} {ty : Nat → FieldType} (hc : ClsOk ci C T ty N) (k r : Nat) (hk : (mK M)[a]? = some (ci, N)) (hp : mP M a k = some r) (hkN : k < N) (hfr : FR ci k = true) (hw : Cond.fieldLink Y.2.1 idx (T k).1 (T k).2.1 (T k).2.2.1 ∈ TBL) (hd : decode Y.1 pc = .ok (.getfield idx, 3)) (kk : G Z X Y ex cells slots (pc + 3) loc (.ref (zs Z + r) :: rest) M) : G Z X Y ex cells slots pc loc (.ref (zs Z + a) :: rest) M := fun O ls H locs hl hP hS =>
  va_get (ws := [(zs Z + a, ent Z M a (ci, N))]) (Ts := TBL) O.1 O.2.1 O.2.2.2.2.1 hc.2.2.1 O.2.2.2.1 O.2.2.2.2.2.1.1 (hP.one hk) 0 (fs := (List.range N).map (vf Z M a ci)) (by rw [ent_obj hc.1]; rfl) hc.2.1 k hkN (O.2.2.2.2.1 _ hw) (fun _ h => h) (v := .ref (zs Z + r)) (by simp [hkN, vf, hfr, hp, va_rf]) hd (kk O ls H locs hl hP hS)
theorem G.putv (pc : Nat) {ci idx N a : Nat} {C : String} {T : u_T} {ty : Nat → FieldType} (hc : ClsOk ci C T ty N) (k : Nat) (hk : (mK M)[a]? = some (ci, N)) (hkN : k < N) (hfin : (T k).2.2.2 = false ∨ ((T k).2.2.2 = true ∧ (xM X).name = "<init>" ∧ (T k).1 = Y.2.1)) (hw : Cond.fieldLink Y.2.1 idx (T k).1 (T k).2.1 (T k).2.2.1 ∈ TBL) {v : Value} {M' : Mem} (hK : mK M' = mK M) (ho : ∀ x k, x ≠ a → mI M' x k = mI M x k ∧ mP M' x k = mP M x k ∧ mJ M' x k = mJ M x k) (hv : ∀ j, j < N → (if j = k then v else vf Z M a ci j) = vf Z M' a ci j) (hn : narrow (ty k) v = v) (hfit : fits (ty k) v = true)
    (hd : decode Y.1 pc = .ok (.putfield idx, 3)) (kk : G Z X Y ex cells slots (pc + 3) loc rest M') : G Z X Y ex cells slots pc loc (v :: .ref (zs Z + a) :: rest) M := by
  intro O ls H locs hl hP hS
  have hts := O.2.2.2.2.1
  have hKn := O.2.2.2.2.2.1.1
  have hown := O.2.2.2.1
  have hap := va_apart (own := Y.2.1) hts hc.2.2.1 ty hc.2.2.2.1 hc.2.2.2.2.1 hKn hc.2.1
  have hat := hP.1 a _ hk
  rw [ent_obj hc.1] at hat
  obtain ⟨r, h1, cell, q1, q2, q3, q4⟩ := hat
  have hr : r = (C, T, N) := Option.some.inj (h1.symm.trans hc.2.1)
  subst hr
  obtain ⟨hSl, hfc, kC, hkC, hkind⟩ := hKn.1 ci _ hc.2.1
  obtain ⟨cf, kf, fi, f, hi, hsl⟩ := hSl k hkN
  have hlay := hts _ (hc.2.2.1 _ (u_in_lay hkN))
  have hst := (u_facts hfc hkC (u_lays hts hc.2.2.1 hkN) hi).1
  have post : ∀ H' : Heap, H'[zs Z + a]? = some (cell.setSlot f.slot v) → H'.size = H.size → (∀ q, q ≠ zs Z + a → H'[q]? = H[q]?) → WX Z X H' (locs ++ [⟨zs Z + a, f.slot⟩]) cells slots (F0 (xm X) (pc + 3) ls rest) := by
    intro H' e1 e2 e3
    refine kk O ls H' _ hl (hP.upd hK ho e2 e3 hk ?_) (hS.put e2 e3 (Nat.le_add_right _ _))
    rw [ent_obj hc.1]
    rw [hsl] at e1
    refine ⟨_, hc.2.1, t_OB.to (V := updV (vp_V ((List.range N).map (vf Z M a ci))) k v) ⟨_, e1, q2, q3, t_set q4 hap hkN v⟩ (fun j hj => ?_)⟩
    rw [vp_range hj, ← hv j hj]
    unfold updV
    by_cases e : j = k
    · rw [if_pos e, if_pos e]
    · rw [if_neg e, if_neg e, vp_range hj]
  rcases hfin with hfin | ⟨hfin, hin2, hdecl⟩
  · unfold u_lay at hlay
    rw [if_neg (by rw [hfin]; decide)] at hlay
    have h6 := u_store hfc hkC hkind hlay hi (hc.2.2.2.1 k hkN) hn hfit
    exact W.putK O.1 O.2.1 (f := f) ⟨hown, hts _ hw, ⟨_, _, _, hi⟩, hst⟩ (by rw [q2]; exact h6) q1 q3 (by rw [hsl]; exact k2_hasslot (q4 k hkN)) rfl rfl hd post
  · unfold u_lay at hlay
    rw [if_pos hfin] at hlay
    have hcf : (xm X).cls = cf := by
      obtain ⟨_, _, c', _, _, _, -, -, hf', -, -, -, hown2, -⟩ := Cond.laysFinal_spec hlay
      have e1 : c' = cf := by have := hi.symm.trans hf'; simp at this; exact this.1.symm
      rw [hdecl] at hown2
      rw [← e1]; exact Option.some.inj (hown.symm.trans hown2)
    have h6 := u_fits hfc hkC hkind (Or.inr hlay) hi (hc.2.2.2.1 k hkN) hn hfit
    exact W.putFinK O.1 O.2.1 hown (hts _ hw) hi hst hcf hin2 (by rw [q2]; exact h6) q1 q3 (by rw [hsl]; exact k2_hasslot (q4 k hkN)) rfl rfl hd post
theorem G.puti (pc : Nat) {ci idx N a : Nat} {C : String} {T : u_T} {ty : Nat → FieldType} (hc : ClsOk ci C T ty N) (k : Nat) (hk : (mK M)[a]? = some (ci, N)) (hkN : k < N) (hfr : FR ci k = false) (hfin : (T k).2.2.2 = false) (hw : Cond.fieldLink Y.2.1 idx (T k).1 (T k).2.1 (T k).2.2.1 ∈ TBL) {v : Int32} (hn : narrow (ty k) (.int v) = .int v) (hfit : fits (ty k) (.int v) = true)
    (hd : decode Y.1 pc = .ok (.putfield idx, 3)) (kk : G Z X Y ex cells slots (pc + 3) loc rest (sI M a k v)) : G Z X Y ex cells slots pc loc (.int v :: .ref (zs Z + a) :: rest) M := by
  refine G.putv pc hc k hk hkN (Or.inl hfin) hw (M' := sI M a k v) rfl (fun x j hx => ⟨by simp [mI, sI, hx], rfl, rfl⟩) (fun j hj => ?_) hn hfit hd kk
  by_cases e : j = k
  · subst e
    rw [if_pos rfl]
    unfold vf
    rw [hfr]
    simp [mI, sI]
  · rw [if_neg e]
    unfold vf
    simp [mI, mP, sI, e]
theorem G.putp (pc : Nat) {ci idx N a : Nat} {C : String} {T : u_T} {ty : Nat → FieldType} (hc : ClsOk ci C T ty N) (k : Nat) {r : Nat} (hk : (mK M)[a]? = some (ci, N)) (hkN : k < N) (hfr : FR ci k = true) (hfin : (T k).2.2.2 = false ∨ ((T k).2.2.2 = true ∧ (xM X).name = "<init>" ∧ (T k).1 = Y.2.1)) (hw : Cond.fieldLink Y.2.1 idx (T k).1 (T k).2.1 (T k).2.2.1 ∈ TBL) (hn : ∀ x, narrow (ty k) (.ref x) = .ref x) (hfit : ∀ x, fits (ty k) (.ref x) = true)
    (hd : decode Y.1 pc = .ok (.putfield idx, 3)) (kk : G Z X Y ex cells slots (pc + 3) loc rest (sP M a k r)) : G Z X Y ex cells slots pc loc (.ref (zs Z + r) :: .ref (zs Z + a) :: rest) M := by
  refine G.putv pc hc k hk hkN hfin hw (M' := sP M a k r) rfl (fun x j hx => ⟨rfl, by simp [mP, sP, hx], rfl⟩) (fun j hj => ?_) (hn _) (hfit _) hd kk
  by_cases e : j = k
  · subst e
    rw [if_pos rfl]
    unfold vf
    rw [hfr]
    simp [mP, sP, va_rf]
  · rw [if_neg e]
    unfold vf
    simp [mI, mP, sP, e]
theorem G.iald (pc : Nat) {a n : Nat} {i : Int32} (hk : (mK M)[a]? = some (10, n)) (hin : vp_in i n) (hd : decode Y.1 pc = .ok (.iaload, 1)) (kk : G Z X Y ex cells slots (pc + 1) loc (.int (mI M a i.toNatClampNeg) :: rest) M) : G Z X Y ex cells slots pc loc (.int i :: .ref (zs Z + a) :: rest) M := fun O ls H locs hl hP hS =>
  va_iald (tys := tysZ Z) O.1 O.2.1 O.2.2.2.2.2.1.1 (hP.one hk) 0 0 (n := n) (f := mI M a) rfl rfl hin hd (kk O ls H locs hl hP hS)
theorem G.zald (pc : Nat) {a n : Nat} {i : Int32} (hk : (mK M)[a]? = some (11, n)) (hin : vp_in i n) (hd : decode Y.1 pc = .ok (.baload, 1)) (kk : G Z X Y ex cells slots (pc + 1) loc (.int (mI M a i.toNatClampNeg) :: rest) M) : G Z X Y ex cells slots pc loc (.int i :: .ref (zs Z + a) :: rest) M := fun O ls H locs hl hP hS =>
  va_zald (tys := tysZ Z) O.1 O.2.1 O.2.2.2.2.2.1.1 (hP.one hk) 0 1 (n := n) (f := mI M a) rfl rfl hin hd (kk O ls H locs hl hP hS)
theorem G.lald (pc : Nat) {a n : Nat} {i : Int32} (hk : (mK M)[a]? = some (12, n)) (hin : vp_in i n) (hd : decode Y.1 pc = .ok (.laload, 1)) (kk : G Z X Y ex cells slots (pc + 1) loc (.long (mJ M a i.toNatClampNeg) :: rest) M) : G Z X Y ex cells slots pc loc (.int i :: .ref (zs Z + a) :: rest) M := fun O ls H locs hl hP hS =>
  va_lald (tys := tysZ Z) O.1 O.2.1 O.2.2.2.2.2.1.1 (hP.one hk) 0 2 (n := n) (f := mJ M a) rfl rfl hin hd (kk O ls H locs hl hP hS)
theorem G.aald (pc : Nat) {a n t : Nat} {ft : FieldType} {i : Int32} (r : Nat) (hk : (mK M)[a]? = some (t, n)) (ht : 13 ≤ t) (htt : (tysZ Z)[t - 10]? = some (zA Z t, ft)) (hft : ft.isReference = true) (hin : vp_in i n) (hp : mP M a i.toNatClampNeg = some r) (hd : decode Y.1 pc = .ok (.aaload, 1)) (kk : G Z X Y ex cells slots (pc + 1) loc (.ref (zs Z + r) :: rest) M) : G Z X Y ex cells slots pc loc (.int i :: .ref (zs Z + a) :: rest) M := fun O ls H locs hl hP hS => by
  have hlt : i.toNatClampNeg < n := Nat.not_le.mp fun q => hin (Or.inr q)
  have hat := hP.1 a _ hk
  unfold ent at hat
  rw [if_neg (by show ¬ t < 10; omega), if_neg (by show ¬ t < 12; omega), if_neg (by show ¬ t = 12; omega)] at hat
  have hcell : H[zs Z + a]? = some (arrV (zA Z t) n (fun j => va_rf ((mP M a j).map (zs Z + ·)))) := hat
  refine W.aald (v := .ref (zs Z + r)) O.1 O.2.1 hcell ((O.2.2.2.2.2.1.1.2 _ _ htt).1 n _) hft (fun q => by cases q) ?_ ?_ rfl rfl hd (kk O ls H locs hl hP hS)
  · rw [arrV_size]; exact hin
  · rw [arrV_read _ _ hlt, hp]; rfl
theorem G.iast (pc : Nat) {a n : Nat} {i x : Int32} (hk : (mK M)[a]? = some (10, n)) (hin : vp_in i n) (hd : decode Y.1 pc = .ok (.iastore, 1)) (kk : G Z X Y ex cells slots (pc + 1) loc rest (sI M a i.toNatClampNeg x)) : G Z X Y ex cells slots pc loc (.int x :: .int i :: .ref (zs Z + a) :: rest) M := fun O ls H locs hl hP hS => by
  have hcell : H[zs Z + a]? = some (arrV (zA Z 10) n (fun j => .int (mI M a j))) := hP.1 a _ hk
  refine W.iast O.1 O.2.1 hcell ((O.2.2.2.2.2.1.1.2 0 _ rfl).1 n _) (fun q => by cases q) (by rw [arrV_size]; exact hin) rfl rfl hd (fun H' e1 z oq => ?_)
  refine kk O ls H' _ hl (hP.upd (M' := sI M a i.toNatClampNeg x) rfl (fun q j hq => ⟨by simp [mI, sI, hq], rfl, rfl⟩) z oq hk ?_) (hS.put z oq (Nat.le_add_right _ _))
  show H'[zs Z + a]? = some (arrV (zA Z 10) n (fun j => .int (mI (sI M a i.toNatClampNeg x) a j)))
  rw [e1, arrV_store]
  congr 2
  funext j
  by_cases hj : j = i.toNatClampNeg
  · subst hj; simp [updV, mI, sI]
  · simp [updV, mI, sI, hj]
theorem G.zast (pc : Nat) {a n : Nat} {i x : Int32} (hk : (mK M)[a]? = some (11, n)) (hin : vp_in i n) (hd : decode Y.1 pc = .ok (.bastore, 1)) (kk : G Z X Y ex cells slots (pc + 1) loc rest (sI M a i.toNatClampNeg (vp_nar .boolean x))) : G Z X Y ex cells slots pc loc (.int x :: .int i :: .ref (zs Z + a) :: rest) M := fun O ls H locs hl hP hS => by
  have hcell : H[zs Z + a]? = some (arrV (zA Z 11) n (fun j => .int (mI M a j))) := hP.1 a _ hk
  refine W.zast O.1 O.2.1 hcell ((O.2.2.2.2.2.1.1.2 1 _ rfl).1 n _) (fun q => by cases q) (by rw [arrV_size]; exact hin) rfl rfl hd (fun H' e1 z oq => ?_)
  refine kk O ls H' _ hl (hP.upd (M' := sI M a i.toNatClampNeg (vp_nar .boolean x)) rfl (fun q j hq => ⟨by simp [mI, sI, hq], rfl, rfl⟩) z oq hk ?_) (hS.put z oq (Nat.le_add_right _ _))
  show H'[zs Z + a]? = some (arrV (zA Z 11) n (fun j => .int (mI (sI M a i.toNatClampNeg (vp_nar .boolean x)) a j)))
  rw [e1, arrV_store]
  congr 2
  funext j
  by_cases hj : j = i.toNatClampNeg
  · subst hj
    simp only [updV, mI, sI, and_self, if_true]
    rfl
  · simp [updV, mI, sI, hj]
theorem G.last (pc : Nat) {a n : Nat} {i : Int32} {x : Int64} (hk : (mK M)[a]? = some (12, n)) (hin : vp_in i n) (hd : decode Y.1 pc = .ok (.lastore, 1)) (kk : G Z X Y ex cells slots (pc + 1) loc rest (sJ M a i.toNatClampNeg x)) : G Z X Y ex cells slots pc loc (.long x :: .int i :: .ref (zs Z + a) :: rest) M := fun O ls H locs hl hP hS => by
  have hcell : H[zs Z + a]? = some (arrV (zA Z 12) n (fun j => .long (mJ M a j))) := hP.1 a _ hk
  refine W.last O.1 O.2.1 hcell ((O.2.2.2.2.2.1.1.2 2 _ rfl).1 n _) (fun q => by cases q) (by rw [arrV_size]; exact hin) rfl rfl hd (fun H' e1 z oq => ?_)
  refine kk O ls H' _ hl (hP.upd (M' := sJ M a i.toNatClampNeg x) rfl (fun q j hq => ⟨rfl, rfl, by simp [mJ, sJ, hq]⟩) z oq hk ?_) (hS.put z oq (Nat.le_add_right _ _))
  show H'[zs Z + a]? = some (arrV (zA Z 12) n (fun j => .long (mJ (sJ M a i.toNatClampNeg x) a j)))
  rw [e1, arrV_store]
  congr 2
  funext j
  by_cases hj : j = i.toNatClampNeg
  · subst hj; simp [updV, mJ, sJ]
  · simp [updV, mJ, sJ, hj]
theorem G.alen (pc : Nat) {a n t : Nat} (v : Int32) (hk : (mK M)[a]? = some (t, n)) (ht : t = 10 ∨ t = 11 ∨ t = 12) (hv : Int32.ofNat n = v) (hd : decode Y.1 pc = .ok (.arraylength, 1)) (kk : G Z X Y ex cells slots (pc + 1) loc (.int v :: rest) M) : G Z X Y ex cells slots pc loc (.ref (zs Z + a) :: rest) M := fun O ls H locs hl hP hS => by
  rcases ht with rfl | rfl | rfl
  · exact va_alen (tys := tysZ Z) O.1 O.2.1 O.2.2.2.2.2.1.1 (hP.one hk) 0 0 (x := (n, .inl (mI M a))) rfl rfl hv hd (kk O ls H locs hl hP hS)
  · exact va_alen (tys := tysZ Z) O.1 O.2.1 O.2.2.2.2.2.1.1 (hP.one hk) 0 1 (x := (n, .inl (mI M a))) rfl rfl hv hd (kk O ls H locs hl hP hS)
  · exact va_alen (tys := tysZ Z) O.1 O.2.1 O.2.2.2.2.2.1.1 (hP.one hk) 0 2 (x := (n, .inr (.inl (mJ M a)))) rfl rfl hv hd (kk O ls H locs hl hP hS)
theorem G.mmax (pc : Nat) {idx : Nat} {x y : Int32} (w1 : Cond.methodLink Y.2.1 idx Lib.Math.max.name ∈ TBL) (w2 : Cond.static Lib.Math.max.name ∈ TBL) (w3 : Cond.initialized "java/lang/Math" ∈ TBL) (w4 : Cond.code Lib.Math.max.name Lib.Math.max.code 2 (some .int) ∈ TBL) {R : Room} (hR : xR X = R) (hr : 1 ≤ R.frames ∧ (rest.map fun v => v.category).sum + 13 ≤ R.locals ∧ cells ≤ R.cells ∧ slots ≤ R.slots) (hd : decode Y.1 pc = .ok (.invokestatic idx, 3)) (kk : G Z X Y ex cells slots (pc + 3) loc (.int (if x < y then y else x) :: rest) M) : G Z X Y ex cells slots pc loc (.int y :: .int x :: rest) M := fun O ls H locs hl hP hS => by
  subst hR
  exact va_mmax O.1 O.2.1 (O.2.2.1.trans hl.1.symm) O.2.2.2.1 (O.2.2.2.2.1 _ w1) (O.2.2.2.2.1 _ w2) (O.2.2.2.2.1 _ w3) (O.2.2.2.2.1 _ w4) hr.1 hr.2.1 hr.2.2.1 hr.2.2.2 hd (kk O ls H locs hl hP hS)
theorem G.mmin (pc : Nat) {idx : Nat} {x y : Int32} (w1 : Cond.methodLink Y.2.1 idx Lib.Math.min.name ∈ TBL) (w2 : Cond.static Lib.Math.min.name ∈ TBL) (w3 : Cond.initialized "java/lang/Math" ∈ TBL) (w4 : Cond.code Lib.Math.min.name Lib.Math.min.code 2 (some .int) ∈ TBL) {R : Room} (hR : xR X = R) (hr : 1 ≤ R.frames ∧ (rest.map fun v => v.category).sum + 13 ≤ R.locals ∧ cells ≤ R.cells ∧ slots ≤ R.slots) (hd : decode Y.1 pc = .ok (.invokestatic idx, 3)) (kk : G Z X Y ex cells slots (pc + 3) loc (.int (if y < x then y else x) :: rest) M) : G Z X Y ex cells slots pc loc (.int y :: .int x :: rest) M := fun O ls H locs hl hP hS => by
  subst hR
  exact va_mmin O.1 O.2.1 (O.2.2.1.trans hl.1.symm) O.2.2.2.1 (O.2.2.2.2.1 _ w1) (O.2.2.2.2.1 _ w2) (O.2.2.2.2.1 _ w3) (O.2.2.2.2.1 _ w4) hr.1 hr.2.1 hr.2.2.1 hr.2.2.2 hd (kk O ls H locs hl hP hS)
theorem G.mabs (pc : Nat) {idx : Nat} {x : Int32} (w1 : Cond.methodLink Y.2.1 idx Lib.Math.abs.name ∈ TBL) (w2 : Cond.static Lib.Math.abs.name ∈ TBL) (w3 : Cond.initialized "java/lang/Math" ∈ TBL) (w4 : Cond.code Lib.Math.abs.name Lib.Math.abs.code 1 (some .int) ∈ TBL) {R : Room} (hR : xR X = R) (hr : 1 ≤ R.frames ∧ (rest.map fun v => v.category).sum + 13 ≤ R.locals ∧ cells ≤ R.cells ∧ slots ≤ R.slots) (hd : decode Y.1 pc = .ok (.invokestatic idx, 3)) (kk : G Z X Y ex cells slots (pc + 3) loc (.int (if 0 ≤ x then x else 0 - x) :: rest) M) : G Z X Y ex cells slots pc loc (.int x :: rest) M := fun O ls H locs hl hP hS => by
  subst hR
  exact va_mabs O.1 O.2.1 (O.2.2.1.trans hl.1.symm) O.2.2.2.1 (O.2.2.2.2.1 _ w1) (O.2.2.2.2.1 _ w2) (O.2.2.2.2.1 _ w3) (O.2.2.2.2.1 _ w4) hr.1 hr.2.1 hr.2.2.1 hr.2.2.2 hd (kk O ls H locs hl hP hS)
end HROWS
