/-! ===== from the law's entry ===== -/
theorem cls_u {s : State} {args : Array Value} (hts : ∀ w ∈ TBL, w.before args s = true) {ci : Nat} {C : String} {T : u_T} {ty : Nat → FieldType} {N : Nat} (hc : ClsOk ci C T ty N) (hi : Cond.instantiable C N ∈ TBL) : ∃ (cC : ClassId) (iS : Nat → Nat), u_Kn s C T N cC iS := u_known hts hc.2.2.1 (hts _ hi)
theorem arr_u {s : State} {args : Array Value} {ty : FieldType} (h : (Cond.arrayClass ty).before args s = true) : ∃ cA : ClassId, ArrOfT s cA ty ∧ s.vm.findClass ("[" ++ ty.toString) = some cA := by
  obtain ⟨c, k, comp, h1, h2, h3⟩ := Cond.arrayClass_spec (args := args) (first := s) (o := none) (idx := []) h
  exact ⟨c, fun N z => ⟨(fun k h => by cases h), k, h2, comp, h3⟩, h1⟩
theorem arrq_u {s : State} {args : Array Value} {C : String} (h : (Cond.arrayOver (.object C)).before args s = true) : ∃ cA : ClassId, ArrOfT s cA (.object C) ∧ va_RA s cA (.object C) := by
  obtain ⟨comp, c, k, h1, h2, h3, h4, h5⟩ := Cond.arrayOver_spec h
  exact ⟨c, fun N z => ⟨(fun k h => by cases h), k, h3, comp, h4⟩, k, comp, h3, h4, h1, h5⟩
theorem arra_u {s : State} {args : Array Value} {t : FieldType} (h : (Cond.arrayOver (.array t)).before args s = true) : ∃ cA : ClassId, ArrOfT s cA (.array t) ∧ va_RA s cA (.array t) := by
  obtain ⟨comp, c, k, h1, h3, h4, h5⟩ := Cond.arrayOver_specA h
  exact ⟨c, fun N z => ⟨(fun k h => by cases h), k, h3, comp, h4⟩, h5⟩
theorem tbl_in {w : Cond} (h : w ∈ TBL) : w ∈ lw_tbl := (List.mem_filter.mp h).1
theorem nst_in {w : Cond} (h : w ∈ NST) : w ∈ lw_tbl := (List.mem_filter.mp h).1
/-- a word of the tables that can be said without arguments -/
theorem nst_nw {s : State} {args : Array Value} {w : Cond} (hn : w ∈ NST) (h : w.before args s = true) : va_Nw w s := by
  have h1 := nst_is hn
  cases w <;> first | (exact va_Nw.of rfl h) | exact h | (simp [isNest] at h1)
theorem str_u {s : State} {args : Array Value} {own tx : String} {k : Nat} (h1 : (Cond.stringRef own k tx).before args s = true) (h2 : (Cond.exactly (Term.string own k) "java/lang/String").before args s = true) : ∃ a, vk_R own k tx a s := by
  obtain ⟨a, c, cA, kA, q1, -⟩ := Cond.exactly_spec (args := args) (first := s) (o := none) (s := s) (idx := []) h2
  exact ⟨a, vk_R.of h1 q1⟩
theorem G.exw {Z : Sys} {X : Cx} {Y : My} {cells slots pc : Nat} {loc : List (Nat × Value)} {stk : List Value} {M : Mem} (h : G Z X Y False cells slots pc loc stk M) : G Z X Y True cells slots pc loc stk M := fun O ls H locs hl hP hS => h O ls H locs hl ⟨hP.1, hP.2.1, fun h => h.elim⟩ hS
def flatN : List Cond := flatC (Jvm.Cond.and given_1 narrow_1)
set_option maxHeartbeats 4000000 in
set_option maxRecDepth 100000 in
theorem kn_u {s : State} {args : Array Value} {l : Launch} {z aK aV : Nat} (hts : ∀ w ∈ lw_tbl, w.before args s = true) : ∃ (D : va_G) (DA : Nat → ClassId), ∀ aK aV : Nat, Kn (l, z, D, DA, aK, aV) s := by
  have htT : ∀ w ∈ TBL, w.before args s = true := fun w hw => hts w (tbl_in hw)
  obtain ⟨c0, i0, h0⟩ := cls_u htT ck_0 wd_112
  obtain ⟨c1, i1, h1⟩ := cls_u htT ck_1 wd_163
  obtain ⟨c2, i2, h2⟩ := cls_u htT ck_2 wd_345
  obtain ⟨c3, i3, h3⟩ := cls_u htT ck_3 wd_122
  obtain ⟨c4, i4, h4⟩ := cls_u htT ck_4 wd_330
  obtain ⟨c5, i5, h5⟩ := cls_u htT ck_5 wd_169
  obtain ⟨c6, i6, h6⟩ := cls_u htT ck_6 wd_366
  obtain ⟨c7, i7, h7⟩ := cls_u htT ck_7 wd_308
  obtain ⟨c8, i8, h8⟩ := cls_u htT ck_8 wd_104
  obtain ⟨c9, i9, h9⟩ := cls_u htT ck_9 wd_1300
  obtain ⟨eI, eI1, eI2⟩ := arr_u (ty := .int) (htT _ wd_161)
  obtain ⟨eZ, eZ1, eZ2⟩ := arr_u (ty := .boolean) (htT _ wd_162)
  obtain ⟨eJ, eJ1, eJ2⟩ := arr_u (ty := .long) (htT _ wd_1784)
  obtain ⟨eH, eH1, eH2⟩ := arrq_u (C := RX1) (hts _ (nst_in wd_118))
  obtain ⟨eS, eS1, eS2⟩ := arrq_u (C := RX6) (hts _ (nst_in wd_306))
  obtain ⟨eA, eA1, eA2⟩ := arra_u (t := .int) (hts _ (nst_in wd_120))
  refine ⟨(fun k => if k = 0 then c0 else if k = 1 then c1 else if k = 2 then c2 else if k = 3 then c3 else if k = 4 then c4 else if k = 5 then c5 else if k = 6 then c6 else if k = 7 then c7 else if k = 8 then c8 else c9, fun k => if k = 0 then i0 else if k = 1 then i1 else if k = 2 then i2 else if k = 3 then i3 else if k = 4 then i4 else if k = 5 then i5 else if k = 6 then i6 else if k = 7 then i7 else if k = 8 then i8 else i9), fun t => if t = 10 then eI else if t = 11 then eZ else if t = 12 then eJ else if t = 13 then eH else if t = 14 then eS else eA, fun aK aV => ⟨⟨fun k q hq => ?_, fun k q hq => ?_⟩, fun w hw => nst_nw hw (hts w (nst_in hw))⟩⟩
  · match k, hq with
    | 0, hq => cases hq; exact h0
    | 1, hq => cases hq; exact h1
    | 2, hq => cases hq; exact h2
    | 3, hq => cases hq; exact h3
    | 4, hq => cases hq; exact h4
    | 5, hq => cases hq; exact h5
    | 6, hq => cases hq; exact h6
    | 7, hq => cases hq; exact h7
    | 8, hq => cases hq; exact h8
    | 9, hq => cases hq; exact h9
    | k + 10, hq => simp [vwCl] at hq
  · match k, hq with
    | 0, hq => cases hq; exact ⟨eI1, eI2⟩
    | 1, hq => cases hq; exact ⟨eZ1, eZ2⟩
    | 2, hq => cases hq; exact ⟨eJ1, eJ2⟩
    | 3, hq => cases hq; exact ⟨eH1, eH2⟩
    | 4, hq => cases hq; exact ⟨eS1, eS2⟩
    | 5, hq => cases hq; exact ⟨eA1, eA2⟩
    | k + 6, hq => simp [tysZ] at hq
set_option maxHeartbeats 4000000 in
set_option maxRecDepth 100000 in
theorem ee_u {s : State} {args : Array Value} {l : Launch} {D : va_G} {DA : Nat → ClassId} (hflags : l.flags = flags0) (hts : ∀ w ∈ lw_tbl, w.before args s = true) (hfl : ∀ w ∈ flatN, w.before args s = true) : ∃ aK aV : Nat, EE (l, s.heap.size, D, DA, aK, aV) s s.heap := by
  have hA : ∀ a : Nat, a < s.heap.size → ¬ (fun q : Nat => s.heap.size ≤ q) a := fun a h => Nat.not_le.mpr h
  have htT : ∀ w ∈ TBL, w.before args s = true := fun w hw => hts w (tbl_in hw)
  have hN0 : ∀ i : Nat, i < 1 → ([10] : List Nat).getD i 0 < 2 ^ 31 := by
    intro i hi
    have h0 : i = 0 := by omega
    rw [h0]
    decide
  obtain ⟨adK, adV, hvk, hev⟩ := vk_Sof (args := args) (s := s) (N := 1) (tm := fun _ => (Term.string RX2 58)) (len := [10]) (byt := [FBT]) (A := fun q : Nat => s.heap.size ≤ q) hN0 (fun i _ => hfl _ (by decide +kernel)) (fun i _ => hfl _ (by decide +kernel)) (fun i _ => hfl _ (by decide +kernel)) (fun i hi => by
      have : i = 0 := by omega
      subst this
      exact hfl _ (by decide +kernel)) (fun i hi j hj => by
      have : i = 0 := by omega
      subst this
      have hj' : j < 10 := hj
      have hall : ((List.range 10).all fun j => decide (Cond.eq (.elem (Term.field (Term.string RX2 58) "java/lang/String" "value" "[B") (.int (Int32.ofNat j))) (.int (([FBT].getD 0 []).getD j 0)) ∈ flatN)) = true := by decide +kernel
      exact hfl _ (of_decide_eq_true (List.all_eq_true.mp hall j (List.mem_range.mpr hj')))) (fun i j hi hj hne => absurd (show i = j by omega) hne) hA
  have hv := hvk.1 0 (by decide)
  have hk := hev 0 (by decide)
  refine ⟨adK 0, adV 0, ?_, ?_, ?_, fun q hq => ?_, fun q hq => ?_, ?_, hv.1, hv.2.1, hv.2.2.1, hv.2.2.2, ?_⟩
  · show l.stackTraces = false
    unfold Launch.stackTraces
    rw [hflags]
    decide +kernel
  · exact vx_Zqof (args := args) (hts _ (show Cond.laysStatic Bundle.tN "UNASSIGNED_STACK" Bundle.steD ∈ lw_tbl from List.mem_append_right _ (List.mem_of_getElem? (i := 1119) (by decide +kernel)))) (htT _ (show Cond.initialized Bundle.tN ∈ TBL from wd_96)) (hfl _ (by decide +kernel)) hA
  · exact vx_Zqof (args := args) (hts _ (show Cond.laysStatic Bundle.tN "SUPPRESSED_SENTINEL" Bundle.listD ∈ lw_tbl from List.mem_append_right _ (List.mem_of_getElem? (i := 1121) (by decide +kernel)))) (htT _ (show Cond.initialized Bundle.tN ∈ TBL from wd_96)) (hfl _ (by decide +kernel)) hA
  · have hall : (NCL.all fun q => decide (Cond.not (.castable q.1 q.2) ∈ flatN)) = true := by decide +kernel
    exact va_Nc.of (hfl _ (of_decide_eq_true (List.all_eq_true.mp hall q hq)))
  · simp only [STRS, List.mem_cons, List.not_mem_nil, or_false] at hq
    rcases hq with rfl | rfl | rfl | rfl | rfl | rfl
    · exact str_u (hts _ (show Cond.stringRef RX5 37 "made up" ∈ lw_tbl from List.mem_append_right _ (List.mem_of_getElem? (i := 1134) (by decide +kernel)))) (hfl (Cond.exactly (Term.string RX5 37) "java/lang/String") (by decide +kernel))
    · exact str_u (hts _ (show Cond.stringRef RX5 44 "stuffed" ∈ lw_tbl from List.mem_append_right _ (List.mem_of_getElem? (i := 1169) (by decide +kernel)))) (hfl (Cond.exactly (Term.string RX5 44) "java/lang/String") (by decide +kernel))
    · exact str_u (hts _ (show Cond.stringRef RX5 49 "copied with a slip" ∈ lw_tbl from List.mem_append_right _ (List.mem_of_getElem? (i := 1185) (by decide +kernel)))) (hfl (Cond.exactly (Term.string RX5 49) "java/lang/String") (by decide +kernel))
    · exact str_u (hts _ (show Cond.stringRef RX5 54 "a sheet" ∈ lw_tbl from List.mem_append_right _ (List.mem_of_getElem? (i := 1201) (by decide +kernel)))) (hfl (Cond.exactly (Term.string RX5 54) "java/lang/String") (by decide +kernel))
    · exact str_u (hts _ (show Cond.stringRef RX8 329 "no such shelf" ∈ lw_tbl from List.mem_append_right _ (List.mem_of_getElem? (i := 1218) (by decide +kernel)))) (hfl (Cond.exactly (Term.string RX8 329) "java/lang/String") (by decide +kernel))
    · exact str_u (hts _ (show Cond.stringRef RX8 336 "no row, or no such place" ∈ lw_tbl from List.mem_append_right _ (List.mem_of_getElem? (i := 1221) (by decide +kernel)))) (hfl (Cond.exactly (Term.string RX8 336) "java/lang/String") (by decide +kernel))
  · exact vk_R.of (hts _ (show Cond.stringRef RX2 58 "coltkdeswh" ∈ lw_tbl from List.mem_append_right _ (List.mem_of_getElem? (i := 832) (by decide +kernel)))) hk
  · exact va_Zof (args := args) (hts _ (show Cond.laysStatic "java/lang/String" "COMPACT_STRINGS" "Z" ∈ lw_tbl from List.mem_append_right _ (List.mem_of_getElem? (i := 846) (by decide +kernel)))) (htT _ (show Cond.initialized "java/lang/String" ∈ TBL from wd_91)) (va_eqt (hfl _ (by decide +kernel))) hA
set_option maxHeartbeats 4000000 in
set_option maxRecDepth 100000 in
/-- THE LAW, from its entry -/
theorem whole_start {p : Program} {e : Env} {s : State} {m : MethodId} {below : List Frame} {meth : Method} {c : Code} (l : Launch) (hflags : l.flags = flags0) {b L : Nat} {xs : Nat → Int32} (hL : L ≤ 3072) (C0 : lw_At p s m meth c b L xs) : W p l e room_1 s m #[Value.ref b] below meth c s.heap [] 0 0 (lw_Z below #[Value.ref b] s) (entryFrame m ([Value.ref b] : List Value).toArray 8) := by
  obtain ⟨hx, hb, hr, hml, hown, hts, hX, hbl, hlocks, hgv⟩ := id C0
  obtain ⟨D, DA, hKn⟩ := kn_u (l := l) (z := s.heap.size) (aK := 0) (aV := 0) hts
  obtain ⟨aK, aV, hE⟩ := ee_u (D := D) (DA := DA) hflags hts (flat_of_before _ hgv)
  obtain ⟨Z, hZ⟩ : ∃ Z : Sys, Z = (l, s.heap.size, D, DA, aK, aV) := ⟨_, rfl⟩
  obtain ⟨X, hXe⟩ : ∃ X : Cx, X = (p, e, room_1, s, m, #[Value.ref b], below, meth, c, lw_Z below #[Value.ref b] s) := ⟨_, rfl⟩
  have hR : xR X = room_1 := by rw [hXe]
  have O : OkC Z X Y_L_law := by
    subst hZ; subst hXe
    exact ⟨hx, hb, hml, hown, fun w hw => hts w (tbl_in hw), hKn aK aV, Nat.le_refl _, hE⟩
  have hX' : va_X b L xs (X.2.2.2.1) (X.2.2.2.1).heap := by rw [hXe]; exact hX
  have hbl' : b < (X.2.2.2.1).heap.size := by rw [hXe]; exact hbl
  have hbZ : b < zs Z := by rw [hZ]; exact hbl
  have hend : ∀ (pc cs sl : Nat) (loc : List (Nat × Value)) (M : Mem), cs ≤ 601024 → sl ≤ 7293034 → decode Y_L_law.1 pc = .ok (.ireturn, 1) → G Z X Y_L_law False cs sl pc loc [.int 1] M := by
    intro pc cs sl loc M h1 h2 hd
    subst hZ; subst hXe
    exact fun O ls H locs hl hP hS => va_forget (fun q hq => hS.2.2 q hq) (W.widen h1 h2 (lw_ret hx hb hr hlocks hd))
  have main : G Z X Y_L_law True 0 0 0 [(0, .ref b)] [] M00 := by
    refine G.newD 0 ck_8 wd_103 wd_104 wd_77 trivial hR ⟨Nat.le_of_ble_eq_true rfl, Nat.le_of_ble_eq_true rfl⟩ dL_law_0 (fun m1 r1 em er => ?_)
    have er' : r1 = 0 := er
    subst er'; subst em
    refine G.dup 3 dL_law_3 rfl ?_
    refine G.ci 4 (As := []) (c_X8_init Z (nw M00 (8, 8)) 0 MA_eq) mk_X8_init wd_106 rfl wd_105 hR (by decide +kernel) rfl (Nat.le_of_ble_eq_true rfl) dL_law_4 ?_
    refine G.astore_n 7 [(1, .ref (zs Z + 0)), (0, .ref b)] dL_law_7 rfl (Nat.le_of_ble_eq_true rfl) rfl ?_
    refine G.newD 8 ck_9 wd_1299 wd_1300 wd_86 trivial hR ⟨Nat.le_of_ble_eq_true rfl, Nat.le_of_ble_eq_true rfl⟩ dL_law_8 (fun m2 r2 em er => ?_)
    rw [MA_len] at er
    subst er; subst em
    refine G.dup 11 dL_law_11 rfl ?_
    refine G.ci 12 (As := []) (c_X9_init Z (nw MA (9, 28)) 284 MB_eq) mk_X9_init wd_1302 rfl wd_1301 hR (by decide +kernel) rfl (Nat.le_of_ble_eq_true rfl) dL_law_12 ?_
    refine G.astore_n 15 [(2, .ref (zs Z + 284)), (1, .ref (zs Z + 0)), (0, .ref b)] dL_law_15 rfl (Nat.le_of_ble_eq_true rfl) rfl ?_
    refine G.iconst 16 (1 : Int32) dL_law_16 (by decide +kernel) ?_
    refine G.newaJ 17 1 wd_1784 (by decide +kernel) (by decide +kernel) (by decide +kernel) trivial hR ⟨Nat.le_of_ble_eq_true rfl, Nat.le_of_ble_eq_true rfl⟩ dL_law_17 ?_
    rw [MB_len]
    refine G.astore_n 19 [(3, .ref (zs Z + 300)), (2, .ref (zs Z + 284)), (1, .ref (zs Z + 0)), (0, .ref b)] dL_law_19 rfl (Nat.le_of_ble_eq_true rfl) rfl ?_
    refine G.iconst 20 (0 : Int32) dL_law_20 (by decide +kernel) ?_
    refine G.istore 21 [(4, .int 0), (3, .ref (zs Z + 300)), (2, .ref (zs Z + 284)), (1, .ref (zs Z + 0)), (0, .ref b)] dL_law_21 (Nat.le_of_ble_eq_true rfl) rfl ?_
    refine G.locs [4, 3, 2, 1, 0] rfl ?_
    refine G.exw ?_
    exact l_L_law_23 Z X b hR hX' hbl' hbZ hend FU _ _ 0 M0 M0_St (pure_main xs L hL) (by decide +kernel)
  have hl := lv_entry ([.ref b]) (n := 8) (Nat.le_of_ble_eq_true rfl)
  rw [lg_entry_eq]
  generalize (lg_sl ([.ref b]) ++ List.replicate (8 - (lg_sl ([.ref b])).length) Slot.unset).toArray = ls at hl ⊢
  have hP0 : Rp Z True M00 s.heap := by
    subst hZ
    exact ⟨fun a kd h => by simp [mK, M00] at h, Nat.le_refl _, fun _ => rfl⟩
  have K := main O ls s.heap [] hl hP0
  subst hXe; subst hZ
  exact K va_S.rf
