abbrev Y_X8_rowRefusal : My := (cX8_rowRefusal, RX8, 2)
def rm_X8_rowRefusal : Room := { frames := 4, cells := 0, slots := 0, locals := 264 }
theorem dX8_rowRefusal_0 : decode cX8_rowRefusal 0 = .ok (.aload_n 0, 1) := by decide +kernel
theorem dX8_rowRefusal_1 : decode cX8_rowRefusal 1 = .ok (.iload_n 1, 1) := by decide +kernel
theorem dX8_rowRefusal_2 : decode cX8_rowRefusal 2 = .ok (.iload_n 1, 1) := by decide +kernel
theorem dX8_rowRefusal_3 : decode cX8_rowRefusal 3 = .ok (.invokevirtual 128, 3) := by decide +kernel
theorem dX8_rowRefusal_6 : decode cX8_rowRefusal 6 = .ok (.ireturn, 1) := by decide +kernel
def f_X8_rowRefusal (x1 : Int32) (M : Mem) : Option Int32 := (f_X8_rowsRefusal x1 x1 M).bind fun q3 => some q3
set_option maxRecDepth 100000 in
set_option maxHeartbeats 4000000 in
theorem c_X8_rowRefusal (Z : Sys) {M : Mem} (hs : St M) (x1 : Int32) {q : Int32} (hf : f_X8_rowRefusal x1 M = some q) : Ct Z yX8_rowRefusal cX8_rowRefusal 2 (some .int) rm_X8_rowRefusal [.ref (zs Z + 0), .int x1] M False (PostI q M) := by
  refine Ct.of (by decide +kernel) (Nat.le_of_ble_eq_true rfl) (fun X hR hq _ => ?_)
  show G Z X Y_X8_rowRefusal False 0 0 0 [(0, .ref (zs Z + 0)), (1, .int x1)] [] M
  replace hq : RetOk Z X (some .int) False (PostI q M) 0 0 := hq
  unfold f_X8_rowRefusal at hf
  refine G.aload_n 0 0 dX8_rowRefusal_0 rfl rfl ?_
  refine G.iload_n 1 1 dX8_rowRefusal_1 rfl rfl ?_
  refine G.iload_n 2 1 dX8_rowRefusal_2 rfl rfl ?_
  obtain ⟨q3, e4, hf⟩ := bd_e hf
  refine G.cvI 3 (As := [.int x1, .int x1]) ck_8 (hs.k k0_0) (c_X8_rowsRefusal Z hs x1 x1 e4) mk_X8_rowsRefusal vk_X8_rowsRefusal rfl wd_517 hR (by decide +kernel) ⟨rfl, rfl⟩ rfl (Nat.le_of_ble_eq_true rfl) dX8_rowRefusal_3 (fun hs1 => ?_)
  (have hf9 := Option.some.inj hf; subst hf9)
  exact G.rI 6 hq dX8_rowRefusal_6 hs1
abbrev Y_X8_textRefusal : My := (cX8_textRefusal, RX8, 3)
def rm_X8_textRefusal : Room := { frames := 5, cells := 0, slots := 0, locals := 285 }
theorem dX8_textRefusal_0 : decode cX8_textRefusal 0 = .ok (.aload_n 0, 1) := by decide +kernel
theorem dX8_textRefusal_1 : decode cX8_textRefusal 1 = .ok (.iload_n 1, 1) := by decide +kernel
theorem dX8_textRefusal_2 : decode cX8_textRefusal 2 = .ok (.invokevirtual 318, 3) := by decide +kernel
theorem dX8_textRefusal_5 : decode cX8_textRefusal 5 = .ok (.istore_n 2, 1) := by decide +kernel
theorem dX8_textRefusal_6 : decode cX8_textRefusal 6 = .ok (.iload_n 2, 1) := by decide +kernel
theorem dX8_textRefusal_7 : decode cX8_textRefusal 7 = .ok (.ifCond .eq 5, 3) := by decide +kernel
theorem dX8_textRefusal_10 : decode cX8_textRefusal 10 = .ok (.iload_n 2, 1) := by decide +kernel
theorem dX8_textRefusal_11 : decode cX8_textRefusal 11 = .ok (.ireturn, 1) := by decide +kernel
theorem dX8_textRefusal_12 : decode cX8_textRefusal 12 = .ok (.aload_n 0, 1) := by decide +kernel
theorem dX8_textRefusal_13 : decode cX8_textRefusal 13 = .ok (.getfield 24, 3) := by decide +kernel
theorem dX8_textRefusal_16 : decode cX8_textRefusal 16 = .ok (.iload_n 1, 1) := by decide +kernel
theorem dX8_textRefusal_17 : decode cX8_textRefusal 17 = .ok (.aaload, 1) := by decide +kernel
theorem dX8_textRefusal_18 : decode cX8_textRefusal 18 = .ok (.getfield 366, 3) := by decide +kernel
theorem dX8_textRefusal_21 : decode cX8_textRefusal 21 = .ok (.ifCond .ne 7, 3) := by decide +kernel
theorem dX8_textRefusal_24 : decode cX8_textRefusal 24 = .ok (.iconst 0, 1) := by decide +kernel
theorem dX8_textRefusal_25 : decode cX8_textRefusal 25 = .ok (.goto 5, 3) := by decide +kernel
theorem dX8_textRefusal_28 : decode cX8_textRefusal 28 = .ok (.bipush (-12), 2) := by decide +kernel
theorem dX8_textRefusal_30 : decode cX8_textRefusal 30 = .ok (.ireturn, 1) := by decide +kernel
def f_X8_textRefusal (x1 : Int32) (M : Mem) : Option Int32 := (f_X8_rowRefusal x1 M).bind fun q3 => if q3 = 0 then gd (inR x1 8) (if (mI M (253 + 7 + 3 * x1.toNatClampNeg) 4) = 0 then some (0 : Int32) else some (-12 : Int32)) else some q3
set_option maxRecDepth 100000 in
set_option maxHeartbeats 4000000 in
theorem c_X8_textRefusal (Z : Sys) {M : Mem} (hs : St M) (x1 : Int32) {q : Int32} (hf : f_X8_textRefusal x1 M = some q) : Ct Z yX8_textRefusal cX8_textRefusal 3 (some .int) rm_X8_textRefusal [.ref (zs Z + 0), .int x1] M False (PostI q M) := by
  refine Ct.of (by decide +kernel) (Nat.le_of_ble_eq_true rfl) (fun X hR hq _ => ?_)
  show G Z X Y_X8_textRefusal False 0 0 0 [(0, .ref (zs Z + 0)), (1, .int x1)] [] M
  replace hq : RetOk Z X (some .int) False (PostI q M) 0 0 := hq
  unfold f_X8_textRefusal at hf
  refine G.aload_n 0 0 dX8_textRefusal_0 rfl rfl ?_
  refine G.iload_n 1 1 dX8_textRefusal_1 rfl rfl ?_
  obtain ⟨q3, e4, hf⟩ := bd_e hf
  refine G.cvI 2 (As := [.int x1]) ck_8 (hs.k k0_0) (c_X8_rowRefusal Z hs x1 e4) mk_X8_rowRefusal vk_X8_rowRefusal rfl wd_878 hR (by decide +kernel) ⟨rfl, rfl⟩ rfl (Nat.le_of_ble_eq_true rfl) dX8_textRefusal_2 (fun hs1 => ?_)
  refine G.istore_n 5 [(2, .int q3), (0, .ref (zs Z + 0)), (1, .int x1)] dX8_textRefusal_5 rfl (Nat.le_of_ble_eq_true rfl) rfl ?_
  refine G.iload_n 6 0 dX8_textRefusal_6 rfl rfl ?_
  refine G.if_eq 7 12 dX8_textRefusal_7 (by decide) (fun h5 => ?_) (fun h5 => ?_)
  · replace hf := (if_pos h5).symm.trans hf
    refine G.aload_n 12 1 dX8_textRefusal_12 rfl rfl ?_
    refine G.getp 13 ck_8 4 253 (hs1.k k0_0) (pc_8_4 hs1) (by decide) (by decide +kernel) wd_404 dX8_textRefusal_13 ?_
    refine G.iload_n 16 2 dX8_textRefusal_16 rfl rfl ?_
    obtain ⟨g6, hf⟩ := gd_e hf
    refine G.aa 17 x1.toNatClampNeg (253 + 7 + 3 * x1.toNatClampNeg) (hs1.k k0_253) (by decide) rfl rfl g6 rfl (pa_14 hs1 k0_253 (inlt g6)).1 dX8_textRefusal_17 ?_
    refine G.geti 18 ck_6 4 (hs1.k (pa_14 hs1 k0_253 (inlt g6)).2) (by decide) (by decide +kernel) wd_380 dX8_textRefusal_18 ?_
    refine G.if_ne 21 28 dX8_textRefusal_21 (by decide) (fun h7 => ?_) (fun h7 => ?_)
    · replace hf := (if_neg h7).symm.trans hf
      refine G.bipush 28 (-12 : Int32) dX8_textRefusal_28 (by decide +kernel) ?_
      (have hf9 := Option.some.inj hf; subst hf9)
      exact G.rI 30 hq dX8_textRefusal_30 hs1
    · replace hf := (if_pos h7).symm.trans hf
      refine G.iconst 24 (0 : Int32) dX8_textRefusal_24 (by decide +kernel) ?_
      refine G.goto 25 30 dX8_textRefusal_25 (by decide) ?_
      (have hf9 := Option.some.inj hf; subst hf9)
      exact G.rI 30 hq dX8_textRefusal_30 hs1
  · replace hf := (if_neg h5).symm.trans hf
    refine G.iload_n 10 0 dX8_textRefusal_10 rfl rfl ?_
    (have hf9 := Option.some.inj hf; subst hf9)
    exact G.rI 11 hq dX8_textRefusal_11 hs1
abbrev Y_X8_fault : My := (cX8_fault, RX8, 4)
def rm_X8_fault : Room := { frames := 25, cells := 0, slots := 0, locals := 1106 }
theorem dX8_fault_0 : decode cX8_fault 0 = .ok (.aload_n 0, 1) := by decide +kernel
theorem dX8_fault_1 : decode cX8_fault 1 = .ok (.iload_n 1, 1) := by decide +kernel
theorem dX8_fault_2 : decode cX8_fault 2 = .ok (.invokevirtual 271, 3) := by decide +kernel
theorem dX8_fault_5 : decode cX8_fault 5 = .ok (.istore_n 2, 1) := by decide +kernel
theorem dX8_fault_6 : decode cX8_fault 6 = .ok (.iload_n 2, 1) := by decide +kernel
theorem dX8_fault_7 : decode cX8_fault 7 = .ok (.ifCond .eq 5, 3) := by decide +kernel
theorem dX8_fault_10 : decode cX8_fault 10 = .ok (.iload_n 2, 1) := by decide +kernel
theorem dX8_fault_11 : decode cX8_fault 11 = .ok (.ireturn, 1) := by decide +kernel
theorem dX8_fault_12 : decode cX8_fault 12 = .ok (.aload_n 0, 1) := by decide +kernel
theorem dX8_fault_13 : decode cX8_fault 13 = .ok (.getfield 45, 3) := by decide +kernel
theorem dX8_fault_16 : decode cX8_fault 16 = .ok (.aload_n 0, 1) := by decide +kernel
theorem dX8_fault_17 : decode cX8_fault 17 = .ok (.getfield 24, 3) := by decide +kernel
theorem dX8_fault_20 : decode cX8_fault 20 = .ok (.iload_n 1, 1) := by decide +kernel
theorem dX8_fault_21 : decode cX8_fault 21 = .ok (.aaload, 1) := by decide +kernel
theorem dX8_fault_22 : decode cX8_fault 22 = .ok (.getfield 139, 3) := by decide +kernel
theorem dX8_fault_25 : decode cX8_fault 25 = .ok (.aload_n 0, 1) := by decide +kernel
theorem dX8_fault_26 : decode cX8_fault 26 = .ok (.getfield 24, 3) := by decide +kernel
theorem dX8_fault_29 : decode cX8_fault 29 = .ok (.iload_n 1, 1) := by decide +kernel
theorem dX8_fault_30 : decode cX8_fault 30 = .ok (.aaload, 1) := by decide +kernel
theorem dX8_fault_31 : decode cX8_fault 31 = .ok (.getfield 274, 3) := by decide +kernel
theorem dX8_fault_34 : decode cX8_fault 34 = .ok (.invokevirtual 277, 3) := by decide +kernel
theorem dX8_fault_37 : decode cX8_fault 37 = .ok (.istore_n 3, 1) := by decide +kernel
theorem dX8_fault_38 : decode cX8_fault 38 = .ok (.iload_n 3, 1) := by decide +kernel
theorem dX8_fault_39 : decode cX8_fault 39 = .ok (.iconst (-1), 1) := by decide +kernel
theorem dX8_fault_40 : decode cX8_fault 40 = .ok (.if_icmp .ne 8, 3) := by decide +kernel
theorem dX8_fault_43 : decode cX8_fault 43 = .ok (.bipush (-4), 2) := by decide +kernel
theorem dX8_fault_45 : decode cX8_fault 45 = .ok (.goto 4, 3) := by decide +kernel
theorem dX8_fault_48 : decode cX8_fault 48 = .ok (.iload_n 3, 1) := by decide +kernel
theorem dX8_fault_49 : decode cX8_fault 49 = .ok (.ireturn, 1) := by decide +kernel
def f_X8_fault (x1 : Int32) (M : Mem) : Option (Int32 × Mem) := (f_X8_textRefusal x1 M).bind fun q3 => if q3 = 0 then gd (inR x1 8) ((f_X2_faultOf ((253 + 7 + 3 * x1.toNatClampNeg) + 2) (mI M (253 + 7 + 3 * x1.toNatClampNeg) 5) M).bind fun q9 => if q9.1 = (-1 : Int32) then some ((-4 : Int32), q9.2) else some (q9.1, q9.2)) else some (q3, M)
set_option maxRecDepth 100000 in
set_option maxHeartbeats 4000000 in
theorem c_X8_fault (Z : Sys) {M : Mem} (hs : St M) (x1 : Int32) {q : Int32 × Mem} (hf : f_X8_fault x1 M = some q) : Ct Z yX8_fault cX8_fault 4 (some .int) rm_X8_fault [.ref (zs Z + 0), .int x1] M False (PostI q.1 q.2) := by
  refine Ct.of (by decide +kernel) (Nat.le_of_ble_eq_true rfl) (fun X hR hq _ => ?_)
  show G Z X Y_X8_fault False 0 0 0 [(0, .ref (zs Z + 0)), (1, .int x1)] [] M
  replace hq : RetOk Z X (some .int) False (PostI q.1 q.2) 0 0 := hq
  unfold f_X8_fault at hf
  refine G.aload_n 0 0 dX8_fault_0 rfl rfl ?_
  refine G.iload_n 1 1 dX8_fault_1 rfl rfl ?_
  obtain ⟨q3, e4, hf⟩ := bd_e hf
  refine G.cvI 2 (As := [.int x1]) ck_8 (hs.k k0_0) (c_X8_textRefusal Z hs x1 e4) mk_X8_textRefusal vk_X8_textRefusal rfl wd_874 hR (by decide +kernel) ⟨rfl, rfl⟩ rfl (Nat.le_of_ble_eq_true rfl) dX8_fault_2 (fun hs1 => ?_)
  refine G.istore_n 5 [(2, .int q3), (0, .ref (zs Z + 0)), (1, .int x1)] dX8_fault_5 rfl (Nat.le_of_ble_eq_true rfl) rfl ?_
  refine G.iload_n 6 0 dX8_fault_6 rfl rfl ?_
  refine G.if_eq 7 12 dX8_fault_7 (by decide) (fun h5 => ?_) (fun h5 => ?_)
  · replace hf := (if_pos h5).symm.trans hf
    refine G.aload_n 12 1 dX8_fault_12 rfl rfl ?_
    refine G.getp 13 ck_8 7 259 (hs1.k k0_0) (pc_8_7 hs1) (by decide) (by decide +kernel) wd_407 dX8_fault_13 ?_
    refine G.aload_n 16 1 dX8_fault_16 rfl rfl ?_
    refine G.getp 17 ck_8 4 253 (hs1.k k0_0) (pc_8_4 hs1) (by decide) (by decide +kernel) wd_404 dX8_fault_17 ?_
    refine G.iload_n 20 2 dX8_fault_20 rfl rfl ?_
    obtain ⟨g6, hf⟩ := gd_e hf
    refine G.aa 21 x1.toNatClampNeg (253 + 7 + 3 * x1.toNatClampNeg) (hs1.k k0_253) (by decide) rfl rfl g6 rfl (pa_14 hs1 k0_253 (inlt g6)).1 dX8_fault_21 ?_
    refine G.getp 22 ck_6 6 ((253 + 7 + 3 * x1.toNatClampNeg) + 2) (hs1.k (pa_14 hs1 k0_253 (inlt g6)).2) (pt_6_6 hs1 (pa_14 hs1 k0_253 (inlt g6)).2).1 (by decide) (by decide +kernel) wd_384 dX8_fault_22 ?_
    refine G.aload_n 25 1 dX8_fault_25 rfl rfl ?_
    refine G.getp 26 ck_8 4 253 (hs1.k k0_0) (pc_8_4 hs1) (by decide) (by decide +kernel) wd_404 dX8_fault_26 ?_
    refine G.iload_n 29 2 dX8_fault_29 rfl rfl ?_
    refine G.aa 30 x1.toNatClampNeg (253 + 7 + 3 * x1.toNatClampNeg) (hs1.k k0_253) (by decide) rfl rfl g6 rfl (pa_14 hs1 k0_253 (inlt g6)).1 dX8_fault_30 ?_
    refine G.geti 31 ck_6 5 (hs1.k (pa_14 hs1 k0_253 (inlt g6)).2) (by decide) (by decide +kernel) wd_382 dX8_fault_31 ?_
    obtain ⟨q9, e10, hf⟩ := bd_e hf
    refine G.cvI 34 (As := [.ref (zs Z + ((253 + 7 + 3 * x1.toNatClampNeg) + 2)), .int (mI M (253 + 7 + 3 * x1.toNatClampNeg) 5)]) ck_2 (hs1.k k0_259) (c_X2_faultOf Z hs1 ((253 + 7 + 3 * x1.toNatClampNeg) + 2) (mI M (253 + 7 + 3 * x1.toNatClampNeg) 5) (ln_k (pt_6_6 hs1 (pa_14 hs1 k0_253 (inlt g6)).2).2) e10) mk_X2_faultOf vk_X2_faultOf rfl wd_882 hR (by decide +kernel) ⟨rfl, rfl⟩ rfl (Nat.le_of_ble_eq_true rfl) dX8_fault_34 (fun hs7 => ?_)
    refine G.istore_n 37 [(3, .int q9.1), (2, .int q3), (0, .ref (zs Z + 0)), (1, .int x1)] dX8_fault_37 rfl (Nat.le_of_ble_eq_true rfl) rfl ?_
    refine G.iload_n 38 0 dX8_fault_38 rfl rfl ?_
    refine G.iconst 39 (-1 : Int32) dX8_fault_39 (by decide +kernel) ?_
    refine G.icmp_ne 40 48 dX8_fault_40 (by decide) (fun h11 => ?_) (fun h11 => ?_)
    · replace hf := (if_neg h11).symm.trans hf
      refine G.iload_n 48 0 dX8_fault_48 rfl rfl ?_
      (have hf9 := Option.some.inj hf; subst hf9)
      exact G.rI 49 hq dX8_fault_49 hs7
    · replace hf := (if_pos h11).symm.trans hf
      refine G.bipush 43 (-4 : Int32) dX8_fault_43 (by decide +kernel) ?_
      refine G.goto 45 49 dX8_fault_45 (by decide) ?_
      (have hf9 := Option.some.inj hf; subst hf9)
      exact G.rI 49 hq dX8_fault_49 hs7
  · replace hf := (if_neg h5).symm.trans hf
    refine G.iload_n 10 0 dX8_fault_10 rfl rfl ?_
    (have hf9 := Option.some.inj hf; subst hf9)
    exact G.rI 11 hq dX8_fault_11 hs1
abbrev Y_X8_figures : My := (cX8_figures, RX8, 3)
def rm_X8_figures : Room := { frames := 4, cells := 0, slots := 0, locals := 269 }
theorem dX8_figures_0 : decode cX8_figures 0 = .ok (.iload_n 1, 1) := by decide +kernel
theorem dX8_figures_1 : decode cX8_figures 1 = .ok (.iconst 0, 1) := by decide +kernel
theorem dX8_figures_2 : decode cX8_figures 2 = .ok (.bipush 9, 2) := by decide +kernel
theorem dX8_figures_4 : decode cX8_figures 4 = .ok (.invokestatic 50, 3) := by decide +kernel
theorem dX8_figures_7 : decode cX8_figures 7 = .ok (.ifCond .eq 12, 3) := by decide +kernel
theorem dX8_figures_10 : decode cX8_figures 10 = .ok (.iload_n 2, 1) := by decide +kernel
theorem dX8_figures_11 : decode cX8_figures 11 = .ok (.iconst 0, 1) := by decide +kernel
theorem dX8_figures_12 : decode cX8_figures 12 = .ok (.iconst 1, 1) := by decide +kernel
theorem dX8_figures_13 : decode cX8_figures 13 = .ok (.invokestatic 50, 3) := by decide +kernel
theorem dX8_figures_16 : decode cX8_figures 16 = .ok (.ifCond .ne 5, 3) := by decide +kernel
theorem dX8_figures_19 : decode cX8_figures 19 = .ok (.iconst (-1), 1) := by decide +kernel
theorem dX8_figures_20 : decode cX8_figures 20 = .ok (.ireturn, 1) := by decide +kernel
theorem dX8_figures_21 : decode cX8_figures 21 = .ok (.aload_n 0, 1) := by decide +kernel
theorem dX8_figures_22 : decode cX8_figures 22 = .ok (.getfield 10, 3) := by decide +kernel
theorem dX8_figures_25 : decode cX8_figures 25 = .ok (.iload_n 1, 1) := by decide +kernel
theorem dX8_figures_26 : decode cX8_figures 26 = .ok (.iload_n 2, 1) := by decide +kernel
theorem dX8_figures_27 : decode cX8_figures 27 = .ok (.iconst 1, 1) := by decide +kernel
theorem dX8_figures_28 : decode cX8_figures 28 = .ok (.if_icmp .ne 7, 3) := by decide +kernel
theorem dX8_figures_31 : decode cX8_figures 31 = .ok (.iconst 1, 1) := by decide +kernel
theorem dX8_figures_32 : decode cX8_figures 32 = .ok (.goto 4, 3) := by decide +kernel
theorem dX8_figures_35 : decode cX8_figures 35 = .ok (.iconst 0, 1) := by decide +kernel
theorem dX8_figures_36 : decode cX8_figures 36 = .ok (.invokevirtual 145, 3) := by decide +kernel
theorem dX8_figures_39 : decode cX8_figures 39 = .ok (.ireturn, 1) := by decide +kernel
def f_X8_figures (x1 : Int32) (x2 : Int32) (M : Mem) : Option (Int32 × Mem) := if (f_X8_within x1 (0 : Int32) (9 : Int32)) = 0 then some ((-1 : Int32), M) else if (f_X8_within x2 (0 : Int32) (1 : Int32)) = 0 then some ((-1 : Int32), M) else if x2 = (1 : Int32) then (f_X0_figureCount 1 x1 (1 : Int32) M).bind fun q14 => some (q14.1, q14.2) else (f_X0_figureCount 1 x1 (0 : Int32) M).bind fun q10 => some (q10.1, q10.2)
set_option maxRecDepth 100000 in
set_option maxHeartbeats 4000000 in
theorem c_X8_figures (Z : Sys) {M : Mem} (hs : St M) (x1 : Int32) (x2 : Int32) {q : Int32 × Mem} (hf : f_X8_figures x1 x2 M = some q) : Ct Z yX8_figures cX8_figures 3 (some .int) rm_X8_figures [.ref (zs Z + 0), .int x1, .int x2] M False (PostI q.1 q.2) := by
  refine Ct.of (by decide +kernel) (Nat.le_of_ble_eq_true rfl) (fun X hR hq _ => ?_)
  show G Z X Y_X8_figures False 0 0 0 [(0, .ref (zs Z + 0)), (1, .int x1), (2, .int x2)] [] M
  replace hq : RetOk Z X (some .int) False (PostI q.1 q.2) 0 0 := hq
  unfold f_X8_figures at hf
  refine G.iload_n 0 1 dX8_figures_0 rfl rfl ?_
  refine G.iconst 1 (0 : Int32) dX8_figures_1 (by decide +kernel) ?_
  refine G.bipush 2 (9 : Int32) dX8_figures_2 (by decide +kernel) ?_
  refine G.csZ 4 (As := [.int x1, .int (0 : Int32), .int (9 : Int32)]) (c_X8_within Z hs x1 (0 : Int32) (9 : Int32) rfl) mk_X8_within wd_430 wd_429 hR (by decide +kernel) ⟨rfl, rfl⟩ rfl (Nat.le_of_ble_eq_true rfl) dX8_figures_4 (fun hs1 z2 => ?_)
  refine G.if_eq 7 19 dX8_figures_7 (by decide) (fun h3 => ?_) (fun h3 => ?_)
  · replace hf := (if_pos h3).symm.trans hf
    refine G.iconst 19 (-1 : Int32) dX8_figures_19 (by decide +kernel) ?_
    (have hf9 := Option.some.inj hf; subst hf9)
    exact G.rI 20 hq dX8_figures_20 hs1
  · replace hf := (if_neg h3).symm.trans hf
    refine G.iload_n 10 2 dX8_figures_10 rfl rfl ?_
    refine G.iconst 11 (0 : Int32) dX8_figures_11 (by decide +kernel) ?_
    refine G.iconst 12 (1 : Int32) dX8_figures_12 (by decide +kernel) ?_
    refine G.csZ 13 (As := [.int x2, .int (0 : Int32), .int (1 : Int32)]) (c_X8_within Z hs1 x2 (0 : Int32) (1 : Int32) rfl) mk_X8_within wd_430 wd_429 hR (by decide +kernel) ⟨rfl, rfl⟩ rfl (Nat.le_of_ble_eq_true rfl) dX8_figures_13 (fun hs4 z5 => ?_)
    refine G.if_ne 16 21 dX8_figures_16 (by decide) (fun h6 => ?_) (fun h6 => ?_)
    · replace hf := (if_neg h6).symm.trans hf
      refine G.aload_n 21 0 dX8_figures_21 rfl rfl ?_
      refine G.getp 22 ck_8 0 1 (hs4.k k0_0) (pc_8_0 hs4) (by decide) (by decide +kernel) wd_400 dX8_figures_22 ?_
      refine G.iload_n 25 1 dX8_figures_25 rfl rfl ?_
      refine G.iload_n 26 2 dX8_figures_26 rfl rfl ?_
      refine G.iconst 27 (1 : Int32) dX8_figures_27 (by decide +kernel) ?_
      refine G.icmp_ne 28 35 dX8_figures_28 (by decide) (fun h7 => ?_) (fun h7 => ?_)
      · replace hf := (if_neg h7).symm.trans hf
        refine G.iconst 35 (0 : Int32) dX8_figures_35 (by decide +kernel) ?_
        obtain ⟨q10, e11, hf⟩ := bd_e hf
        refine G.cvI 36 (As := [.int x1, .int (0 : Int32)]) ck_0 (hs4.k k0_1) (c_X0_figureCount Z hs4 1 x1 (0 : Int32) k0_1 e11) mk_X0_figureCount vk_X0_figureCount rfl wd_552 hR (by decide +kernel) ⟨rfl, rfl⟩ rfl (Nat.le_of_ble_eq_true rfl) dX8_figures_36 (fun hs8 => ?_)
        (have hf9 := Option.some.inj hf; subst hf9)
        exact G.rI 39 hq dX8_figures_39 hs8
      · replace hf := (if_pos h7).symm.trans hf
        refine G.iconst 31 (1 : Int32) dX8_figures_31 (by decide +kernel) ?_
        refine G.goto 32 36 dX8_figures_32 (by decide) ?_
        obtain ⟨q14, e15, hf⟩ := bd_e hf
        refine G.cvI 36 (As := [.int x1, .int (1 : Int32)]) ck_0 (hs4.k k0_1) (c_X0_figureCount Z hs4 1 x1 (1 : Int32) k0_1 e15) mk_X0_figureCount vk_X0_figureCount rfl wd_552 hR (by decide +kernel) ⟨rfl, rfl⟩ rfl (Nat.le_of_ble_eq_true rfl) dX8_figures_36 (fun hs12 => ?_)
        (have hf9 := Option.some.inj hf; subst hf9)
        exact G.rI 39 hq dX8_figures_39 hs12
    · replace hf := (if_pos h6).symm.trans hf
      refine G.iconst 19 (-1 : Int32) dX8_figures_19 (by decide +kernel) ?_
      (have hf9 := Option.some.inj hf; subst hf9)
      exact G.rI 20 hq dX8_figures_20 hs4
abbrev Y_X8_hall : My := (cX8_hall, RX8, 4)
def rm_X8_hall : Room := { frames := 3, cells := 0, slots := 0, locals := 246 }
theorem dX8_hall_0 : decode cX8_hall 0 = .ok (.iload_n 1, 1) := by decide +kernel
theorem dX8_hall_1 : decode cX8_hall 1 = .ok (.iconst 1, 1) := by decide +kernel
theorem dX8_hall_2 : decode cX8_hall 2 = .ok (.sipush 999, 3) := by decide +kernel
theorem dX8_hall_5 : decode cX8_hall 5 = .ok (.invokestatic 50, 3) := by decide +kernel
theorem dX8_hall_8 : decode cX8_hall 8 = .ok (.ifCond .eq 24, 3) := by decide +kernel
theorem dX8_hall_11 : decode cX8_hall 11 = .ok (.iload_n 2, 1) := by decide +kernel
theorem dX8_hall_12 : decode cX8_hall 12 = .ok (.iconst 0, 1) := by decide +kernel
theorem dX8_hall_13 : decode cX8_hall 13 = .ok (.sipush 1999, 3) := by decide +kernel
theorem dX8_hall_16 : decode cX8_hall 16 = .ok (.invokestatic 50, 3) := by decide +kernel
theorem dX8_hall_19 : decode cX8_hall 19 = .ok (.ifCond .eq 13, 3) := by decide +kernel
theorem dX8_hall_22 : decode cX8_hall 22 = .ok (.iload_n 3, 1) := by decide +kernel
theorem dX8_hall_23 : decode cX8_hall 23 = .ok (.iconst 0, 1) := by decide +kernel
theorem dX8_hall_24 : decode cX8_hall 24 = .ok (.bipush 100, 2) := by decide +kernel
theorem dX8_hall_26 : decode cX8_hall 26 = .ok (.invokestatic 50, 3) := by decide +kernel
theorem dX8_hall_29 : decode cX8_hall 29 = .ok (.ifCond .ne 5, 3) := by decide +kernel
theorem dX8_hall_32 : decode cX8_hall 32 = .ok (.iconst (-1), 1) := by decide +kernel
theorem dX8_hall_33 : decode cX8_hall 33 = .ok (.ireturn, 1) := by decide +kernel
theorem dX8_hall_34 : decode cX8_hall 34 = .ok (.iload_n 2, 1) := by decide +kernel
theorem dX8_hall_35 : decode cX8_hall 35 = .ok (.bipush 100, 2) := by decide +kernel
theorem dX8_hall_37 : decode cX8_hall 37 = .ok (.idiv, 1) := by decide +kernel
theorem dX8_hall_38 : decode cX8_hall 38 = .ok (.bipush 10, 2) := by decide +kernel
theorem dX8_hall_40 : decode cX8_hall 40 = .ok (.irem, 1) := by decide +kernel
theorem dX8_hall_41 : decode cX8_hall 41 = .ok (.bipush 6, 2) := by decide +kernel
theorem dX8_hall_43 : decode cX8_hall 43 = .ok (.if_icmp .ge 21, 3) := by decide +kernel
theorem dX8_hall_46 : decode cX8_hall 46 = .ok (.iload_n 2, 1) := by decide +kernel
theorem dX8_hall_47 : decode cX8_hall 47 = .ok (.bipush 10, 2) := by decide +kernel
theorem dX8_hall_49 : decode cX8_hall 49 = .ok (.idiv, 1) := by decide +kernel
theorem dX8_hall_50 : decode cX8_hall 50 = .ok (.bipush 10, 2) := by decide +kernel
theorem dX8_hall_52 : decode cX8_hall 52 = .ok (.irem, 1) := by decide +kernel
theorem dX8_hall_53 : decode cX8_hall 53 = .ok (.iconst 4, 1) := by decide +kernel
theorem dX8_hall_54 : decode cX8_hall 54 = .ok (.if_icmp .ge 10, 3) := by decide +kernel
theorem dX8_hall_57 : decode cX8_hall 57 = .ok (.iload_n 2, 1) := by decide +kernel
theorem dX8_hall_58 : decode cX8_hall 58 = .ok (.bipush 10, 2) := by decide +kernel
theorem dX8_hall_60 : decode cX8_hall 60 = .ok (.irem, 1) := by decide +kernel
theorem dX8_hall_61 : decode cX8_hall 61 = .ok (.ifCond .eq 5, 3) := by decide +kernel
theorem dX8_hall_64 : decode cX8_hall 64 = .ok (.iconst (-1), 1) := by decide +kernel
theorem dX8_hall_65 : decode cX8_hall 65 = .ok (.ireturn, 1) := by decide +kernel
theorem dX8_hall_66 : decode cX8_hall 66 = .ok (.aload_n 0, 1) := by decide +kernel
theorem dX8_hall_67 : decode cX8_hall 67 = .ok (.getfield 10, 3) := by decide +kernel
theorem dX8_hall_70 : decode cX8_hall 70 = .ok (.iload_n 1, 1) := by decide +kernel
theorem dX8_hall_71 : decode cX8_hall 71 = .ok (.iload_n 2, 1) := by decide +kernel
theorem dX8_hall_72 : decode cX8_hall 72 = .ok (.iload_n 3, 1) := by decide +kernel
theorem dX8_hall_73 : decode cX8_hall 73 = .ok (.invokevirtual 54, 3) := by decide +kernel
theorem dX8_hall_76 : decode cX8_hall 76 = .ok (.ireturn, 1) := by decide +kernel
def f_X8_hall (x1 : Int32) (x2 : Int32) (x3 : Int32) (M : Mem) : Option (Int32 × Mem) := if (f_X8_within x1 (1 : Int32) (999 : Int32)) = 0 then some ((-1 : Int32), M) else if (f_X8_within x2 (0 : Int32) (1999 : Int32)) = 0 then some ((-1 : Int32), M) else if (f_X8_within x3 (0 : Int32) (100 : Int32)) = 0 then some ((-1 : Int32), M) else if (6 : Int32) ≤ (jrem (x2 / (100 : Int32)) (10 : Int32)) then some ((-1 : Int32), M) else if (4 : Int32) ≤ (jrem (x2 / (10 : Int32)) (10 : Int32)) then some ((-1 : Int32), M) else if (jrem x2 (10 : Int32)) = 0 then (f_X0_addHall 1 x1 x2 x3 M).bind fun q15 => some (q15.1, q15.2) else some ((-1 : Int32), M)
set_option maxRecDepth 100000 in
set_option maxHeartbeats 4000000 in
theorem c_X8_hall (Z : Sys) {M : Mem} (hs : St M) (x1 : Int32) (x2 : Int32) (x3 : Int32) {q : Int32 × Mem} (hf : f_X8_hall x1 x2 x3 M = some q) : Ct Z yX8_hall cX8_hall 4 (some .int) rm_X8_hall [.ref (zs Z + 0), .int x1, .int x2, .int x3] M False (PostI q.1 q.2) := by
  refine Ct.of (by decide +kernel) (Nat.le_of_ble_eq_true rfl) (fun X hR hq _ => ?_)
  show G Z X Y_X8_hall False 0 0 0 [(0, .ref (zs Z + 0)), (1, .int x1), (2, .int x2), (3, .int x3)] [] M
  replace hq : RetOk Z X (some .int) False (PostI q.1 q.2) 0 0 := hq
  unfold f_X8_hall at hf
  refine G.iload_n 0 1 dX8_hall_0 rfl rfl ?_
  refine G.iconst 1 (1 : Int32) dX8_hall_1 (by decide +kernel) ?_
  refine G.sipush 2 (999 : Int32) dX8_hall_2 (by decide +kernel) ?_
  refine G.csZ 5 (As := [.int x1, .int (1 : Int32), .int (999 : Int32)]) (c_X8_within Z hs x1 (1 : Int32) (999 : Int32) rfl) mk_X8_within wd_430 wd_429 hR (by decide +kernel) ⟨rfl, rfl⟩ rfl (Nat.le_of_ble_eq_true rfl) dX8_hall_5 (fun hs1 z2 => ?_)
  refine G.if_eq 8 32 dX8_hall_8 (by decide) (fun h3 => ?_) (fun h3 => ?_)
  · replace hf := (if_pos h3).symm.trans hf
    refine G.iconst 32 (-1 : Int32) dX8_hall_32 (by decide +kernel) ?_
    (have hf9 := Option.some.inj hf; subst hf9)
    exact G.rI 33 hq dX8_hall_33 hs1
  · replace hf := (if_neg h3).symm.trans hf
    refine G.iload_n 11 2 dX8_hall_11 rfl rfl ?_
    refine G.iconst 12 (0 : Int32) dX8_hall_12 (by decide +kernel) ?_
    refine G.sipush 13 (1999 : Int32) dX8_hall_13 (by decide +kernel) ?_
    refine G.csZ 16 (As := [.int x2, .int (0 : Int32), .int (1999 : Int32)]) (c_X8_within Z hs1 x2 (0 : Int32) (1999 : Int32) rfl) mk_X8_within wd_430 wd_429 hR (by decide +kernel) ⟨rfl, rfl⟩ rfl (Nat.le_of_ble_eq_true rfl) dX8_hall_16 (fun hs4 z5 => ?_)
    refine G.if_eq 19 32 dX8_hall_19 (by decide) (fun h6 => ?_) (fun h6 => ?_)
    · replace hf := (if_pos h6).symm.trans hf
      refine G.iconst 32 (-1 : Int32) dX8_hall_32 (by decide +kernel) ?_
      (have hf9 := Option.some.inj hf; subst hf9)
      exact G.rI 33 hq dX8_hall_33 hs4
    · replace hf := (if_neg h6).symm.trans hf
      refine G.iload_n 22 3 dX8_hall_22 rfl rfl ?_
      refine G.iconst 23 (0 : Int32) dX8_hall_23 (by decide +kernel) ?_
      refine G.bipush 24 (100 : Int32) dX8_hall_24 (by decide +kernel) ?_
      refine G.csZ 26 (As := [.int x3, .int (0 : Int32), .int (100 : Int32)]) (c_X8_within Z hs4 x3 (0 : Int32) (100 : Int32) rfl) mk_X8_within wd_430 wd_429 hR (by decide +kernel) ⟨rfl, rfl⟩ rfl (Nat.le_of_ble_eq_true rfl) dX8_hall_26 (fun hs7 z8 => ?_)
      refine G.if_ne 29 34 dX8_hall_29 (by decide) (fun h9 => ?_) (fun h9 => ?_)
      · replace hf := (if_neg h9).symm.trans hf
        refine G.iload_n 34 2 dX8_hall_34 rfl rfl ?_
        refine G.bipush 35 (100 : Int32) dX8_hall_35 (by decide +kernel) ?_
        refine G.idiv 37 dX8_hall_37 (by decide +kernel) ?_
        refine G.bipush 38 (10 : Int32) dX8_hall_38 (by decide +kernel) ?_
        refine G.iremJ 40 dX8_hall_40 (by decide +kernel) ?_
        refine G.bipush 41 (6 : Int32) dX8_hall_41 (by decide +kernel) ?_
        refine G.icmp_ge 43 64 dX8_hall_43 (by decide) (fun h10 => ?_) (fun h10 => ?_)
        · replace hf := (if_pos h10).symm.trans hf
          refine G.iconst 64 (-1 : Int32) dX8_hall_64 (by decide +kernel) ?_
          (have hf9 := Option.some.inj hf; subst hf9)
          exact G.rI 65 hq dX8_hall_65 hs7
        · replace hf := (if_neg h10).symm.trans hf
          refine G.iload_n 46 2 dX8_hall_46 rfl rfl ?_
          refine G.bipush 47 (10 : Int32) dX8_hall_47 (by decide +kernel) ?_
          refine G.idiv 49 dX8_hall_49 (by decide +kernel) ?_
          refine G.bipush 50 (10 : Int32) dX8_hall_50 (by decide +kernel) ?_
          refine G.iremJ 52 dX8_hall_52 (by decide +kernel) ?_
          refine G.iconst 53 (4 : Int32) dX8_hall_53 (by decide +kernel) ?_
          refine G.icmp_ge 54 64 dX8_hall_54 (by decide) (fun h11 => ?_) (fun h11 => ?_)
          · replace hf := (if_pos h11).symm.trans hf
            refine G.iconst 64 (-1 : Int32) dX8_hall_64 (by decide +kernel) ?_
            (have hf9 := Option.some.inj hf; subst hf9)
            exact G.rI 65 hq dX8_hall_65 hs7
          · replace hf := (if_neg h11).symm.trans hf
            refine G.iload_n 57 2 dX8_hall_57 rfl rfl ?_
            refine G.bipush 58 (10 : Int32) dX8_hall_58 (by decide +kernel) ?_
            refine G.iremJ 60 dX8_hall_60 (by decide +kernel) ?_
            refine G.if_eq 61 66 dX8_hall_61 (by decide) (fun h12 => ?_) (fun h12 => ?_)
            · replace hf := (if_pos h12).symm.trans hf
              refine G.aload_n 66 0 dX8_hall_66 rfl rfl ?_
              refine G.getp 67 ck_8 0 1 (hs7.k k0_0) (pc_8_0 hs7) (by decide) (by decide +kernel) wd_400 dX8_hall_67 ?_
              refine G.iload_n 70 1 dX8_hall_70 rfl rfl ?_
              refine G.iload_n 71 2 dX8_hall_71 rfl rfl ?_
              refine G.iload_n 72 3 dX8_hall_72 rfl rfl ?_
              obtain ⟨q15, e16, hf⟩ := bd_e hf
              refine G.cvI 73 (As := [.int x1, .int x2, .int x3]) ck_0 (hs7.k k0_1) (c_X0_addHall Z hs7 1 x1 x2 x3 k0_1 e16) mk_X0_addHall vk_X0_addHall rfl wd_432 hR (by decide +kernel) ⟨rfl, rfl⟩ rfl (Nat.le_of_ble_eq_true rfl) dX8_hall_73 (fun hs13 => ?_)
              (have hf9 := Option.some.inj hf; subst hf9)
              exact G.rI 76 hq dX8_hall_76 hs13
            · replace hf := (if_neg h12).symm.trans hf
              refine G.iconst 64 (-1 : Int32) dX8_hall_64 (by decide +kernel) ?_
              (have hf9 := Option.some.inj hf; subst hf9)
              exact G.rI 65 hq dX8_hall_65 hs7
      · replace hf := (if_pos h9).symm.trans hf
        refine G.iconst 32 (-1 : Int32) dX8_hall_32 (by decide +kernel) ?_
        (have hf9 := Option.some.inj hf; subst hf9)
        exact G.rI 33 hq dX8_hall_33 hs7
abbrev Y_X8_hearOne : My := (cX8_hearOne, RX8, 5)
def rm_X8_hearOne : Room := { frames := 4, cells := 0, slots := 0, locals := 264 }
theorem dX8_hearOne_0 : decode cX8_hearOne 0 = .ok (.aload_n 1, 1) := by decide +kernel
theorem dX8_hearOne_1 : decode cX8_hearOne 1 = .ok (.iload_n 3, 1) := by decide +kernel
theorem dX8_hearOne_2 : decode cX8_hearOne 2 = .ok (.invokevirtual 136, 3) := by decide +kernel
theorem dX8_hearOne_5 : decode cX8_hearOne 5 = .ok (.ifCond .eq 47, 3) := by decide +kernel
theorem dX8_hearOne_8 : decode cX8_hearOne 8 = .ok (.aload_n 2, 1) := by decide +kernel
theorem dX8_hearOne_9 : decode cX8_hearOne 9 = .ok (.iload_n 3, 1) := by decide +kernel
theorem dX8_hearOne_10 : decode cX8_hearOne 10 = .ok (.invokevirtual 136, 3) := by decide +kernel
theorem dX8_hearOne_13 : decode cX8_hearOne 13 = .ok (.ifCond .eq 39, 3) := by decide +kernel
theorem dX8_hearOne_16 : decode cX8_hearOne 16 = .ok (.aload_n 1, 1) := by decide +kernel
theorem dX8_hearOne_17 : decode cX8_hearOne 17 = .ok (.getfield 139, 3) := by decide +kernel
theorem dX8_hearOne_20 : decode cX8_hearOne 20 = .ok (.iload_n 3, 1) := by decide +kernel
theorem dX8_hearOne_21 : decode cX8_hearOne 21 = .ok (.iaload, 1) := by decide +kernel
theorem dX8_hearOne_22 : decode cX8_hearOne 22 = .ok (.iconst 0, 1) := by decide +kernel
theorem dX8_hearOne_23 : decode cX8_hearOne 23 = .ok (.sipush 9999, 3) := by decide +kernel
theorem dX8_hearOne_26 : decode cX8_hearOne 26 = .ok (.invokestatic 142, 3) := by decide +kernel
theorem dX8_hearOne_29 : decode cX8_hearOne 29 = .ok (.istore 4, 2) := by decide +kernel
theorem dX8_hearOne_31 : decode cX8_hearOne 31 = .ok (.aload_n 0, 1) := by decide +kernel
theorem dX8_hearOne_32 : decode cX8_hearOne 32 = .ok (.iload 4, 2) := by decide +kernel
theorem dX8_hearOne_34 : decode cX8_hearOne 34 = .ok (.aload_n 2, 1) := by decide +kernel
theorem dX8_hearOne_35 : decode cX8_hearOne 35 = .ok (.getfield 139, 3) := by decide +kernel
theorem dX8_hearOne_38 : decode cX8_hearOne 38 = .ok (.iload_n 3, 1) := by decide +kernel
theorem dX8_hearOne_39 : decode cX8_hearOne 39 = .ok (.iaload, 1) := by decide +kernel
theorem dX8_hearOne_40 : decode cX8_hearOne 40 = .ok (.iconst 0, 1) := by decide +kernel
theorem dX8_hearOne_41 : decode cX8_hearOne 41 = .ok (.iload 4, 2) := by decide +kernel
theorem dX8_hearOne_43 : decode cX8_hearOne 43 = .ok (.invokestatic 142, 3) := by decide +kernel
theorem dX8_hearOne_46 : decode cX8_hearOne 46 = .ok (.invokevirtual 121, 3) := by decide +kernel
theorem dX8_hearOne_49 : decode cX8_hearOne 49 = .ok (.goto 8, 3) := by decide +kernel
theorem dX8_hearOne_52 : decode cX8_hearOne 52 = .ok (.aload_n 0, 1) := by decide +kernel
theorem dX8_hearOne_53 : decode cX8_hearOne 53 = .ok (.iconst 1, 1) := by decide +kernel
theorem dX8_hearOne_54 : decode cX8_hearOne 54 = .ok (.putfield 105, 3) := by decide +kernel
theorem dX8_hearOne_57 : decode cX8_hearOne 57 = .ok (.return_, 1) := by decide +kernel
def f_X8_hearOne (a0 : Nat) (a1 : Nat) (a2 : Nat) (x3 : Int32) (M : Mem) : Option Mem := (f_X6_tellsNumber a1 x3 M).bind fun q3 => if q3 = 0 then some (sI M a0 9 (1 : Int32)) else (f_X6_tellsNumber a2 x3 M).bind fun q8 => if q8 = 0 then some (sI M a0 9 (1 : Int32)) else gd (inR x3 80) ((f_X1_write a0 (f_X8_heldTo (mI M (a1 + 2) x3.toNatClampNeg) (0 : Int32) (9999 : Int32)) (f_X8_heldTo (mI M (a2 + 2) x3.toNatClampNeg) (0 : Int32) (f_X8_heldTo (mI M (a1 + 2) x3.toNatClampNeg) (0 : Int32) (9999 : Int32))) M).bind fun q18 => some q18)
set_option maxRecDepth 100000 in
set_option maxHeartbeats 4000000 in
theorem c_X8_hearOne (Z : Sys) {M : Mem} (hs : St M) (a0 : Nat) (a1 : Nat) (a2 : Nat) (x3 : Int32) (k_a0 : K0[a0]? = some (1, 12)) (k_a1 : K0[a1]? = some (6, 7)) (k_a2 : K0[a2]? = some (6, 7)) {q : Mem} (hf : f_X8_hearOne a0 a1 a2 x3 M = some q) : Ct Z yX8_hearOne cX8_hearOne 5 none rm_X8_hearOne [.ref (zs Z + a0), .ref (zs Z + a1), .ref (zs Z + a2), .int x3] M False (PostV q) := by
  refine Ct.of (by decide +kernel) (Nat.le_of_ble_eq_true rfl) (fun X hR hq _ => ?_)
  show G Z X Y_X8_hearOne False 0 0 0 [(0, .ref (zs Z + a0)), (1, .ref (zs Z + a1)), (2, .ref (zs Z + a2)), (3, .int x3)] [] M
  replace hq : RetOk Z X none False (PostV q) 0 0 := hq
  unfold f_X8_hearOne at hf
  refine G.aload_n 0 1 dX8_hearOne_0 rfl rfl ?_
  refine G.iload_n 1 3 dX8_hearOne_1 rfl rfl ?_
  obtain ⟨q3, e4, hf⟩ := bd_e hf
  refine G.cvZ 2 (As := [.int x3]) ck_6 (hs.k k_a1) (c_X6_tellsNumber Z hs a1 x3 k_a1 e4) mk_X6_tellsNumber vk_X6_tellsNumber rfl wd_527 hR (by decide +kernel) ⟨rfl, rfl⟩ rfl (Nat.le_of_ble_eq_true rfl) dX8_hearOne_2 (fun hs1 z2 => ?_)
  refine G.if_eq 5 52 dX8_hearOne_5 (by decide) (fun h5 => ?_) (fun h5 => ?_)
  · replace hf := (if_pos h5).symm.trans hf
    refine G.aload_n 52 0 dX8_hearOne_52 rfl rfl ?_
    refine G.iconst 53 (1 : Int32) dX8_hearOne_53 (by decide +kernel) ?_
    refine G.puti 54 ck_1 9 (hs1.k k_a0) (by decide) (by decide +kernel) rfl wd_221 rfl rfl dX8_hearOne_54 ?_
    (have hf9 := Option.some.inj hf; subst hf9)
    exact G.rV 57 hq dX8_hearOne_57 (St.i hs1)
  · replace hf := (if_neg h5).symm.trans hf
    refine G.aload_n 8 2 dX8_hearOne_8 rfl rfl ?_
    refine G.iload_n 9 3 dX8_hearOne_9 rfl rfl ?_
    obtain ⟨q8, e9, hf⟩ := bd_e hf
    refine G.cvZ 10 (As := [.int x3]) ck_6 (hs1.k k_a2) (c_X6_tellsNumber Z hs1 a2 x3 k_a2 e9) mk_X6_tellsNumber vk_X6_tellsNumber rfl wd_527 hR (by decide +kernel) ⟨rfl, rfl⟩ rfl (Nat.le_of_ble_eq_true rfl) dX8_hearOne_10 (fun hs6 z7 => ?_)
    refine G.if_eq 13 52 dX8_hearOne_13 (by decide) (fun h10 => ?_) (fun h10 => ?_)
    · replace hf := (if_pos h10).symm.trans hf
      refine G.aload_n 52 0 dX8_hearOne_52 rfl rfl ?_
      refine G.iconst 53 (1 : Int32) dX8_hearOne_53 (by decide +kernel) ?_
      refine G.puti 54 ck_1 9 (hs6.k k_a0) (by decide) (by decide +kernel) rfl wd_221 rfl rfl dX8_hearOne_54 ?_
      (have hf9 := Option.some.inj hf; subst hf9)
      exact G.rV 57 hq dX8_hearOne_57 (St.i hs6)
    · replace hf := (if_neg h10).symm.trans hf
      refine G.aload_n 16 1 dX8_hearOne_16 rfl rfl ?_
      refine G.getp 17 ck_6 6 (a1 + 2) (hs6.k k_a1) (pt_6_6 hs6 k_a1).1 (by decide) (by decide +kernel) wd_384 dX8_hearOne_17 ?_
      refine G.iload_n 20 3 dX8_hearOne_20 rfl rfl ?_
      obtain ⟨g11, hf⟩ := gd_e hf
      refine G.ia 21 x3.toNatClampNeg (hs6.k (pt_6_6 hs6 k_a1).2) g11 rfl dX8_hearOne_21 ?_
      refine G.iconst 22 (0 : Int32) dX8_hearOne_22 (by decide +kernel) ?_
      refine G.sipush 23 (9999 : Int32) dX8_hearOne_23 (by decide +kernel) ?_
      refine G.csI 26 (As := [.int (mI M (a1 + 2) x3.toNatClampNeg), .int (0 : Int32), .int (9999 : Int32)]) (c_X8_heldTo Z hs6 (mI M (a1 + 2) x3.toNatClampNeg) (0 : Int32) (9999 : Int32) rfl) mk_X8_heldTo wd_542 wd_541 hR (by decide +kernel) ⟨rfl, rfl⟩ rfl (Nat.le_of_ble_eq_true rfl) dX8_hearOne_26 (fun hs12 => ?_)
      refine G.istore 29 [(4, .int (f_X8_heldTo (mI M (a1 + 2) x3.toNatClampNeg) (0 : Int32) (9999 : Int32))), (0, .ref (zs Z + a0)), (1, .ref (zs Z + a1)), (2, .ref (zs Z + a2)), (3, .int x3)] dX8_hearOne_29 (Nat.le_of_ble_eq_true rfl) rfl ?_
      refine G.aload_n 31 1 dX8_hearOne_31 rfl rfl ?_
      refine G.iload 32 0 dX8_hearOne_32 rfl ?_
      refine G.aload_n 34 3 dX8_hearOne_34 rfl rfl ?_
      refine G.getp 35 ck_6 6 (a2 + 2) (hs12.k k_a2) (pt_6_6 hs12 k_a2).1 (by decide) (by decide +kernel) wd_384 dX8_hearOne_35 ?_
      refine G.iload_n 38 4 dX8_hearOne_38 rfl rfl ?_
      refine G.ia 39 x3.toNatClampNeg (hs12.k (pt_6_6 hs12 k_a2).2) g11 rfl dX8_hearOne_39 ?_
      refine G.iconst 40 (0 : Int32) dX8_hearOne_40 (by decide +kernel) ?_
      refine G.iload 41 0 dX8_hearOne_41 rfl ?_
      refine G.csI 43 (As := [.int (mI M (a2 + 2) x3.toNatClampNeg), .int (0 : Int32), .int (f_X8_heldTo (mI M (a1 + 2) x3.toNatClampNeg) (0 : Int32) (9999 : Int32))]) (c_X8_heldTo Z hs12 (mI M (a2 + 2) x3.toNatClampNeg) (0 : Int32) (f_X8_heldTo (mI M (a1 + 2) x3.toNatClampNeg) (0 : Int32) (9999 : Int32)) rfl) mk_X8_heldTo wd_542 wd_541 hR (by decide +kernel) ⟨rfl, rfl⟩ rfl (Nat.le_of_ble_eq_true rfl) dX8_hearOne_43 (fun hs14 => ?_)
      obtain ⟨q18, e19, hf⟩ := bd_e hf
      refine G.cvV 46 (As := [.int (f_X8_heldTo (mI M (a1 + 2) x3.toNatClampNeg) (0 : Int32) (9999 : Int32)), .int (f_X8_heldTo (mI M (a2 + 2) x3.toNatClampNeg) (0 : Int32) (f_X8_heldTo (mI M (a1 + 2) x3.toNatClampNeg) (0 : Int32) (9999 : Int32)))]) ck_1 (hs14.k k_a0) (c_X1_write Z hs14 a0 (f_X8_heldTo (mI M (a1 + 2) x3.toNatClampNeg) (0 : Int32) (9999 : Int32)) (f_X8_heldTo (mI M (a2 + 2) x3.toNatClampNeg) (0 : Int32) (f_X8_heldTo (mI M (a1 + 2) x3.toNatClampNeg) (0 : Int32) (9999 : Int32))) k_a0 e19) mk_X1_write vk_X1_write rfl wd_505 hR (by decide +kernel) ⟨rfl, rfl⟩ rfl (Nat.le_of_ble_eq_true rfl) dX8_hearOne_46 (fun hs16 => ?_)
      refine G.goto 49 57 dX8_hearOne_49 (by decide) ?_
      (have hf9 := Option.some.inj hf; subst hf9)
      exact G.rV 57 hq dX8_hearOne_57 hs16
abbrev Y_X8_hear : My := (cX8_hear, RX8, 5)
def rm_X8_hear : Room := { frames := 5, cells := 0, slots := 0, locals := 288 }
theorem dX8_hear_0 : decode cX8_hear 0 = .ok (.aload_n 0, 1) := by decide +kernel
theorem dX8_hear_1 : decode cX8_hear 1 = .ok (.iload_n 1, 1) := by decide +kernel
theorem dX8_hear_2 : decode cX8_hear 2 = .ok (.iload_n 2, 1) := by decide +kernel
theorem dX8_hear_3 : decode cX8_hear 3 = .ok (.invokevirtual 128, 3) := by decide +kernel
theorem dX8_hear_6 : decode cX8_hear 6 = .ok (.istore_n 3, 1) := by decide +kernel
theorem dX8_hear_7 : decode cX8_hear 7 = .ok (.iload_n 3, 1) := by decide +kernel
theorem dX8_hear_8 : decode cX8_hear 8 = .ok (.ifCond .eq 5, 3) := by decide +kernel
theorem dX8_hear_11 : decode cX8_hear 11 = .ok (.iload_n 3, 1) := by decide +kernel
theorem dX8_hear_12 : decode cX8_hear 12 = .ok (.ireturn, 1) := by decide +kernel
theorem dX8_hear_13 : decode cX8_hear 13 = .ok (.iconst 0, 1) := by decide +kernel
theorem dX8_hear_14 : decode cX8_hear 14 = .ok (.istore 4, 2) := by decide +kernel
theorem dX8_hear_16 : decode cX8_hear 16 = .ok (.iload 4, 2) := by decide +kernel
theorem dX8_hear_18 : decode cX8_hear 18 = .ok (.aload_n 0, 1) := by decide +kernel
theorem dX8_hear_19 : decode cX8_hear 19 = .ok (.getfield 10, 3) := by decide +kernel
theorem dX8_hear_22 : decode cX8_hear 22 = .ok (.getfield 118, 3) := by decide +kernel
theorem dX8_hear_25 : decode cX8_hear 25 = .ok (.if_icmp .ge 36, 3) := by decide +kernel
theorem dX8_hear_28 : decode cX8_hear 28 = .ok (.aload_n 0, 1) := by decide +kernel
theorem dX8_hear_29 : decode cX8_hear 29 = .ok (.getfield 10, 3) := by decide +kernel
theorem dX8_hear_32 : decode cX8_hear 32 = .ok (.getfield 62, 3) := by decide +kernel
theorem dX8_hear_35 : decode cX8_hear 35 = .ok (.iload 4, 2) := by decide +kernel
theorem dX8_hear_37 : decode cX8_hear 37 = .ok (.aaload, 1) := by decide +kernel
theorem dX8_hear_38 : decode cX8_hear 38 = .ok (.aload_n 0, 1) := by decide +kernel
theorem dX8_hear_39 : decode cX8_hear 39 = .ok (.getfield 24, 3) := by decide +kernel
theorem dX8_hear_42 : decode cX8_hear 42 = .ok (.iload_n 1, 1) := by decide +kernel
theorem dX8_hear_43 : decode cX8_hear 43 = .ok (.aaload, 1) := by decide +kernel
theorem dX8_hear_44 : decode cX8_hear 44 = .ok (.aload_n 0, 1) := by decide +kernel
theorem dX8_hear_45 : decode cX8_hear 45 = .ok (.getfield 24, 3) := by decide +kernel
theorem dX8_hear_48 : decode cX8_hear 48 = .ok (.iload_n 2, 1) := by decide +kernel
theorem dX8_hear_49 : decode cX8_hear 49 = .ok (.aaload, 1) := by decide +kernel
theorem dX8_hear_50 : decode cX8_hear 50 = .ok (.iload 4, 2) := by decide +kernel
theorem dX8_hear_52 : decode cX8_hear 52 = .ok (.invokestatic 132, 3) := by decide +kernel
theorem dX8_hear_55 : decode cX8_hear 55 = .ok (.iinc 4 1, 3) := by decide +kernel
theorem dX8_hear_58 : decode cX8_hear 58 = .ok (.goto (-42), 3) := by decide +kernel
theorem dX8_hear_61 : decode cX8_hear 61 = .ok (.aload_n 0, 1) := by decide +kernel
theorem dX8_hear_62 : decode cX8_hear 62 = .ok (.getfield 10, 3) := by decide +kernel
theorem dX8_hear_65 : decode cX8_hear 65 = .ok (.invokevirtual 125, 3) := by decide +kernel
theorem dX8_hear_68 : decode cX8_hear 68 = .ok (.ireturn, 1) := by decide +kernel
def B_X8_hear_61 (M : Mem) : Option (Int32 × Mem) := (f_X0_writtenCount 1 M).bind fun q9 => some (q9, M)
def L_X8_hear_16 : Nat → Int32 → Int32 → Int32 → Mem → Option (Int32 × Mem)
  | 0, _, _, _, _ => none
  | n + 1, x1, x2, x4, M => if (mI M 1 1) ≤ x4 then B_X8_hear_61 M else gd (inR x4 30) (gd (inR x1 8) (gd (inR x2 8) ((f_X8_hearOne (2 + 23 + 2 * x4.toNatClampNeg) (253 + 7 + 3 * x1.toNatClampNeg) (253 + 7 + 3 * x2.toNatClampNeg) x4 M).bind fun q16 => L_X8_hear_16 n x1 x2 (x4 + 1) q16)))
def f_X8_hear (x1 : Int32) (x2 : Int32) (M : Mem) : Option (Int32 × Mem) := (f_X8_rowsRefusal x1 x2 M).bind fun q3 => if q3 = 0 then L_X8_hear_16 FU x1 x2 (0 : Int32) M else some (q3, M)
set_option maxRecDepth 100000 in
set_option maxHeartbeats 4000000 in
theorem b_X8_hear_61 (Z : Sys) (X : Cx) (hR : xR X = rm_X8_hear) {q : Int32 × Mem} (hq : RetOk Z X (some .int) False (PostI q.1 q.2) 0 0) {M : Mem} (hs : St M) (hf : B_X8_hear_61 M = some q) : G Z X Y_X8_hear False 0 0 61 [(0, .ref (zs Z + 0))] [] M := by
  unfold B_X8_hear_61 at hf
  refine G.aload_n 61 0 dX8_hear_61 rfl rfl ?_
  refine G.getp 62 ck_8 0 1 (hs.k k0_0) (pc_8_0 hs) (by decide) (by decide +kernel) wd_400 dX8_hear_62 ?_
  obtain ⟨q9, e10, hf⟩ := bd_e hf
  refine G.cvI 65 (As := []) ck_0 (hs.k k0_1) (c_X0_writtenCount Z hs 1 k0_1 e10) mk_X0_writtenCount vk_X0_writtenCount rfl wd_509 hR (by decide +kernel) ⟨rfl, rfl⟩ rfl (Nat.le_of_ble_eq_true rfl) dX8_hear_65 (fun hs7 => ?_)
  (have hf9 := Option.some.inj hf; subst hf9)
  exact G.rI 68 hq dX8_hear_68 hs7
set_option maxRecDepth 100000 in
set_option maxHeartbeats 4000000 in
theorem l_X8_hear_16 (Z : Sys) (X : Cx) (hR : xR X = rm_X8_hear) {q : Int32 × Mem} (hq : RetOk Z X (some .int) False (PostI q.1 q.2) 0 0) : ∀ (n : Nat) (x1 : Int32) (x2 : Int32) (x4 : Int32) (M : Mem) (hs : St M) (hf : L_X8_hear_16 n x1 x2 x4 M = some q), G Z X Y_X8_hear False 0 0 16 [(0, .ref (zs Z + 0)), (1, .int x1), (2, .int x2), (4, .int x4)] [] M := by
  intro n
  induction n with
  | zero => intro x1 x2 x4 M hs  hf; cases hf
  | succ n ih =>
    intro x1 x2 x4 M hs  hf
    unfold L_X8_hear_16 at hf
    refine G.iload 16 3 dX8_hear_16 rfl ?_
    refine G.aload_n 18 0 dX8_hear_18 rfl rfl ?_
    refine G.getp 19 ck_8 0 1 (hs.k k0_0) (pc_8_0 hs) (by decide) (by decide +kernel) wd_400 dX8_hear_19 ?_
    refine G.geti 22 ck_0 1 (hs.k k0_1) (by decide) (by decide +kernel) wd_264 dX8_hear_22 ?_
    refine G.icmp_ge 25 61 dX8_hear_25 (by decide) (fun h6 => ?_) (fun h6 => ?_)
    · replace hf := (if_pos h6).symm.trans hf
      refine G.locs [0] rfl ?_
      exact b_X8_hear_61 Z X hR hq hs hf
    · replace hf := (if_neg h6).symm.trans hf
      refine G.aload_n 28 0 dX8_hear_28 rfl rfl ?_
      refine G.getp 29 ck_8 0 1 (hs.k k0_0) (pc_8_0 hs) (by decide) (by decide +kernel) wd_400 dX8_hear_29 ?_
      refine G.getp 32 ck_0 0 2 (hs.k k0_1) (pt_0_0 hs k0_1).1 (by decide) (by decide +kernel) wd_260 dX8_hear_32 ?_
      refine G.iload 35 3 dX8_hear_35 rfl ?_
      obtain ⟨g11, hf⟩ := gd_e hf
      refine G.aa 37 x4.toNatClampNeg (2 + 23 + 2 * x4.toNatClampNeg) (hs.k k0_2) (by decide) rfl rfl g11 rfl (pa_13 hs k0_2 (inlt g11)).1 dX8_hear_37 ?_
      refine G.aload_n 38 0 dX8_hear_38 rfl rfl ?_
      refine G.getp 39 ck_8 4 253 (hs.k k0_0) (pc_8_4 hs) (by decide) (by decide +kernel) wd_404 dX8_hear_39 ?_
      refine G.iload_n 42 1 dX8_hear_42 rfl rfl ?_
      obtain ⟨g12, hf⟩ := gd_e hf
      refine G.aa 43 x1.toNatClampNeg (253 + 7 + 3 * x1.toNatClampNeg) (hs.k k0_253) (by decide) rfl rfl g12 rfl (pa_14 hs k0_253 (inlt g12)).1 dX8_hear_43 ?_
      refine G.aload_n 44 0 dX8_hear_44 rfl rfl ?_
      refine G.getp 45 ck_8 4 253 (hs.k k0_0) (pc_8_4 hs) (by decide) (by decide +kernel) wd_404 dX8_hear_45 ?_
      refine G.iload_n 48 2 dX8_hear_48 rfl rfl ?_
      obtain ⟨g13, hf⟩ := gd_e hf
      refine G.aa 49 x2.toNatClampNeg (253 + 7 + 3 * x2.toNatClampNeg) (hs.k k0_253) (by decide) rfl rfl g13 rfl (pa_14 hs k0_253 (inlt g13)).1 dX8_hear_49 ?_
      refine G.iload 50 3 dX8_hear_50 rfl ?_
      obtain ⟨q16, e17, hf⟩ := bd_e hf
      refine G.csV 52 (As := [.ref (zs Z + (2 + 23 + 2 * x4.toNatClampNeg)), .ref (zs Z + (253 + 7 + 3 * x1.toNatClampNeg)), .ref (zs Z + (253 + 7 + 3 * x2.toNatClampNeg)), .int x4]) (c_X8_hearOne Z hs (2 + 23 + 2 * x4.toNatClampNeg) (253 + 7 + 3 * x1.toNatClampNeg) (253 + 7 + 3 * x2.toNatClampNeg) x4 (pa_13 hs k0_2 (inlt g11)).2 (pa_14 hs k0_253 (inlt g12)).2 (pa_14 hs k0_253 (inlt g13)).2 e17) mk_X8_hearOne wd_525 wd_524 hR (by decide +kernel) ⟨rfl, rfl⟩ rfl (Nat.le_of_ble_eq_true rfl) dX8_hear_52 (fun hs14 => ?_)
      refine G.iinc 55 3 (x4 + 1) [(4, .int (x4 + 1)), (0, .ref (zs Z + 0)), (1, .int x1), (2, .int x2)] dX8_hear_55 rfl (congrArg (fun z => x4 + z) (by decide +kernel)) (Nat.le_of_ble_eq_true rfl) rfl ?_
      refine G.goto 58 16 dX8_hear_58 (by decide) ?_
      refine G.locs [1, 2, 3, 0] rfl ?_
      exact ih x1 x2 (x4 + 1) q16 hs14 hf
set_option maxRecDepth 100000 in
set_option maxHeartbeats 4000000 in
theorem c_X8_hear (Z : Sys) {M : Mem} (hs : St M) (x1 : Int32) (x2 : Int32) {q : Int32 × Mem} (hf : f_X8_hear x1 x2 M = some q) : Ct Z yX8_hear cX8_hear 5 (some .int) rm_X8_hear [.ref (zs Z + 0), .int x1, .int x2] M False (PostI q.1 q.2) := by
  refine Ct.of (by decide +kernel) (Nat.le_of_ble_eq_true rfl) (fun X hR hq _ => ?_)
  show G Z X Y_X8_hear False 0 0 0 [(0, .ref (zs Z + 0)), (1, .int x1), (2, .int x2)] [] M
  replace hq : RetOk Z X (some .int) False (PostI q.1 q.2) 0 0 := hq
  unfold f_X8_hear at hf
  refine G.aload_n 0 0 dX8_hear_0 rfl rfl ?_
  refine G.iload_n 1 1 dX8_hear_1 rfl rfl ?_
  refine G.iload_n 2 2 dX8_hear_2 rfl rfl ?_
  obtain ⟨q3, e4, hf⟩ := bd_e hf
  refine G.cvI 3 (As := [.int x1, .int x2]) ck_8 (hs.k k0_0) (c_X8_rowsRefusal Z hs x1 x2 e4) mk_X8_rowsRefusal vk_X8_rowsRefusal rfl wd_517 hR (by decide +kernel) ⟨rfl, rfl⟩ rfl (Nat.le_of_ble_eq_true rfl) dX8_hear_3 (fun hs1 => ?_)
  refine G.istore_n 6 [(3, .int q3), (0, .ref (zs Z + 0)), (1, .int x1), (2, .int x2)] dX8_hear_6 rfl (Nat.le_of_ble_eq_true rfl) rfl ?_
  refine G.iload_n 7 0 dX8_hear_7 rfl rfl ?_
  refine G.if_eq 8 13 dX8_hear_8 (by decide) (fun h5 => ?_) (fun h5 => ?_)
  · replace hf := (if_pos h5).symm.trans hf
    refine G.iconst 13 (0 : Int32) dX8_hear_13 (by decide +kernel) ?_
    refine G.istore 14 [(4, .int (0 : Int32)), (3, .int q3), (0, .ref (zs Z + 0)), (1, .int x1), (2, .int x2)] dX8_hear_14 (Nat.le_of_ble_eq_true rfl) rfl ?_
    refine G.locs [2, 3, 4, 0] rfl ?_
    exact l_X8_hear_16 Z X hR hq FU x1 x2 (0 : Int32) M hs1 hf
  · replace hf := (if_neg h5).symm.trans hf
    refine G.iload_n 11 0 dX8_hear_11 rfl rfl ?_
    (have hf9 := Option.some.inj hf; subst hf9)
    exact G.rI 12 hq dX8_hear_12 hs1
abbrev Y_X8_helped : My := (cX8_helped, RX8, 1)
def rm_X8_helped : Room := { frames := 4, cells := 0, slots := 0, locals := 266 }
theorem dX8_helped_0 : decode cX8_helped 0 = .ok (.aload_n 0, 1) := by decide +kernel
theorem dX8_helped_1 : decode cX8_helped 1 = .ok (.getfield 10, 3) := by decide +kernel
theorem dX8_helped_4 : decode cX8_helped 4 = .ok (.invokevirtual 228, 3) := by decide +kernel
theorem dX8_helped_7 : decode cX8_helped 7 = .ok (.aload_n 0, 1) := by decide +kernel
theorem dX8_helped_8 : decode cX8_helped 8 = .ok (.getfield 10, 3) := by decide +kernel
theorem dX8_helped_11 : decode cX8_helped 11 = .ok (.invokevirtual 231, 3) := by decide +kernel
theorem dX8_helped_14 : decode cX8_helped 14 = .ok (.isub, 1) := by decide +kernel
theorem dX8_helped_15 : decode cX8_helped 15 = .ok (.ireturn, 1) := by decide +kernel
def f_X8_helped (M : Mem) : Option Int32 := (f_X0_sentMargin 1 M).bind fun q3 => (f_X0_writtenMargin 1 M).bind fun q7 => some (q3 - q7)
set_option maxRecDepth 100000 in
set_option maxHeartbeats 4000000 in
theorem c_X8_helped (Z : Sys) {M : Mem} (hs : St M) {q : Int32} (hf : f_X8_helped M = some q) : Ct Z yX8_helped cX8_helped 1 (some .int) rm_X8_helped [.ref (zs Z + 0)] M False (PostI q M) := by
  refine Ct.of (by decide +kernel) (Nat.le_of_ble_eq_true rfl) (fun X hR hq _ => ?_)
  show G Z X Y_X8_helped False 0 0 0 [(0, .ref (zs Z + 0))] [] M
  replace hq : RetOk Z X (some .int) False (PostI q M) 0 0 := hq
  unfold f_X8_helped at hf
  refine G.aload_n 0 0 dX8_helped_0 rfl rfl ?_
  refine G.getp 1 ck_8 0 1 (hs.k k0_0) (pc_8_0 hs) (by decide) (by decide +kernel) wd_400 dX8_helped_1 ?_
  obtain ⟨q3, e4, hf⟩ := bd_e hf
  refine G.cvI 4 (As := []) ck_0 (hs.k k0_1) (c_X0_sentMargin Z hs 1 k0_1 e4) mk_X0_sentMargin vk_X0_sentMargin rfl wd_720 hR (by decide +kernel) ⟨rfl, rfl⟩ rfl (Nat.le_of_ble_eq_true rfl) dX8_helped_4 (fun hs1 => ?_)
  refine G.aload_n 7 0 dX8_helped_7 rfl rfl ?_
  refine G.getp 8 ck_8 0 1 (hs1.k k0_0) (pc_8_0 hs1) (by decide) (by decide +kernel) wd_400 dX8_helped_8 ?_
  obtain ⟨q7, e8, hf⟩ := bd_e hf
  refine G.cvI 11 (As := []) ck_0 (hs1.k k0_1) (c_X0_writtenMargin Z hs1 1 k0_1 e8) mk_X0_writtenMargin vk_X0_writtenMargin rfl wd_730 hR (by decide +kernel) ⟨rfl, rfl⟩ rfl (Nat.le_of_ble_eq_true rfl) dX8_helped_11 (fun hs5 => ?_)
  refine G.isub 14 dX8_helped_14 ?_
  (have hf9 := Option.some.inj hf; subst hf9)
  exact G.rI 15 hq dX8_helped_15 hs5
abbrev Y_X8_image : My := (cX8_image, RX8, 1)
def rm_X8_image : Room := { frames := 4, cells := 0, slots := 0, locals := 264 }
theorem dX8_image_0 : decode cX8_image 0 = .ok (.aload_n 0, 1) := by decide +kernel
theorem dX8_image_1 : decode cX8_image 1 = .ok (.getfield 16, 3) := by decide +kernel
theorem dX8_image_4 : decode cX8_image 4 = .ok (.aload_n 0, 1) := by decide +kernel
theorem dX8_image_5 : decode cX8_image 5 = .ok (.getfield 10, 3) := by decide +kernel
theorem dX8_image_8 : decode cX8_image 8 = .ok (.invokevirtual 262, 3) := by decide +kernel
theorem dX8_image_11 : decode cX8_image 11 = .ok (.aload_n 0, 1) := by decide +kernel
theorem dX8_image_12 : decode cX8_image 12 = .ok (.iconst 1, 1) := by decide +kernel
theorem dX8_image_13 : decode cX8_image 13 = .ok (.putfield 293, 3) := by decide +kernel
theorem dX8_image_16 : decode cX8_image 16 = .ok (.aload_n 0, 1) := by decide +kernel
theorem dX8_image_17 : decode cX8_image 17 = .ok (.getfield 10, 3) := by decide +kernel
theorem dX8_image_20 : decode cX8_image 20 = .ok (.getfield 118, 3) := by decide +kernel
theorem dX8_image_23 : decode cX8_image 23 = .ok (.ireturn, 1) := by decide +kernel
def f_X8_image (M : Mem) : Option (Int32 × Mem) := (f_X0_copyFrom 85 1 M).bind fun q3 => some ((mI (sI q3 0 3 (1 : Int32)) 1 1), (sI q3 0 3 (1 : Int32)))
set_option maxRecDepth 100000 in
set_option maxHeartbeats 4000000 in
theorem c_X8_image (Z : Sys) {M : Mem} (hs : St M) {q : Int32 × Mem} (hf : f_X8_image M = some q) : Ct Z yX8_image cX8_image 1 (some .int) rm_X8_image [.ref (zs Z + 0)] M False (PostI q.1 q.2) := by
  refine Ct.of (by decide +kernel) (Nat.le_of_ble_eq_true rfl) (fun X hR hq _ => ?_)
  show G Z X Y_X8_image False 0 0 0 [(0, .ref (zs Z + 0))] [] M
  replace hq : RetOk Z X (some .int) False (PostI q.1 q.2) 0 0 := hq
  unfold f_X8_image at hf
  refine G.aload_n 0 0 dX8_image_0 rfl rfl ?_
  refine G.getp 1 ck_8 1 85 (hs.k k0_0) (pc_8_1 hs) (by decide) (by decide +kernel) wd_401 dX8_image_1 ?_
  refine G.aload_n 4 0 dX8_image_4 rfl rfl ?_
  refine G.getp 5 ck_8 0 1 (hs.k k0_0) (pc_8_0 hs) (by decide) (by decide +kernel) wd_400 dX8_image_5 ?_
  obtain ⟨q3, e4, hf⟩ := bd_e hf
  refine G.cvV 8 (As := [.ref (zs Z + 1)]) ck_0 (hs.k k0_85) (c_X0_copyFrom Z hs 85 1 k0_85 k0_1 e4) mk_X0_copyFrom vk_X0_copyFrom rfl wd_831 hR (by decide +kernel) ⟨rfl, rfl⟩ rfl (Nat.le_of_ble_eq_true rfl) dX8_image_8 (fun hs1 => ?_)
  refine G.aload_n 11 0 dX8_image_11 rfl rfl ?_
  refine G.iconst 12 (1 : Int32) dX8_image_12 (by decide +kernel) ?_
  refine G.puti 13 ck_8 3 (hs1.k k0_0) (by decide) (by decide +kernel) rfl wd_403 rfl rfl dX8_image_13 ?_
  refine G.aload_n 16 0 dX8_image_16 rfl rfl ?_
  refine G.getp 17 ck_8 0 1 ((St.i hs1).k k0_0) (pc_8_0 (St.i hs1)) (by decide) (by decide +kernel) wd_400 dX8_image_17 ?_
  refine G.geti 20 ck_0 1 ((St.i hs1).k k0_1) (by decide) (by decide +kernel) wd_264 dX8_image_20 ?_
  (have hf9 := Option.some.inj hf; subst hf9)
  exact G.rI 23 hq dX8_image_23 (St.i hs1)
abbrev Y_X8_keep : My := (cX8_keep, RX8, 4)
def rm_X8_keep : Room := { frames := 3, cells := 0, slots := 0, locals := 243 }
theorem dX8_keep_0 : decode cX8_keep 0 = .ok (.iload_n 1, 1) := by decide +kernel
theorem dX8_keep_1 : decode cX8_keep 1 = .ok (.invokestatic 281, 3) := by decide +kernel
theorem dX8_keep_4 : decode cX8_keep 4 = .ok (.ifCond .ne 5, 3) := by decide +kernel
theorem dX8_keep_7 : decode cX8_keep 7 = .ok (.iconst (-1), 1) := by decide +kernel
theorem dX8_keep_8 : decode cX8_keep 8 = .ok (.ireturn, 1) := by decide +kernel
theorem dX8_keep_9 : decode cX8_keep 9 = .ok (.iload_n 2, 1) := by decide +kernel
theorem dX8_keep_10 : decode cX8_keep 10 = .ok (.ifCond .ne 15, 3) := by decide +kernel
theorem dX8_keep_13 : decode cX8_keep 13 = .ok (.aload_n 0, 1) := by decide +kernel
theorem dX8_keep_14 : decode cX8_keep 14 = .ok (.getfield 24, 3) := by decide +kernel
theorem dX8_keep_17 : decode cX8_keep 17 = .ok (.iload_n 1, 1) := by decide +kernel
theorem dX8_keep_18 : decode cX8_keep 18 = .ok (.aaload, 1) := by decide +kernel
theorem dX8_keep_19 : decode cX8_keep 19 = .ok (.iconst 0, 1) := by decide +kernel
theorem dX8_keep_20 : decode cX8_keep 20 = .ok (.putfield 308, 3) := by decide +kernel
theorem dX8_keep_23 : decode cX8_keep 23 = .ok (.iconst 0, 1) := by decide +kernel
theorem dX8_keep_24 : decode cX8_keep 24 = .ok (.ireturn, 1) := by decide +kernel
theorem dX8_keep_25 : decode cX8_keep 25 = .ok (.iload_n 2, 1) := by decide +kernel
theorem dX8_keep_26 : decode cX8_keep 26 = .ok (.iconst 1, 1) := by decide +kernel
theorem dX8_keep_27 : decode cX8_keep 27 = .ok (.if_icmp .ne 14, 3) := by decide +kernel
theorem dX8_keep_30 : decode cX8_keep 30 = .ok (.aload_n 0, 1) := by decide +kernel
theorem dX8_keep_31 : decode cX8_keep 31 = .ok (.getfield 10, 3) := by decide +kernel
theorem dX8_keep_34 : decode cX8_keep 34 = .ok (.iload_n 3, 1) := by decide +kernel
theorem dX8_keep_35 : decode cX8_keep 35 = .ok (.invokevirtual 58, 3) := by decide +kernel
theorem dX8_keep_38 : decode cX8_keep 38 = .ok (.ifCond .ne 5, 3) := by decide +kernel
theorem dX8_keep_41 : decode cX8_keep 41 = .ok (.iconst (-1), 1) := by decide +kernel
theorem dX8_keep_42 : decode cX8_keep 42 = .ok (.ireturn, 1) := by decide +kernel
theorem dX8_keep_43 : decode cX8_keep 43 = .ok (.aload_n 0, 1) := by decide +kernel
theorem dX8_keep_44 : decode cX8_keep 44 = .ok (.getfield 24, 3) := by decide +kernel
theorem dX8_keep_47 : decode cX8_keep 47 = .ok (.iload_n 1, 1) := by decide +kernel
theorem dX8_keep_48 : decode cX8_keep 48 = .ok (.aaload, 1) := by decide +kernel
theorem dX8_keep_49 : decode cX8_keep 49 = .ok (.iload_n 3, 1) := by decide +kernel
theorem dX8_keep_50 : decode cX8_keep 50 = .ok (.aload_n 0, 1) := by decide +kernel
theorem dX8_keep_51 : decode cX8_keep 51 = .ok (.getfield 10, 3) := by decide +kernel
theorem dX8_keep_54 : decode cX8_keep 54 = .ok (.getfield 62, 3) := by decide +kernel
theorem dX8_keep_57 : decode cX8_keep 57 = .ok (.iload_n 3, 1) := by decide +kernel
theorem dX8_keep_58 : decode cX8_keep 58 = .ok (.aaload, 1) := by decide +kernel
theorem dX8_keep_59 : decode cX8_keep 59 = .ok (.invokevirtual 311, 3) := by decide +kernel
theorem dX8_keep_62 : decode cX8_keep 62 = .ok (.iconst 0, 1) := by decide +kernel
theorem dX8_keep_63 : decode cX8_keep 63 = .ok (.ireturn, 1) := by decide +kernel
def f_X8_keep (x1 : Int32) (x2 : Int32) (x3 : Int32) (M : Mem) : Option (Int32 × Mem) := if (f_X8_isShelf x1) = 0 then some ((-1 : Int32), M) else if x2 = 0 then gd (inR x1 8) (some ((0 : Int32), (sI M (253 + 7 + 3 * x1.toNatClampNeg) 0 (0 : Int32)))) else if x2 = (1 : Int32) then if (f_X0_isHall 1 x3 M) = 0 then some ((-1 : Int32), M) else gd (inR x1 8) (gd (inR x3 30) ((f_X6_holdSheet (253 + 7 + 3 * x1.toNatClampNeg) x3 (2 + 23 + 2 * x3.toNatClampNeg) M).bind fun q13 => some ((0 : Int32), q13))) else some ((-1 : Int32), M)
set_option maxRecDepth 100000 in
set_option maxHeartbeats 4000000 in
theorem c_X8_keep (Z : Sys) {M : Mem} (hs : St M) (x1 : Int32) (x2 : Int32) (x3 : Int32) {q : Int32 × Mem} (hf : f_X8_keep x1 x2 x3 M = some q) : Ct Z yX8_keep cX8_keep 4 (some .int) rm_X8_keep [.ref (zs Z + 0), .int x1, .int x2, .int x3] M False (PostI q.1 q.2) := by
  refine Ct.of (by decide +kernel) (Nat.le_of_ble_eq_true rfl) (fun X hR hq _ => ?_)
  show G Z X Y_X8_keep False 0 0 0 [(0, .ref (zs Z + 0)), (1, .int x1), (2, .int x2), (3, .int x3)] [] M
  replace hq : RetOk Z X (some .int) False (PostI q.1 q.2) 0 0 := hq
  unfold f_X8_keep at hf
  refine G.iload_n 0 1 dX8_keep_0 rfl rfl ?_
  refine G.csZ 1 (As := [.int x1]) (c_X8_isShelf Z hs x1 rfl) mk_X8_isShelf wd_522 wd_521 hR (by decide +kernel) ⟨rfl, rfl⟩ rfl (Nat.le_of_ble_eq_true rfl) dX8_keep_1 (fun hs1 z2 => ?_)
  refine G.if_ne 4 9 dX8_keep_4 (by decide) (fun h3 => ?_) (fun h3 => ?_)
  · replace hf := (if_neg h3).symm.trans hf
    refine G.iload_n 9 2 dX8_keep_9 rfl rfl ?_
    refine G.if_ne 10 25 dX8_keep_10 (by decide) (fun h4 => ?_) (fun h4 => ?_)
    · replace hf := (if_neg h4).symm.trans hf
      refine G.iload_n 25 2 dX8_keep_25 rfl rfl ?_
      refine G.iconst 26 (1 : Int32) dX8_keep_26 (by decide +kernel) ?_
      refine G.icmp_ne 27 41 dX8_keep_27 (by decide) (fun h5 => ?_) (fun h5 => ?_)
      · replace hf := (if_neg h5).symm.trans hf
        refine G.iconst 41 (-1 : Int32) dX8_keep_41 (by decide +kernel) ?_
        (have hf9 := Option.some.inj hf; subst hf9)
        exact G.rI 42 hq dX8_keep_42 hs1
      · replace hf := (if_pos h5).symm.trans hf
        refine G.aload_n 30 0 dX8_keep_30 rfl rfl ?_
        refine G.getp 31 ck_8 0 1 (hs1.k k0_0) (pc_8_0 hs1) (by decide) (by decide +kernel) wd_400 dX8_keep_31 ?_
        refine G.iload_n 34 3 dX8_keep_34 rfl rfl ?_
        refine G.cvZ 35 (As := [.int x3]) ck_0 (hs1.k k0_1) (c_X0_isHall Z hs1 1 x3 k0_1 rfl) mk_X0_isHall vk_X0_isHall rfl wd_444 hR (by decide +kernel) ⟨rfl, rfl⟩ rfl (Nat.le_of_ble_eq_true rfl) dX8_keep_35 (fun hs6 z7 => ?_)
        refine G.if_ne 38 43 dX8_keep_38 (by decide) (fun h8 => ?_) (fun h8 => ?_)
        · replace hf := (if_neg h8).symm.trans hf
          refine G.aload_n 43 0 dX8_keep_43 rfl rfl ?_
          refine G.getp 44 ck_8 4 253 (hs6.k k0_0) (pc_8_4 hs6) (by decide) (by decide +kernel) wd_404 dX8_keep_44 ?_
          refine G.iload_n 47 1 dX8_keep_47 rfl rfl ?_
          obtain ⟨g9, hf⟩ := gd_e hf
          refine G.aa 48 x1.toNatClampNeg (253 + 7 + 3 * x1.toNatClampNeg) (hs6.k k0_253) (by decide) rfl rfl g9 rfl (pa_14 hs6 k0_253 (inlt g9)).1 dX8_keep_48 ?_
          refine G.iload_n 49 3 dX8_keep_49 rfl rfl ?_
          refine G.aload_n 50 0 dX8_keep_50 rfl rfl ?_
          refine G.getp 51 ck_8 0 1 (hs6.k k0_0) (pc_8_0 hs6) (by decide) (by decide +kernel) wd_400 dX8_keep_51 ?_
          refine G.getp 54 ck_0 0 2 (hs6.k k0_1) (pt_0_0 hs6 k0_1).1 (by decide) (by decide +kernel) wd_260 dX8_keep_54 ?_
          refine G.iload_n 57 3 dX8_keep_57 rfl rfl ?_
          obtain ⟨g10, hf⟩ := gd_e hf
          refine G.aa 58 x3.toNatClampNeg (2 + 23 + 2 * x3.toNatClampNeg) (hs6.k k0_2) (by decide) rfl rfl g10 rfl (pa_13 hs6 k0_2 (inlt g10)).1 dX8_keep_58 ?_
          obtain ⟨q13, e14, hf⟩ := bd_e hf
          refine G.cvV 59 (As := [.int x3, .ref (zs Z + (2 + 23 + 2 * x3.toNatClampNeg))]) ck_6 (hs6.k (pa_14 hs6 k0_253 (inlt g9)).2) (c_X6_holdSheet Z hs6 (253 + 7 + 3 * x1.toNatClampNeg) x3 (2 + 23 + 2 * x3.toNatClampNeg) (pa_14 hs6 k0_253 (inlt g9)).2 (pa_13 hs6 k0_2 (inlt g10)).2 e14) mk_X6_holdSheet vk_X6_holdSheet rfl wd_1108 hR (by decide +kernel) ⟨rfl, rfl⟩ rfl (Nat.le_of_ble_eq_true rfl) dX8_keep_59 (fun hs11 => ?_)
          refine G.iconst 62 (0 : Int32) dX8_keep_62 (by decide +kernel) ?_
          (have hf9 := Option.some.inj hf; subst hf9)
          exact G.rI 63 hq dX8_keep_63 hs11
        · replace hf := (if_pos h8).symm.trans hf
          refine G.iconst 41 (-1 : Int32) dX8_keep_41 (by decide +kernel) ?_
          (have hf9 := Option.some.inj hf; subst hf9)
          exact G.rI 42 hq dX8_keep_42 hs6
    · replace hf := (if_pos h4).symm.trans hf
      refine G.aload_n 13 0 dX8_keep_13 rfl rfl ?_
      refine G.getp 14 ck_8 4 253 (hs1.k k0_0) (pc_8_4 hs1) (by decide) (by decide +kernel) wd_404 dX8_keep_14 ?_
      refine G.iload_n 17 1 dX8_keep_17 rfl rfl ?_
      obtain ⟨g15, hf⟩ := gd_e hf
      refine G.aa 18 x1.toNatClampNeg (253 + 7 + 3 * x1.toNatClampNeg) (hs1.k k0_253) (by decide) rfl rfl g15 rfl (pa_14 hs1 k0_253 (inlt g15)).1 dX8_keep_18 ?_
      refine G.iconst 19 (0 : Int32) dX8_keep_19 (by decide +kernel) ?_
      refine G.puti 20 ck_6 0 (hs1.k (pa_14 hs1 k0_253 (inlt g15)).2) (by decide) (by decide +kernel) rfl wd_374 rfl rfl dX8_keep_20 ?_
      refine G.iconst 23 (0 : Int32) dX8_keep_23 (by decide +kernel) ?_
      (have hf9 := Option.some.inj hf; subst hf9)
      exact G.rI 24 hq dX8_keep_24 (St.i hs1)
  · replace hf := (if_pos h3).symm.trans hf
    refine G.iconst 7 (-1 : Int32) dX8_keep_7 (by decide +kernel) ?_
    (have hf9 := Option.some.inj hf; subst hf9)
    exact G.rI 8 hq dX8_keep_8 hs1
abbrev Y_X8_land : My := (cX8_land, RX8, 2)
def rm_X8_land : Room := { frames := 3, cells := 0, slots := 0, locals := 247 }
theorem dX8_land_0 : decode cX8_land 0 = .ok (.aload_n 0, 1) := by decide +kernel
theorem dX8_land_1 : decode cX8_land 1 = .ok (.getfield 10, 3) := by decide +kernel
theorem dX8_land_4 : decode cX8_land 4 = .ok (.iload_n 1, 1) := by decide +kernel
theorem dX8_land_5 : decode cX8_land 5 = .ok (.invokevirtual 265, 3) := by decide +kernel
theorem dX8_land_8 : decode cX8_land 8 = .ok (.ireturn, 1) := by decide +kernel
def f_X8_land (x1 : Int32) (M : Mem) : Option (Int32 × Mem) := (f_X0_becomeHonest 1 x1 M).bind fun q3 => some (q3.1, q3.2)
set_option maxRecDepth 100000 in
set_option maxHeartbeats 4000000 in
theorem c_X8_land (Z : Sys) {M : Mem} (hs : St M) (x1 : Int32) {q : Int32 × Mem} (hf : f_X8_land x1 M = some q) : Ct Z yX8_land cX8_land 2 (some .int) rm_X8_land [.ref (zs Z + 0), .int x1] M False (PostI q.1 q.2) := by
  refine Ct.of (by decide +kernel) (Nat.le_of_ble_eq_true rfl) (fun X hR hq _ => ?_)
  show G Z X Y_X8_land False 0 0 0 [(0, .ref (zs Z + 0)), (1, .int x1)] [] M
  replace hq : RetOk Z X (some .int) False (PostI q.1 q.2) 0 0 := hq
  unfold f_X8_land at hf
  refine G.aload_n 0 0 dX8_land_0 rfl rfl ?_
  refine G.getp 1 ck_8 0 1 (hs.k k0_0) (pc_8_0 hs) (by decide) (by decide +kernel) wd_400 dX8_land_1 ?_
  refine G.iload_n 4 1 dX8_land_4 rfl rfl ?_
  obtain ⟨q3, e4, hf⟩ := bd_e hf
  refine G.cvI 5 (As := [.int x1]) ck_0 (hs.k k0_1) (c_X0_becomeHonest Z hs 1 x1 k0_1 e4) mk_X0_becomeHonest vk_X0_becomeHonest rfl wd_846 hR (by decide +kernel) ⟨rfl, rfl⟩ rfl (Nat.le_of_ble_eq_true rfl) dX8_land_5 (fun hs1 => ?_)
  (have hf9 := Option.some.inj hf; subst hf9)
  exact G.rI 8 hq dX8_land_8 hs1
abbrev Y_X8_leastCame : My := (cX8_leastCame, RX8, 2)
def rm_X8_leastCame : Room := { frames := 1, cells := 0, slots := 0, locals := 200 }
theorem dX8_leastCame_0 : decode cX8_leastCame 0 = .ok (.iconst 1, 1) := by decide +kernel
theorem dX8_leastCame_1 : decode cX8_leastCame 1 = .ok (.istore_n 1, 1) := by decide +kernel
theorem dX8_leastCame_2 : decode cX8_leastCame 2 = .ok (.iload_n 1, 1) := by decide +kernel
theorem dX8_leastCame_3 : decode cX8_leastCame 3 = .ok (.bipush 100, 2) := by decide +kernel
theorem dX8_leastCame_5 : decode cX8_leastCame 5 = .ok (.if_icmp .ge 20, 3) := by decide +kernel
theorem dX8_leastCame_8 : decode cX8_leastCame 8 = .ok (.iload_n 1, 1) := by decide +kernel
theorem dX8_leastCame_9 : decode cX8_leastCame 9 = .ok (.iload_n 0, 1) := by decide +kernel
theorem dX8_leastCame_10 : decode cX8_leastCame 10 = .ok (.imul, 1) := by decide +kernel
theorem dX8_leastCame_11 : decode cX8_leastCame 11 = .ok (.bipush 100, 2) := by decide +kernel
theorem dX8_leastCame_13 : decode cX8_leastCame 13 = .ok (.irem, 1) := by decide +kernel
theorem dX8_leastCame_14 : decode cX8_leastCame 14 = .ok (.ifCond .ne 5, 3) := by decide +kernel
theorem dX8_leastCame_17 : decode cX8_leastCame 17 = .ok (.iload_n 1, 1) := by decide +kernel
theorem dX8_leastCame_18 : decode cX8_leastCame 18 = .ok (.ireturn, 1) := by decide +kernel
theorem dX8_leastCame_19 : decode cX8_leastCame 19 = .ok (.iinc 1 1, 3) := by decide +kernel
theorem dX8_leastCame_22 : decode cX8_leastCame 22 = .ok (.goto (-20), 3) := by decide +kernel
theorem dX8_leastCame_25 : decode cX8_leastCame 25 = .ok (.bipush 100, 2) := by decide +kernel
theorem dX8_leastCame_27 : decode cX8_leastCame 27 = .ok (.ireturn, 1) := by decide +kernel
def L_X8_leastCame_2 : Nat → Int32 → Int32 → Option Int32
  | 0, _, _ => none
  | n + 1, x0, x1 => if (100 : Int32) ≤ x1 then some (100 : Int32) else if (jrem (x1 * x0) (100 : Int32)) = 0 then some x1 else L_X8_leastCame_2 n x0 (x1 + 1)
def f_X8_leastCame (x0 : Int32) : Option Int32 := L_X8_leastCame_2 FU x0 (1 : Int32)
set_option maxRecDepth 100000 in
set_option maxHeartbeats 4000000 in
theorem l_X8_leastCame_2 (Z : Sys) (X : Cx) (hR : xR X = rm_X8_leastCame) {q : Int32} {M : Mem} (hq : RetOk Z X (some .int) False (PostI q M) 0 0) : ∀ (n : Nat) (x0 : Int32) (x1 : Int32) (hs : St M) (hf : L_X8_leastCame_2 n x0 x1 = some q), G Z X Y_X8_leastCame False 0 0 2 [(0, .int x0), (1, .int x1)] [] M := by
  intro n
  induction n with
  | zero => intro x0 x1 hs  hf; cases hf
  | succ n ih =>
    intro x0 x1 hs  hf
    unfold L_X8_leastCame_2 at hf
    refine G.iload_n 2 1 dX8_leastCame_2 rfl rfl ?_
    refine G.bipush 3 (100 : Int32) dX8_leastCame_3 (by decide +kernel) ?_
    refine G.icmp_ge 5 25 dX8_leastCame_5 (by decide) (fun h1 => ?_) (fun h1 => ?_)
    · replace hf := (if_pos h1).symm.trans hf
      refine G.bipush 25 (100 : Int32) dX8_leastCame_25 (by decide +kernel) ?_
      (have hf9 := Option.some.inj hf; subst hf9)
      exact G.rI 27 hq dX8_leastCame_27 hs
    · replace hf := (if_neg h1).symm.trans hf
      refine G.iload_n 8 1 dX8_leastCame_8 rfl rfl ?_
      refine G.iload_n 9 0 dX8_leastCame_9 rfl rfl ?_
      refine G.imul 10 dX8_leastCame_10 ?_
      refine G.bipush 11 (100 : Int32) dX8_leastCame_11 (by decide +kernel) ?_
      refine G.iremJ 13 dX8_leastCame_13 (by decide +kernel) ?_
      refine G.if_ne 14 19 dX8_leastCame_14 (by decide) (fun h2 => ?_) (fun h2 => ?_)
      · replace hf := (if_neg h2).symm.trans hf
        refine G.iinc 19 1 (x1 + 1) [(1, .int (x1 + 1)), (0, .int x0)] dX8_leastCame_19 rfl (congrArg (fun z => x1 + z) (by decide +kernel)) (Nat.le_of_ble_eq_true rfl) rfl ?_
        refine G.goto 22 2 dX8_leastCame_22 (by decide) ?_
        refine G.locs [1, 0] rfl ?_
        exact ih x0 (x1 + 1) hs hf
      · replace hf := (if_pos h2).symm.trans hf
        refine G.iload_n 17 1 dX8_leastCame_17 rfl rfl ?_
        (have hf9 := Option.some.inj hf; subst hf9)
        exact G.rI 18 hq dX8_leastCame_18 hs
set_option maxRecDepth 100000 in
set_option maxHeartbeats 4000000 in
theorem c_X8_leastCame (Z : Sys) {M : Mem} (hs : St M) (x0 : Int32) {q : Int32} (hf : f_X8_leastCame x0 = some q) : Ct Z yX8_leastCame cX8_leastCame 2 (some .int) rm_X8_leastCame [.int x0] M False (PostI q M) := by
  refine Ct.of (by decide +kernel) (Nat.le_of_ble_eq_true rfl) (fun X hR hq _ => ?_)
  show G Z X Y_X8_leastCame False 0 0 0 [(0, .int x0)] [] M
  replace hq : RetOk Z X (some .int) False (PostI q M) 0 0 := hq
  unfold f_X8_leastCame at hf
  refine G.iconst 0 (1 : Int32) dX8_leastCame_0 (by decide +kernel) ?_
  refine G.istore_n 1 [(1, .int (1 : Int32)), (0, .int x0)] dX8_leastCame_1 rfl (Nat.le_of_ble_eq_true rfl) rfl ?_
  refine G.locs [1, 0] rfl ?_
  exact l_X8_leastCame_2 Z X hR hq FU x0 (1 : Int32) hs hf
abbrev Y_X8_left : My := (cX8_left, RX8, 2)
def rm_X8_left : Room := { frames := 5, cells := 0, slots := 0, locals := 286 }
theorem dX8_left_0 : decode cX8_left 0 = .ok (.aload_n 0, 1) := by decide +kernel
theorem dX8_left_1 : decode cX8_left 1 = .ok (.getfield 10, 3) := by decide +kernel
theorem dX8_left_4 : decode cX8_left 4 = .ok (.iload_n 1, 1) := by decide +kernel
theorem dX8_left_5 : decode cX8_left 5 = .ok (.invokevirtual 58, 3) := by decide +kernel
theorem dX8_left_8 : decode cX8_left 8 = .ok (.ifCond .ne 6, 3) := by decide +kernel
theorem dX8_left_11 : decode cX8_left 11 = .ok (.ldc 171, 2) := by decide +kernel
theorem dX8_left_13 : decode cX8_left 13 = .ok (.ireturn, 1) := by decide +kernel
theorem dX8_left_14 : decode cX8_left 14 = .ok (.aload_n 0, 1) := by decide +kernel
theorem dX8_left_15 : decode cX8_left 15 = .ok (.getfield 10, 3) := by decide +kernel
theorem dX8_left_18 : decode cX8_left 18 = .ok (.getfield 62, 3) := by decide +kernel
theorem dX8_left_21 : decode cX8_left 21 = .ok (.iload_n 1, 1) := by decide +kernel
theorem dX8_left_22 : decode cX8_left 22 = .ok (.aaload, 1) := by decide +kernel
theorem dX8_left_23 : decode cX8_left 23 = .ok (.getfield 105, 3) := by decide +kernel
theorem dX8_left_26 : decode cX8_left 26 = .ok (.ifCond .eq 6, 3) := by decide +kernel
theorem dX8_left_29 : decode cX8_left 29 = .ok (.ldc 172, 2) := by decide +kernel
theorem dX8_left_31 : decode cX8_left 31 = .ok (.ireturn, 1) := by decide +kernel
theorem dX8_left_32 : decode cX8_left 32 = .ok (.aload_n 0, 1) := by decide +kernel
theorem dX8_left_33 : decode cX8_left 33 = .ok (.getfield 10, 3) := by decide +kernel
theorem dX8_left_36 : decode cX8_left 36 = .ok (.aload_n 0, 1) := by decide +kernel
theorem dX8_left_37 : decode cX8_left 37 = .ok (.getfield 10, 3) := by decide +kernel
theorem dX8_left_40 : decode cX8_left 40 = .ok (.getfield 62, 3) := by decide +kernel
theorem dX8_left_43 : decode cX8_left 43 = .ok (.iload_n 1, 1) := by decide +kernel
theorem dX8_left_44 : decode cX8_left 44 = .ok (.aaload, 1) := by decide +kernel
theorem dX8_left_45 : decode cX8_left 45 = .ok (.invokevirtual 173, 3) := by decide +kernel
theorem dX8_left_48 : decode cX8_left 48 = .ok (.ireturn, 1) := by decide +kernel
def f_X8_left (x1 : Int32) (M : Mem) : Option (Int32 × Mem) := if (f_X0_isHall 1 x1 M) = 0 then some ((-1000000001 : Int32), M) else gd (inR x1 30) (if (mI M (2 + 23 + 2 * x1.toNatClampNeg) 9) = 0 then (f_X0_shareFromMiddle 1 (2 + 23 + 2 * x1.toNatClampNeg) M).bind fun q8 => some (q8.1, q8.2) else some ((-1000000004 : Int32), M))
set_option maxRecDepth 100000 in
set_option maxHeartbeats 4000000 in
theorem c_X8_left (Z : Sys) {M : Mem} (hs : St M) (x1 : Int32) {q : Int32 × Mem} (hf : f_X8_left x1 M = some q) : Ct Z yX8_left cX8_left 2 (some .int) rm_X8_left [.ref (zs Z + 0), .int x1] M False (PostI q.1 q.2) := by
  refine Ct.of (by decide +kernel) (Nat.le_of_ble_eq_true rfl) (fun X hR hq _ => ?_)
  show G Z X Y_X8_left False 0 0 0 [(0, .ref (zs Z + 0)), (1, .int x1)] [] M
  replace hq : RetOk Z X (some .int) False (PostI q.1 q.2) 0 0 := hq
  unfold f_X8_left at hf
  refine G.aload_n 0 0 dX8_left_0 rfl rfl ?_
  refine G.getp 1 ck_8 0 1 (hs.k k0_0) (pc_8_0 hs) (by decide) (by decide +kernel) wd_400 dX8_left_1 ?_
  refine G.iload_n 4 1 dX8_left_4 rfl rfl ?_
  refine G.cvZ 5 (As := [.int x1]) ck_0 (hs.k k0_1) (c_X0_isHall Z hs 1 x1 k0_1 rfl) mk_X0_isHall vk_X0_isHall rfl wd_444 hR (by decide +kernel) ⟨rfl, rfl⟩ rfl (Nat.le_of_ble_eq_true rfl) dX8_left_5 (fun hs1 z2 => ?_)
  refine G.if_ne 8 14 dX8_left_8 (by decide) (fun h3 => ?_) (fun h3 => ?_)
  · replace hf := (if_neg h3).symm.trans hf
    refine G.aload_n 14 0 dX8_left_14 rfl rfl ?_
    refine G.getp 15 ck_8 0 1 (hs1.k k0_0) (pc_8_0 hs1) (by decide) (by decide +kernel) wd_400 dX8_left_15 ?_
    refine G.getp 18 ck_0 0 2 (hs1.k k0_1) (pt_0_0 hs1 k0_1).1 (by decide) (by decide +kernel) wd_260 dX8_left_18 ?_
    refine G.iload_n 21 1 dX8_left_21 rfl rfl ?_
    obtain ⟨g4, hf⟩ := gd_e hf
    refine G.aa 22 x1.toNatClampNeg (2 + 23 + 2 * x1.toNatClampNeg) (hs1.k k0_2) (by decide) rfl rfl g4 rfl (pa_13 hs1 k0_2 (inlt g4)).1 dX8_left_22 ?_
    refine G.geti 23 ck_1 9 (hs1.k (pa_13 hs1 k0_2 (inlt g4)).2) (by decide) (by decide +kernel) wd_221 dX8_left_23 ?_
    refine G.if_eq 26 32 dX8_left_26 (by decide) (fun h5 => ?_) (fun h5 => ?_)
    · replace hf := (if_pos h5).symm.trans hf
      refine G.aload_n 32 0 dX8_left_32 rfl rfl ?_
      refine G.getp 33 ck_8 0 1 (hs1.k k0_0) (pc_8_0 hs1) (by decide) (by decide +kernel) wd_400 dX8_left_33 ?_
      refine G.aload_n 36 0 dX8_left_36 rfl rfl ?_
      refine G.getp 37 ck_8 0 1 (hs1.k k0_0) (pc_8_0 hs1) (by decide) (by decide +kernel) wd_400 dX8_left_37 ?_
      refine G.getp 40 ck_0 0 2 (hs1.k k0_1) (pt_0_0 hs1 k0_1).1 (by decide) (by decide +kernel) wd_260 dX8_left_40 ?_
      refine G.iload_n 43 1 dX8_left_43 rfl rfl ?_
      refine G.aa 44 x1.toNatClampNeg (2 + 23 + 2 * x1.toNatClampNeg) (hs1.k k0_2) (by decide) rfl rfl g4 rfl (pa_13 hs1 k0_2 (inlt g4)).1 dX8_left_44 ?_
      obtain ⟨q8, e9, hf⟩ := bd_e hf
      refine G.cvI 45 (As := [.ref (zs Z + (2 + 23 + 2 * x1.toNatClampNeg))]) ck_0 (hs1.k k0_1) (c_X0_shareFromMiddle Z hs1 1 (2 + 23 + 2 * x1.toNatClampNeg) k0_1 (pa_13 hs1 k0_2 (inlt g4)).2 e9) mk_X0_shareFromMiddle vk_X0_shareFromMiddle rfl wd_625 hR (by decide +kernel) ⟨rfl, rfl⟩ rfl (Nat.le_of_ble_eq_true rfl) dX8_left_45 (fun hs6 => ?_)
      (have hf9 := Option.some.inj hf; subst hf9)
      exact G.rI 48 hq dX8_left_48 hs6
    · replace hf := (if_neg h5).symm.trans hf
      refine G.ldc 29 (-1000000004 : Int32) wd_624 dX8_left_29 ?_
      (have hf9 := Option.some.inj hf; subst hf9)
      exact G.rI 31 hq dX8_left_31 hs1
  · replace hf := (if_pos h3).symm.trans hf
    refine G.ldc 11 (-1000000001 : Int32) wd_623 dX8_left_11 ?_
    (have hf9 := Option.some.inj hf; subst hf9)
    exact G.rI 13 hq dX8_left_13 hs1
abbrev Y_X8_mark : My := (cX8_mark, RX8, 4)
def rm_X8_mark : Room := { frames := 25, cells := 0, slots := 0, locals := 1106 }
theorem dX8_mark_0 : decode cX8_mark 0 = .ok (.iload_n 1, 1) := by decide +kernel
theorem dX8_mark_1 : decode cX8_mark 1 = .ok (.invokestatic 281, 3) := by decide +kernel
theorem dX8_mark_4 : decode cX8_mark 4 = .ok (.ifCond .ne 5, 3) := by decide +kernel
theorem dX8_mark_7 : decode cX8_mark 7 = .ok (.iconst (-1), 1) := by decide +kernel
theorem dX8_mark_8 : decode cX8_mark 8 = .ok (.ireturn, 1) := by decide +kernel
theorem dX8_mark_9 : decode cX8_mark 9 = .ok (.aload_n 0, 1) := by decide +kernel
theorem dX8_mark_10 : decode cX8_mark 10 = .ok (.getfield 10, 3) := by decide +kernel
theorem dX8_mark_13 : decode cX8_mark 13 = .ok (.getfield 284, 3) := by decide +kernel
theorem dX8_mark_16 : decode cX8_mark 16 = .ok (.bipush 10, 2) := by decide +kernel
theorem dX8_mark_18 : decode cX8_mark 18 = .ok (.if_icmp .lt 6, 3) := by decide +kernel
theorem dX8_mark_21 : decode cX8_mark 21 = .ok (.bipush (-2), 2) := by decide +kernel
theorem dX8_mark_23 : decode cX8_mark 23 = .ok (.ireturn, 1) := by decide +kernel
theorem dX8_mark_24 : decode cX8_mark 24 = .ok (.aload_n 0, 1) := by decide +kernel
theorem dX8_mark_25 : decode cX8_mark 25 = .ok (.iload_n 1, 1) := by decide +kernel
theorem dX8_mark_26 : decode cX8_mark 26 = .ok (.invokevirtual 271, 3) := by decide +kernel
theorem dX8_mark_29 : decode cX8_mark 29 = .ok (.istore_n 2, 1) := by decide +kernel
theorem dX8_mark_30 : decode cX8_mark 30 = .ok (.iload_n 2, 1) := by decide +kernel
theorem dX8_mark_31 : decode cX8_mark 31 = .ok (.ifCond .eq 5, 3) := by decide +kernel
theorem dX8_mark_34 : decode cX8_mark 34 = .ok (.iload_n 2, 1) := by decide +kernel
theorem dX8_mark_35 : decode cX8_mark 35 = .ok (.ireturn, 1) := by decide +kernel
theorem dX8_mark_36 : decode cX8_mark 36 = .ok (.aload_n 0, 1) := by decide +kernel
theorem dX8_mark_37 : decode cX8_mark 37 = .ok (.getfield 45, 3) := by decide +kernel
theorem dX8_mark_40 : decode cX8_mark 40 = .ok (.aload_n 0, 1) := by decide +kernel
theorem dX8_mark_41 : decode cX8_mark 41 = .ok (.getfield 24, 3) := by decide +kernel
theorem dX8_mark_44 : decode cX8_mark 44 = .ok (.iload_n 1, 1) := by decide +kernel
theorem dX8_mark_45 : decode cX8_mark 45 = .ok (.aaload, 1) := by decide +kernel
theorem dX8_mark_46 : decode cX8_mark 46 = .ok (.getfield 139, 3) := by decide +kernel
theorem dX8_mark_49 : decode cX8_mark 49 = .ok (.aload_n 0, 1) := by decide +kernel
theorem dX8_mark_50 : decode cX8_mark 50 = .ok (.getfield 24, 3) := by decide +kernel
theorem dX8_mark_53 : decode cX8_mark 53 = .ok (.iload_n 1, 1) := by decide +kernel
theorem dX8_mark_54 : decode cX8_mark 54 = .ok (.aaload, 1) := by decide +kernel
theorem dX8_mark_55 : decode cX8_mark 55 = .ok (.getfield 274, 3) := by decide +kernel
theorem dX8_mark_58 : decode cX8_mark 58 = .ok (.invokevirtual 277, 3) := by decide +kernel
theorem dX8_mark_61 : decode cX8_mark 61 = .ok (.istore_n 3, 1) := by decide +kernel
theorem dX8_mark_62 : decode cX8_mark 62 = .ok (.iload_n 3, 1) := by decide +kernel
theorem dX8_mark_63 : decode cX8_mark 63 = .ok (.iconst (-1), 1) := by decide +kernel
theorem dX8_mark_64 : decode cX8_mark 64 = .ok (.if_icmp .eq 8, 3) := by decide +kernel
theorem dX8_mark_67 : decode cX8_mark 67 = .ok (.bipush (-100), 2) := by decide +kernel
theorem dX8_mark_69 : decode cX8_mark 69 = .ok (.iload_n 3, 1) := by decide +kernel
theorem dX8_mark_70 : decode cX8_mark 70 = .ok (.isub, 1) := by decide +kernel
theorem dX8_mark_71 : decode cX8_mark 71 = .ok (.ireturn, 1) := by decide +kernel
theorem dX8_mark_72 : decode cX8_mark 72 = .ok (.aload_n 0, 1) := by decide +kernel
theorem dX8_mark_73 : decode cX8_mark 73 = .ok (.getfield 10, 3) := by decide +kernel
theorem dX8_mark_76 : decode cX8_mark 76 = .ok (.aload_n 0, 1) := by decide +kernel
theorem dX8_mark_77 : decode cX8_mark 77 = .ok (.getfield 24, 3) := by decide +kernel
theorem dX8_mark_80 : decode cX8_mark 80 = .ok (.iload_n 1, 1) := by decide +kernel
theorem dX8_mark_81 : decode cX8_mark 81 = .ok (.aaload, 1) := by decide +kernel
theorem dX8_mark_82 : decode cX8_mark 82 = .ok (.getfield 139, 3) := by decide +kernel
theorem dX8_mark_85 : decode cX8_mark 85 = .ok (.aload_n 0, 1) := by decide +kernel
theorem dX8_mark_86 : decode cX8_mark 86 = .ok (.getfield 24, 3) := by decide +kernel
theorem dX8_mark_89 : decode cX8_mark 89 = .ok (.iload_n 1, 1) := by decide +kernel
theorem dX8_mark_90 : decode cX8_mark 90 = .ok (.aaload, 1) := by decide +kernel
theorem dX8_mark_91 : decode cX8_mark 91 = .ok (.getfield 274, 3) := by decide +kernel
theorem dX8_mark_94 : decode cX8_mark 94 = .ok (.invokevirtual 287, 3) := by decide +kernel
theorem dX8_mark_97 : decode cX8_mark 97 = .ok (.ireturn, 1) := by decide +kernel
def f_X8_mark (x1 : Int32) (M : Mem) : Option (Int32 × Mem) := if (f_X8_isShelf x1) = 0 then some ((-1 : Int32), M) else if (mI M 1 8) < (10 : Int32) then (f_X8_textRefusal x1 M).bind fun q7 => if q7 = 0 then gd (inR x1 8) ((f_X2_faultOf ((253 + 7 + 3 * x1.toNatClampNeg) + 2) (mI M (253 + 7 + 3 * x1.toNatClampNeg) 5) M).bind fun q13 => if q13.1 = (-1 : Int32) then (f_X0_addMark 1 ((253 + 7 + 3 * x1.toNatClampNeg) + 2) (mI q13.2 (253 + 7 + 3 * x1.toNatClampNeg) 5) q13.2).bind fun q18 => some (q18.1, q18.2) else some (((-100 : Int32) - q13.1), q13.2)) else some (q7, M) else some ((-2 : Int32), M)
set_option maxRecDepth 100000 in
set_option maxHeartbeats 4000000 in
theorem c_X8_mark (Z : Sys) {M : Mem} (hs : St M) (x1 : Int32) {q : Int32 × Mem} (hf : f_X8_mark x1 M = some q) : Ct Z yX8_mark cX8_mark 4 (some .int) rm_X8_mark [.ref (zs Z + 0), .int x1] M False (PostI q.1 q.2) := by
  refine Ct.of (by decide +kernel) (Nat.le_of_ble_eq_true rfl) (fun X hR hq _ => ?_)
  show G Z X Y_X8_mark False 0 0 0 [(0, .ref (zs Z + 0)), (1, .int x1)] [] M
  replace hq : RetOk Z X (some .int) False (PostI q.1 q.2) 0 0 := hq
  unfold f_X8_mark at hf
  refine G.iload_n 0 1 dX8_mark_0 rfl rfl ?_
  refine G.csZ 1 (As := [.int x1]) (c_X8_isShelf Z hs x1 rfl) mk_X8_isShelf wd_522 wd_521 hR (by decide +kernel) ⟨rfl, rfl⟩ rfl (Nat.le_of_ble_eq_true rfl) dX8_mark_1 (fun hs1 z2 => ?_)
  refine G.if_ne 4 9 dX8_mark_4 (by decide) (fun h3 => ?_) (fun h3 => ?_)
  · replace hf := (if_neg h3).symm.trans hf
    refine G.aload_n 9 0 dX8_mark_9 rfl rfl ?_
    refine G.getp 10 ck_8 0 1 (hs1.k k0_0) (pc_8_0 hs1) (by decide) (by decide +kernel) wd_400 dX8_mark_10 ?_
    refine G.geti 13 ck_0 8 (hs1.k k0_1) (by decide) (by decide +kernel) wd_276 dX8_mark_13 ?_
    refine G.bipush 16 (10 : Int32) dX8_mark_16 (by decide +kernel) ?_
    refine G.icmp_lt 18 24 dX8_mark_18 (by decide) (fun h4 => ?_) (fun h4 => ?_)
    · replace hf := (if_pos h4).symm.trans hf
      refine G.aload_n 24 0 dX8_mark_24 rfl rfl ?_
      refine G.iload_n 25 1 dX8_mark_25 rfl rfl ?_
      obtain ⟨q7, e8, hf⟩ := bd_e hf
      refine G.cvI 26 (As := [.int x1]) ck_8 (hs1.k k0_0) (c_X8_textRefusal Z hs1 x1 e8) mk_X8_textRefusal vk_X8_textRefusal rfl wd_874 hR (by decide +kernel) ⟨rfl, rfl⟩ rfl (Nat.le_of_ble_eq_true rfl) dX8_mark_26 (fun hs5 => ?_)
      refine G.istore_n 29 [(2, .int q7), (0, .ref (zs Z + 0)), (1, .int x1)] dX8_mark_29 rfl (Nat.le_of_ble_eq_true rfl) rfl ?_
      refine G.iload_n 30 0 dX8_mark_30 rfl rfl ?_
      refine G.if_eq 31 36 dX8_mark_31 (by decide) (fun h9 => ?_) (fun h9 => ?_)
      · replace hf := (if_pos h9).symm.trans hf
        refine G.aload_n 36 1 dX8_mark_36 rfl rfl ?_
        refine G.getp 37 ck_8 7 259 (hs5.k k0_0) (pc_8_7 hs5) (by decide) (by decide +kernel) wd_407 dX8_mark_37 ?_
        refine G.aload_n 40 1 dX8_mark_40 rfl rfl ?_
        refine G.getp 41 ck_8 4 253 (hs5.k k0_0) (pc_8_4 hs5) (by decide) (by decide +kernel) wd_404 dX8_mark_41 ?_
        refine G.iload_n 44 2 dX8_mark_44 rfl rfl ?_
        obtain ⟨g10, hf⟩ := gd_e hf
        refine G.aa 45 x1.toNatClampNeg (253 + 7 + 3 * x1.toNatClampNeg) (hs5.k k0_253) (by decide) rfl rfl g10 rfl (pa_14 hs5 k0_253 (inlt g10)).1 dX8_mark_45 ?_
        refine G.getp 46 ck_6 6 ((253 + 7 + 3 * x1.toNatClampNeg) + 2) (hs5.k (pa_14 hs5 k0_253 (inlt g10)).2) (pt_6_6 hs5 (pa_14 hs5 k0_253 (inlt g10)).2).1 (by decide) (by decide +kernel) wd_384 dX8_mark_46 ?_
        refine G.aload_n 49 1 dX8_mark_49 rfl rfl ?_
        refine G.getp 50 ck_8 4 253 (hs5.k k0_0) (pc_8_4 hs5) (by decide) (by decide +kernel) wd_404 dX8_mark_50 ?_
        refine G.iload_n 53 2 dX8_mark_53 rfl rfl ?_
        refine G.aa 54 x1.toNatClampNeg (253 + 7 + 3 * x1.toNatClampNeg) (hs5.k k0_253) (by decide) rfl rfl g10 rfl (pa_14 hs5 k0_253 (inlt g10)).1 dX8_mark_54 ?_
        refine G.geti 55 ck_6 5 (hs5.k (pa_14 hs5 k0_253 (inlt g10)).2) (by decide) (by decide +kernel) wd_382 dX8_mark_55 ?_
        obtain ⟨q13, e14, hf⟩ := bd_e hf
        refine G.cvI 58 (As := [.ref (zs Z + ((253 + 7 + 3 * x1.toNatClampNeg) + 2)), .int (mI M (253 + 7 + 3 * x1.toNatClampNeg) 5)]) ck_2 (hs5.k k0_259) (c_X2_faultOf Z hs5 ((253 + 7 + 3 * x1.toNatClampNeg) + 2) (mI M (253 + 7 + 3 * x1.toNatClampNeg) 5) (ln_k (pt_6_6 hs5 (pa_14 hs5 k0_253 (inlt g10)).2).2) e14) mk_X2_faultOf vk_X2_faultOf rfl wd_882 hR (by decide +kernel) ⟨rfl, rfl⟩ rfl (Nat.le_of_ble_eq_true rfl) dX8_mark_58 (fun hs11 => ?_)
        refine G.istore_n 61 [(3, .int q13.1), (2, .int q7), (0, .ref (zs Z + 0)), (1, .int x1)] dX8_mark_61 rfl (Nat.le_of_ble_eq_true rfl) rfl ?_
        refine G.iload_n 62 0 dX8_mark_62 rfl rfl ?_
        refine G.iconst 63 (-1 : Int32) dX8_mark_63 (by decide +kernel) ?_
        refine G.icmp_eq 64 72 dX8_mark_64 (by decide) (fun h15 => ?_) (fun h15 => ?_)
        · replace hf := (if_pos h15).symm.trans hf
          refine G.aload_n 72 2 dX8_mark_72 rfl rfl ?_
          refine G.getp 73 ck_8 0 1 (hs11.k k0_0) (pc_8_0 hs11) (by decide) (by decide +kernel) wd_400 dX8_mark_73 ?_
          refine G.aload_n 76 2 dX8_mark_76 rfl rfl ?_
          refine G.getp 77 ck_8 4 253 (hs11.k k0_0) (pc_8_4 hs11) (by decide) (by decide +kernel) wd_404 dX8_mark_77 ?_
          refine G.iload_n 80 3 dX8_mark_80 rfl rfl ?_
          refine G.aa 81 x1.toNatClampNeg (253 + 7 + 3 * x1.toNatClampNeg) (hs11.k k0_253) (by decide) rfl rfl g10 rfl (pa_14 hs11 k0_253 (inlt g10)).1 dX8_mark_81 ?_
          refine G.getp 82 ck_6 6 ((253 + 7 + 3 * x1.toNatClampNeg) + 2) (hs11.k (pa_14 hs11 k0_253 (inlt g10)).2) (pt_6_6 hs11 (pa_14 hs11 k0_253 (inlt g10)).2).1 (by decide) (by decide +kernel) wd_384 dX8_mark_82 ?_
          refine G.aload_n 85 2 dX8_mark_85 rfl rfl ?_
          refine G.getp 86 ck_8 4 253 (hs11.k k0_0) (pc_8_4 hs11) (by decide) (by decide +kernel) wd_404 dX8_mark_86 ?_
          refine G.iload_n 89 3 dX8_mark_89 rfl rfl ?_
          refine G.aa 90 x1.toNatClampNeg (253 + 7 + 3 * x1.toNatClampNeg) (hs11.k k0_253) (by decide) rfl rfl g10 rfl (pa_14 hs11 k0_253 (inlt g10)).1 dX8_mark_90 ?_
          refine G.geti 91 ck_6 5 (hs11.k (pa_14 hs11 k0_253 (inlt g10)).2) (by decide) (by decide +kernel) wd_382 dX8_mark_91 ?_
          obtain ⟨q18, e19, hf⟩ := bd_e hf
          refine G.cvI 94 (As := [.ref (zs Z + ((253 + 7 + 3 * x1.toNatClampNeg) + 2)), .int (mI q13.2 (253 + 7 + 3 * x1.toNatClampNeg) 5)]) ck_0 (hs11.k k0_1) (c_X0_addMark Z hs11 1 ((253 + 7 + 3 * x1.toNatClampNeg) + 2) (mI q13.2 (253 + 7 + 3 * x1.toNatClampNeg) 5) k0_1 (ln_k (pt_6_6 hs11 (pa_14 hs11 k0_253 (inlt g10)).2).2) e19) mk_X0_addMark vk_X0_addMark rfl wd_1012 hR (by decide +kernel) ⟨rfl, rfl⟩ rfl (Nat.le_of_ble_eq_true rfl) dX8_mark_94 (fun hs16 => ?_)
          (have hf9 := Option.some.inj hf; subst hf9)
          exact G.rI 97 hq dX8_mark_97 hs16
        · replace hf := (if_neg h15).symm.trans hf
          refine G.bipush 67 (-100 : Int32) dX8_mark_67 (by decide +kernel) ?_
          refine G.iload_n 69 0 dX8_mark_69 rfl rfl ?_
          refine G.isub 70 dX8_mark_70 ?_
          (have hf9 := Option.some.inj hf; subst hf9)
          exact G.rI 71 hq dX8_mark_71 hs11
      · replace hf := (if_neg h9).symm.trans hf
        refine G.iload_n 34 0 dX8_mark_34 rfl rfl ?_
        (have hf9 := Option.some.inj hf; subst hf9)
        exact G.rI 35 hq dX8_mark_35 hs5
    · replace hf := (if_neg h4).symm.trans hf
      refine G.bipush 21 (-2 : Int32) dX8_mark_21 (by decide +kernel) ?_
      (have hf9 := Option.some.inj hf; subst hf9)
      exact G.rI 23 hq dX8_mark_23 hs1
  · replace hf := (if_pos h3).symm.trans hf
    refine G.iconst 7 (-1 : Int32) dX8_mark_7 (by decide +kernel) ?_
    (have hf9 := Option.some.inj hf; subst hf9)
    exact G.rI 8 hq dX8_mark_8 hs1
