abbrev Y_X3_join : My := (cX3_join, RX3, 2)
def rm_X3_join : Room := { frames := 1, cells := 0, slots := 0, locals := 200 }
theorem dX3_join_0 : decode cX3_join 0 = .ok (.aload_n 0, 1) := by decide +kernel
theorem dX3_join_1 : decode cX3_join 1 = .ok (.getfield 15, 3) := by decide +kernel
theorem dX3_join_4 : decode cX3_join 4 = .ok (.aload_n 0, 1) := by decide +kernel
theorem dX3_join_5 : decode cX3_join 5 = .ok (.getfield 21, 3) := by decide +kernel
theorem dX3_join_8 : decode cX3_join 8 = .ok (.aload_n 0, 1) := by decide +kernel
theorem dX3_join_9 : decode cX3_join 9 = .ok (.getfield 15, 3) := by decide +kernel
theorem dX3_join_12 : decode cX3_join 12 = .ok (.aload_n 0, 1) := by decide +kernel
theorem dX3_join_13 : decode cX3_join 13 = .ok (.getfield 21, 3) := by decide +kernel
theorem dX3_join_16 : decode cX3_join 16 = .ok (.baload, 1) := by decide +kernel
theorem dX3_join_17 : decode cX3_join 17 = .ok (.ifCond .eq 20, 3) := by decide +kernel
theorem dX3_join_20 : decode cX3_join 20 = .ok (.iload_n 1, 1) := by decide +kernel
theorem dX3_join_21 : decode cX3_join 21 = .ok (.aload_n 0, 1) := by decide +kernel
theorem dX3_join_22 : decode cX3_join 22 = .ok (.getfield 18, 3) := by decide +kernel
theorem dX3_join_25 : decode cX3_join 25 = .ok (.aload_n 0, 1) := by decide +kernel
theorem dX3_join_26 : decode cX3_join 26 = .ok (.getfield 21, 3) := by decide +kernel
theorem dX3_join_29 : decode cX3_join 29 = .ok (.baload, 1) := by decide +kernel
theorem dX3_join_30 : decode cX3_join 30 = .ok (.if_icmp .eq 7, 3) := by decide +kernel
theorem dX3_join_33 : decode cX3_join 33 = .ok (.iconst 1, 1) := by decide +kernel
theorem dX3_join_34 : decode cX3_join 34 = .ok (.goto 4, 3) := by decide +kernel
theorem dX3_join_37 : decode cX3_join 37 = .ok (.iconst 0, 1) := by decide +kernel
theorem dX3_join_38 : decode cX3_join 38 = .ok (.bastore, 1) := by decide +kernel
theorem dX3_join_39 : decode cX3_join 39 = .ok (.aload_n 0, 1) := by decide +kernel
theorem dX3_join_40 : decode cX3_join 40 = .ok (.getfield 18, 3) := by decide +kernel
theorem dX3_join_43 : decode cX3_join 43 = .ok (.aload_n 0, 1) := by decide +kernel
theorem dX3_join_44 : decode cX3_join 44 = .ok (.getfield 21, 3) := by decide +kernel
theorem dX3_join_47 : decode cX3_join 47 = .ok (.iconst 0, 1) := by decide +kernel
theorem dX3_join_48 : decode cX3_join 48 = .ok (.bastore, 1) := by decide +kernel
theorem dX3_join_49 : decode cX3_join 49 = .ok (.return_, 1) := by decide +kernel
def f_X3_join (a0 : Nat) (x1 : Int32) (M : Mem) : Option Mem := gd (inR (mI M a0 3) 9) (if (mI M (a0 + 2) (mI M a0 3).toNatClampNeg) = 0 then gd (inR (mI (sI M (a0 + 2) (mI M a0 3).toNatClampNeg (0 : Int32)) a0 3) 9) (some (sI (sI M (a0 + 2) (mI M a0 3).toNatClampNeg (0 : Int32)) (a0 + 3) (mI (sI M (a0 + 2) (mI M a0 3).toNatClampNeg (0 : Int32)) a0 3).toNatClampNeg (0 : Int32))) else if x1 = (mI M (a0 + 3) (mI M a0 3).toNatClampNeg) then gd (inR (mI (sI M (a0 + 2) (mI M a0 3).toNatClampNeg (0 : Int32)) a0 3) 9) (some (sI (sI M (a0 + 2) (mI M a0 3).toNatClampNeg (0 : Int32)) (a0 + 3) (mI (sI M (a0 + 2) (mI M a0 3).toNatClampNeg (0 : Int32)) a0 3).toNatClampNeg (0 : Int32))) else gd (inR (mI (sI M (a0 + 2) (mI M a0 3).toNatClampNeg (1 : Int32)) a0 3) 9) (some (sI (sI M (a0 + 2) (mI M a0 3).toNatClampNeg (1 : Int32)) (a0 + 3) (mI (sI M (a0 + 2) (mI M a0 3).toNatClampNeg (1 : Int32)) a0 3).toNatClampNeg (0 : Int32))))
set_option maxRecDepth 100000 in
set_option maxHeartbeats 4000000 in
theorem c_X3_join (Z : Sys) {M : Mem} (hs : St M) (a0 : Nat) (x1 : Int32) (k_a0 : K0[a0]? = some (3, 11)) {q : Mem} (hf : f_X3_join a0 x1 M = some q) : Ct Z yX3_join cX3_join 2 none rm_X3_join [.ref (zs Z + a0), .int x1] M False (PostV q) := by
  refine Ct.of (by decide +kernel) (Nat.le_of_ble_eq_true rfl) (fun X hR hq _ => ?_)
  show G Z X Y_X3_join False 0 0 0 [(0, .ref (zs Z + a0)), (1, .int x1)] [] M
  replace hq : RetOk Z X none False (PostV q) 0 0 := hq
  unfold f_X3_join at hf
  refine G.aload_n 0 0 dX3_join_0 rfl rfl ?_
  refine G.getp 1 ck_3 1 (a0 + 2) (hs.k k_a0) (pt_3_1 hs k_a0).1 (by decide) (by decide +kernel) wd_128 dX3_join_1 ?_
  refine G.aload_n 4 0 dX3_join_4 rfl rfl ?_
  refine G.geti 5 ck_3 3 (hs.k k_a0) (by decide) (by decide +kernel) wd_130 dX3_join_5 ?_
  refine G.aload_n 8 0 dX3_join_8 rfl rfl ?_
  refine G.getp 9 ck_3 1 (a0 + 2) (hs.k k_a0) (pt_3_1 hs k_a0).1 (by decide) (by decide +kernel) wd_128 dX3_join_9 ?_
  refine G.aload_n 12 0 dX3_join_12 rfl rfl ?_
  refine G.geti 13 ck_3 3 (hs.k k_a0) (by decide) (by decide +kernel) wd_130 dX3_join_13 ?_
  obtain ⟨g1, hf⟩ := gd_e hf
  refine G.za 16 (mI M a0 3).toNatClampNeg (hs.k (pt_3_1 hs k_a0).2) g1 rfl dX3_join_16 ?_
  refine G.if_eq 17 37 dX3_join_17 (by decide) (fun h2 => ?_) (fun h2 => ?_)
  · replace hf := (if_pos h2).symm.trans hf
    refine G.iconst 37 (0 : Int32) dX3_join_37 (by decide +kernel) ?_
    refine G.zt 38 (mI M a0 3).toNatClampNeg (0 : Int32) (hs.k (pt_3_1 hs k_a0).2) g1 rfl (by decide +kernel) dX3_join_38 ?_
    refine G.aload_n 39 0 dX3_join_39 rfl rfl ?_
    refine G.getp 40 ck_3 2 (a0 + 3) ((St.i hs).k k_a0) (pt_3_2 (St.i hs) k_a0).1 (by decide) (by decide +kernel) wd_129 dX3_join_40 ?_
    refine G.aload_n 43 0 dX3_join_43 rfl rfl ?_
    refine G.geti 44 ck_3 3 ((St.i hs).k k_a0) (by decide) (by decide +kernel) wd_130 dX3_join_44 ?_
    refine G.iconst 47 (0 : Int32) dX3_join_47 (by decide +kernel) ?_
    obtain ⟨g3, hf⟩ := gd_e hf
    refine G.zt 48 (mI (sI M (a0 + 2) (mI M a0 3).toNatClampNeg (0 : Int32)) a0 3).toNatClampNeg (0 : Int32) ((St.i hs).k (pt_3_2 hs k_a0).2) g3 rfl (by decide +kernel) dX3_join_48 ?_
    (have hf9 := Option.some.inj hf; subst hf9)
    exact G.rV 49 hq dX3_join_49 (St.i (St.i hs))
  · replace hf := (if_neg h2).symm.trans hf
    refine G.iload_n 20 1 dX3_join_20 rfl rfl ?_
    refine G.aload_n 21 0 dX3_join_21 rfl rfl ?_
    refine G.getp 22 ck_3 2 (a0 + 3) (hs.k k_a0) (pt_3_2 hs k_a0).1 (by decide) (by decide +kernel) wd_129 dX3_join_22 ?_
    refine G.aload_n 25 0 dX3_join_25 rfl rfl ?_
    refine G.geti 26 ck_3 3 (hs.k k_a0) (by decide) (by decide +kernel) wd_130 dX3_join_26 ?_
    refine G.za 29 (mI M a0 3).toNatClampNeg (hs.k (pt_3_2 hs k_a0).2) g1 rfl dX3_join_29 ?_
    refine G.icmp_eq 30 37 dX3_join_30 (by decide) (fun h4 => ?_) (fun h4 => ?_)
    · replace hf := (if_pos h4).symm.trans hf
      refine G.iconst 37 (0 : Int32) dX3_join_37 (by decide +kernel) ?_
      refine G.zt 38 (mI M a0 3).toNatClampNeg (0 : Int32) (hs.k (pt_3_1 hs k_a0).2) g1 rfl (by decide +kernel) dX3_join_38 ?_
      refine G.aload_n 39 0 dX3_join_39 rfl rfl ?_
      refine G.getp 40 ck_3 2 (a0 + 3) ((St.i hs).k k_a0) (pt_3_2 (St.i hs) k_a0).1 (by decide) (by decide +kernel) wd_129 dX3_join_40 ?_
      refine G.aload_n 43 0 dX3_join_43 rfl rfl ?_
      refine G.geti 44 ck_3 3 ((St.i hs).k k_a0) (by decide) (by decide +kernel) wd_130 dX3_join_44 ?_
      refine G.iconst 47 (0 : Int32) dX3_join_47 (by decide +kernel) ?_
      obtain ⟨g5, hf⟩ := gd_e hf
      refine G.zt 48 (mI (sI M (a0 + 2) (mI M a0 3).toNatClampNeg (0 : Int32)) a0 3).toNatClampNeg (0 : Int32) ((St.i hs).k (pt_3_2 hs k_a0).2) g5 rfl (by decide +kernel) dX3_join_48 ?_
      (have hf9 := Option.some.inj hf; subst hf9)
      exact G.rV 49 hq dX3_join_49 (St.i (St.i hs))
    · replace hf := (if_neg h4).symm.trans hf
      refine G.iconst 33 (1 : Int32) dX3_join_33 (by decide +kernel) ?_
      refine G.goto 34 38 dX3_join_34 (by decide) ?_
      refine G.zt 38 (mI M a0 3).toNatClampNeg (1 : Int32) (hs.k (pt_3_1 hs k_a0).2) g1 rfl (by decide +kernel) dX3_join_38 ?_
      refine G.aload_n 39 0 dX3_join_39 rfl rfl ?_
      refine G.getp 40 ck_3 2 (a0 + 3) ((St.i hs).k k_a0) (pt_3_2 (St.i hs) k_a0).1 (by decide) (by decide +kernel) wd_129 dX3_join_40 ?_
      refine G.aload_n 43 0 dX3_join_43 rfl rfl ?_
      refine G.geti 44 ck_3 3 ((St.i hs).k k_a0) (by decide) (by decide +kernel) wd_130 dX3_join_44 ?_
      refine G.iconst 47 (0 : Int32) dX3_join_47 (by decide +kernel) ?_
      obtain ⟨g6, hf⟩ := gd_e hf
      refine G.zt 48 (mI (sI M (a0 + 2) (mI M a0 3).toNatClampNeg (1 : Int32)) a0 3).toNatClampNeg (0 : Int32) ((St.i hs).k (pt_3_2 hs k_a0).2) g6 rfl (by decide +kernel) dX3_join_48 ?_
      (have hf9 := Option.some.inj hf; subst hf9)
      exact G.rV 49 hq dX3_join_49 (St.i (St.i hs))
abbrev Y_X3_endTest : My := (cX3_endTest, RX3, 1)
def rm_X3_endTest : Room := { frames := 3, cells := 0, slots := 0, locals := 240 }
theorem dX3_endTest_0 : decode cX3_endTest 0 = .ok (.aload_n 0, 1) := by decide +kernel
theorem dX3_endTest_1 : decode cX3_endTest 1 = .ok (.getfield 31, 3) := by decide +kernel
theorem dX3_endTest_4 : decode cX3_endTest 4 = .ok (.ifCond .ne 4, 3) := by decide +kernel
theorem dX3_endTest_7 : decode cX3_endTest 7 = .ok (.return_, 1) := by decide +kernel
theorem dX3_endTest_8 : decode cX3_endTest 8 = .ok (.aload_n 0, 1) := by decide +kernel
theorem dX3_endTest_9 : decode cX3_endTest 9 = .ok (.invokevirtual 108, 3) := by decide +kernel
theorem dX3_endTest_12 : decode cX3_endTest 12 = .ok (.aload_n 0, 1) := by decide +kernel
theorem dX3_endTest_13 : decode cX3_endTest 13 = .ok (.aload_n 0, 1) := by decide +kernel
theorem dX3_endTest_14 : decode cX3_endTest 14 = .ok (.invokevirtual 121, 3) := by decide +kernel
theorem dX3_endTest_17 : decode cX3_endTest 17 = .ok (.invokevirtual 117, 3) := by decide +kernel
theorem dX3_endTest_20 : decode cX3_endTest 20 = .ok (.aload_n 0, 1) := by decide +kernel
theorem dX3_endTest_21 : decode cX3_endTest 21 = .ok (.iconst 0, 1) := by decide +kernel
theorem dX3_endTest_22 : decode cX3_endTest 22 = .ok (.putfield 31, 3) := by decide +kernel
theorem dX3_endTest_25 : decode cX3_endTest 25 = .ok (.aload_n 0, 1) := by decide +kernel
theorem dX3_endTest_26 : decode cX3_endTest 26 = .ok (.invokevirtual 28, 3) := by decide +kernel
theorem dX3_endTest_29 : decode cX3_endTest 29 = .ok (.return_, 1) := by decide +kernel
def f_X3_endTest (a0 : Nat) (M : Mem) : Option Mem := if (mI M a0 5) = 0 then some M else (f_X3_endProduct a0 M).bind fun q4 => (f_X3_join a0 (f_X3_compared a0 q4) q4).bind fun q10 => (f_X3_beginSum a0 (sI q10 a0 5 (0 : Int32))).bind fun q14 => some q14
set_option maxRecDepth 100000 in
set_option maxHeartbeats 4000000 in
theorem c_X3_endTest (Z : Sys) {M : Mem} (hs : St M) (a0 : Nat) (k_a0 : K0[a0]? = some (3, 11)) {q : Mem} (hf : f_X3_endTest a0 M = some q) : Ct Z yX3_endTest cX3_endTest 1 none rm_X3_endTest [.ref (zs Z + a0)] M False (PostV q) := by
  refine Ct.of (by decide +kernel) (Nat.le_of_ble_eq_true rfl) (fun X hR hq _ => ?_)
  show G Z X Y_X3_endTest False 0 0 0 [(0, .ref (zs Z + a0))] [] M
  replace hq : RetOk Z X none False (PostV q) 0 0 := hq
  unfold f_X3_endTest at hf
  refine G.aload_n 0 0 dX3_endTest_0 rfl rfl ?_
  refine G.geti 1 ck_3 5 (hs.k k_a0) (by decide) (by decide +kernel) wd_132 dX3_endTest_1 ?_
  refine G.if_ne 4 8 dX3_endTest_4 (by decide) (fun h1 => ?_) (fun h1 => ?_)
  · replace hf := (if_neg h1).symm.trans hf
    refine G.aload_n 8 0 dX3_endTest_8 rfl rfl ?_
    obtain ⟨q4, e5, hf⟩ := bd_e hf
    refine G.cvV 9 (As := []) ck_3 (hs.k k_a0) (c_X3_endProduct Z hs a0 k_a0 e5) mk_X3_endProduct vk_X3_endProduct rfl wd_1058 hR (by decide +kernel) ⟨rfl, rfl⟩ rfl (Nat.le_of_ble_eq_true rfl) dX3_endTest_9 (fun hs2 => ?_)
    refine G.aload_n 12 0 dX3_endTest_12 rfl rfl ?_
    refine G.aload_n 13 0 dX3_endTest_13 rfl rfl ?_
    refine G.cvZ 14 (As := []) ck_3 (hs2.k k_a0) (c_X3_compared Z hs2 a0 k_a0 rfl) mk_X3_compared vk_X3_compared rfl wd_1066 hR (by decide +kernel) ⟨rfl, rfl⟩ rfl (Nat.le_of_ble_eq_true rfl) dX3_endTest_14 (fun hs6 z7 => ?_)
    obtain ⟨q10, e11, hf⟩ := bd_e hf
    refine G.cvV 17 (As := [.int (f_X3_compared a0 q4)]) ck_3 (hs6.k k_a0) (c_X3_join Z hs6 a0 (f_X3_compared a0 q4) k_a0 e11) mk_X3_join vk_X3_join rfl wd_1070 hR (by decide +kernel) ⟨rfl, rfl⟩ rfl (Nat.le_of_ble_eq_true rfl) dX3_endTest_17 (fun hs8 => ?_)
    refine G.aload_n 20 0 dX3_endTest_20 rfl rfl ?_
    refine G.iconst 21 (0 : Int32) dX3_endTest_21 (by decide +kernel) ?_
    refine G.puti 22 ck_3 5 (hs8.k k_a0) (by decide) (by decide +kernel) rfl wd_132 rfl rfl dX3_endTest_22 ?_
    refine G.aload_n 25 0 dX3_endTest_25 rfl rfl ?_
    obtain ⟨q14, e15, hf⟩ := bd_e hf
    refine G.cvV 26 (As := []) ck_3 ((St.i hs8).k k_a0) (c_X3_beginSum Z (St.i hs8) a0 k_a0 e15) mk_X3_beginSum vk_X3_beginSum rfl wd_1032 hR (by decide +kernel) ⟨rfl, rfl⟩ rfl (Nat.le_of_ble_eq_true rfl) dX3_endTest_26 (fun hs12 => ?_)
    (have hf9 := Option.some.inj hf; subst hf9)
    exact G.rV 29 hq dX3_endTest_29 hs12
  · replace hf := (if_pos h1).symm.trans hf
    (have hf9 := Option.some.inj hf; subst hf9)
    exact G.rV 7 hq dX3_endTest_7 hs
abbrev Y_X3_takeJoint : My := (cX3_takeJoint, RX3, 2)
def rm_X3_takeJoint : Room := { frames := 2, cells := 0, slots := 0, locals := 221 }
theorem dX3_takeJoint_0 : decode cX3_takeJoint 0 = .ok (.iload_n 1, 1) := by decide +kernel
theorem dX3_takeJoint_1 : decode cX3_takeJoint 1 = .ok (.bipush 124, 2) := by decide +kernel
theorem dX3_takeJoint_3 : decode cX3_takeJoint 3 = .ok (.if_icmp .ne 54, 3) := by decide +kernel
theorem dX3_takeJoint_6 : decode cX3_takeJoint 6 = .ok (.aload_n 0, 1) := by decide +kernel
theorem dX3_takeJoint_7 : decode cX3_takeJoint 7 = .ok (.getfield 9, 3) := by decide +kernel
theorem dX3_takeJoint_10 : decode cX3_takeJoint 10 = .ok (.aload_n 0, 1) := by decide +kernel
theorem dX3_takeJoint_11 : decode cX3_takeJoint 11 = .ok (.getfield 21, 3) := by decide +kernel
theorem dX3_takeJoint_14 : decode cX3_takeJoint 14 = .ok (.aload_n 0, 1) := by decide +kernel
theorem dX3_takeJoint_15 : decode cX3_takeJoint 15 = .ok (.getfield 9, 3) := by decide +kernel
theorem dX3_takeJoint_18 : decode cX3_takeJoint 18 = .ok (.aload_n 0, 1) := by decide +kernel
theorem dX3_takeJoint_19 : decode cX3_takeJoint 19 = .ok (.getfield 21, 3) := by decide +kernel
theorem dX3_takeJoint_22 : decode cX3_takeJoint 22 = .ok (.baload, 1) := by decide +kernel
theorem dX3_takeJoint_23 : decode cX3_takeJoint 23 = .ok (.ifCond .ne 15, 3) := by decide +kernel
theorem dX3_takeJoint_26 : decode cX3_takeJoint 26 = .ok (.aload_n 0, 1) := by decide +kernel
theorem dX3_takeJoint_27 : decode cX3_takeJoint 27 = .ok (.getfield 15, 3) := by decide +kernel
theorem dX3_takeJoint_30 : decode cX3_takeJoint 30 = .ok (.aload_n 0, 1) := by decide +kernel
theorem dX3_takeJoint_31 : decode cX3_takeJoint 31 = .ok (.getfield 21, 3) := by decide +kernel
theorem dX3_takeJoint_34 : decode cX3_takeJoint 34 = .ok (.baload, 1) := by decide +kernel
theorem dX3_takeJoint_35 : decode cX3_takeJoint 35 = .ok (.ifCond .eq 7, 3) := by decide +kernel
theorem dX3_takeJoint_38 : decode cX3_takeJoint 38 = .ok (.iconst 1, 1) := by decide +kernel
theorem dX3_takeJoint_39 : decode cX3_takeJoint 39 = .ok (.goto 4, 3) := by decide +kernel
theorem dX3_takeJoint_42 : decode cX3_takeJoint 42 = .ok (.iconst 0, 1) := by decide +kernel
theorem dX3_takeJoint_43 : decode cX3_takeJoint 43 = .ok (.bastore, 1) := by decide +kernel
theorem dX3_takeJoint_44 : decode cX3_takeJoint 44 = .ok (.aload_n 0, 1) := by decide +kernel
theorem dX3_takeJoint_45 : decode cX3_takeJoint 45 = .ok (.getfield 15, 3) := by decide +kernel
theorem dX3_takeJoint_48 : decode cX3_takeJoint 48 = .ok (.aload_n 0, 1) := by decide +kernel
theorem dX3_takeJoint_49 : decode cX3_takeJoint 49 = .ok (.getfield 21, 3) := by decide +kernel
theorem dX3_takeJoint_52 : decode cX3_takeJoint 52 = .ok (.iconst 1, 1) := by decide +kernel
theorem dX3_takeJoint_53 : decode cX3_takeJoint 53 = .ok (.bastore, 1) := by decide +kernel
theorem dX3_takeJoint_54 : decode cX3_takeJoint 54 = .ok (.goto 95, 3) := by decide +kernel
theorem dX3_takeJoint_57 : decode cX3_takeJoint 57 = .ok (.iload_n 1, 1) := by decide +kernel
theorem dX3_takeJoint_58 : decode cX3_takeJoint 58 = .ok (.bipush 40, 2) := by decide +kernel
theorem dX3_takeJoint_60 : decode cX3_takeJoint 60 = .ok (.if_icmp .ne 29, 3) := by decide +kernel
theorem dX3_takeJoint_63 : decode cX3_takeJoint 63 = .ok (.aload_n 0, 1) := by decide +kernel
theorem dX3_takeJoint_64 : decode cX3_takeJoint 64 = .ok (.getfield 21, 3) := by decide +kernel
theorem dX3_takeJoint_67 : decode cX3_takeJoint 67 = .ok (.bipush 8, 2) := by decide +kernel
theorem dX3_takeJoint_69 : decode cX3_takeJoint 69 = .ok (.if_icmp .ge 20, 3) := by decide +kernel
theorem dX3_takeJoint_72 : decode cX3_takeJoint 72 = .ok (.aload_n 0, 1) := by decide +kernel
theorem dX3_takeJoint_73 : decode cX3_takeJoint 73 = .ok (.dup, 1) := by decide +kernel
theorem dX3_takeJoint_74 : decode cX3_takeJoint 74 = .ok (.getfield 21, 3) := by decide +kernel
theorem dX3_takeJoint_77 : decode cX3_takeJoint 77 = .ok (.iconst 1, 1) := by decide +kernel
theorem dX3_takeJoint_78 : decode cX3_takeJoint 78 = .ok (.iadd, 1) := by decide +kernel
theorem dX3_takeJoint_79 : decode cX3_takeJoint 79 = .ok (.putfield 21, 3) := by decide +kernel
theorem dX3_takeJoint_82 : decode cX3_takeJoint 82 = .ok (.aload_n 0, 1) := by decide +kernel
theorem dX3_takeJoint_83 : decode cX3_takeJoint 83 = .ok (.invokevirtual 25, 3) := by decide +kernel
theorem dX3_takeJoint_86 : decode cX3_takeJoint 86 = .ok (.goto 63, 3) := by decide +kernel
theorem dX3_takeJoint_89 : decode cX3_takeJoint 89 = .ok (.iload_n 1, 1) := by decide +kernel
theorem dX3_takeJoint_90 : decode cX3_takeJoint 90 = .ok (.bipush 41, 2) := by decide +kernel
theorem dX3_takeJoint_92 : decode cX3_takeJoint 92 = .ok (.if_icmp .ne 57, 3) := by decide +kernel
theorem dX3_takeJoint_95 : decode cX3_takeJoint 95 = .ok (.aload_n 0, 1) := by decide +kernel
theorem dX3_takeJoint_96 : decode cX3_takeJoint 96 = .ok (.getfield 21, 3) := by decide +kernel
theorem dX3_takeJoint_99 : decode cX3_takeJoint 99 = .ok (.ifCond .le 50, 3) := by decide +kernel
theorem dX3_takeJoint_102 : decode cX3_takeJoint 102 = .ok (.aload_n 0, 1) := by decide +kernel
theorem dX3_takeJoint_103 : decode cX3_takeJoint 103 = .ok (.dup, 1) := by decide +kernel
theorem dX3_takeJoint_104 : decode cX3_takeJoint 104 = .ok (.getfield 21, 3) := by decide +kernel
theorem dX3_takeJoint_107 : decode cX3_takeJoint 107 = .ok (.iconst 1, 1) := by decide +kernel
theorem dX3_takeJoint_108 : decode cX3_takeJoint 108 = .ok (.isub, 1) := by decide +kernel
theorem dX3_takeJoint_109 : decode cX3_takeJoint 109 = .ok (.putfield 21, 3) := by decide +kernel
theorem dX3_takeJoint_112 : decode cX3_takeJoint 112 = .ok (.aload_n 0, 1) := by decide +kernel
theorem dX3_takeJoint_113 : decode cX3_takeJoint 113 = .ok (.aload_n 0, 1) := by decide +kernel
theorem dX3_takeJoint_114 : decode cX3_takeJoint 114 = .ok (.getfield 9, 3) := by decide +kernel
theorem dX3_takeJoint_117 : decode cX3_takeJoint 117 = .ok (.aload_n 0, 1) := by decide +kernel
theorem dX3_takeJoint_118 : decode cX3_takeJoint 118 = .ok (.getfield 21, 3) := by decide +kernel
theorem dX3_takeJoint_121 : decode cX3_takeJoint 121 = .ok (.iconst 1, 1) := by decide +kernel
theorem dX3_takeJoint_122 : decode cX3_takeJoint 122 = .ok (.iadd, 1) := by decide +kernel
theorem dX3_takeJoint_123 : decode cX3_takeJoint 123 = .ok (.baload, 1) := by decide +kernel
theorem dX3_takeJoint_124 : decode cX3_takeJoint 124 = .ok (.ifCond .ne 17, 3) := by decide +kernel
theorem dX3_takeJoint_127 : decode cX3_takeJoint 127 = .ok (.aload_n 0, 1) := by decide +kernel
theorem dX3_takeJoint_128 : decode cX3_takeJoint 128 = .ok (.getfield 15, 3) := by decide +kernel
theorem dX3_takeJoint_131 : decode cX3_takeJoint 131 = .ok (.aload_n 0, 1) := by decide +kernel
theorem dX3_takeJoint_132 : decode cX3_takeJoint 132 = .ok (.getfield 21, 3) := by decide +kernel
theorem dX3_takeJoint_135 : decode cX3_takeJoint 135 = .ok (.iconst 1, 1) := by decide +kernel
theorem dX3_takeJoint_136 : decode cX3_takeJoint 136 = .ok (.iadd, 1) := by decide +kernel
theorem dX3_takeJoint_137 : decode cX3_takeJoint 137 = .ok (.baload, 1) := by decide +kernel
theorem dX3_takeJoint_138 : decode cX3_takeJoint 138 = .ok (.ifCond .eq 7, 3) := by decide +kernel
theorem dX3_takeJoint_141 : decode cX3_takeJoint 141 = .ok (.iconst 1, 1) := by decide +kernel
theorem dX3_takeJoint_142 : decode cX3_takeJoint 142 = .ok (.goto 4, 3) := by decide +kernel
theorem dX3_takeJoint_145 : decode cX3_takeJoint 145 = .ok (.iconst 0, 1) := by decide +kernel
theorem dX3_takeJoint_146 : decode cX3_takeJoint 146 = .ok (.invokevirtual 117, 3) := by decide +kernel
theorem dX3_takeJoint_149 : decode cX3_takeJoint 149 = .ok (.return_, 1) := by decide +kernel
def B_X3_takeJoint_89 (a0 : Nat) (x1 : Int32) (M : Mem) : Option Mem := if x1 = (41 : Int32) then if (mI M a0 3) ≤ 0 then some M else gd (inR ((mI (sI M a0 3 ((mI M a0 3) - (1 : Int32))) a0 3) + (1 : Int32)) 9) (if (mI (sI M a0 3 ((mI M a0 3) - (1 : Int32))) (a0 + 1) ((mI (sI M a0 3 ((mI M a0 3) - (1 : Int32))) a0 3) + (1 : Int32)).toNatClampNeg) = 0 then if (mI (sI M a0 3 ((mI M a0 3) - (1 : Int32))) (a0 + 2) ((mI (sI M a0 3 ((mI M a0 3) - (1 : Int32))) a0 3) + (1 : Int32)).toNatClampNeg) = 0 then (f_X3_join a0 (0 : Int32) (sI M a0 3 ((mI M a0 3) - (1 : Int32)))).bind fun q14 => some q14 else (f_X3_join a0 (1 : Int32) (sI M a0 3 ((mI M a0 3) - (1 : Int32)))).bind fun q18 => some q18 else (f_X3_join a0 (1 : Int32) (sI M a0 3 ((mI M a0 3) - (1 : Int32)))).bind fun q9 => some q9) else some M
def f_X3_takeJoint (a0 : Nat) (x1 : Int32) (M : Mem) : Option Mem := if x1 = (124 : Int32) then gd (inR (mI M a0 3) 9) (if (mI M (a0 + 1) (mI M a0 3).toNatClampNeg) = 0 then if (mI M (a0 + 2) (mI M a0 3).toNatClampNeg) = 0 then gd (inR (mI (sI M (a0 + 1) (mI M a0 3).toNatClampNeg (0 : Int32)) a0 3) 9) (some (sI (sI M (a0 + 1) (mI M a0 3).toNatClampNeg (0 : Int32)) (a0 + 2) (mI (sI M (a0 + 1) (mI M a0 3).toNatClampNeg (0 : Int32)) a0 3).toNatClampNeg (1 : Int32))) else gd (inR (mI (sI M (a0 + 1) (mI M a0 3).toNatClampNeg (1 : Int32)) a0 3) 9) (some (sI (sI M (a0 + 1) (mI M a0 3).toNatClampNeg (1 : Int32)) (a0 + 2) (mI (sI M (a0 + 1) (mI M a0 3).toNatClampNeg (1 : Int32)) a0 3).toNatClampNeg (1 : Int32))) else gd (inR (mI (sI M (a0 + 1) (mI M a0 3).toNatClampNeg (1 : Int32)) a0 3) 9) (some (sI (sI M (a0 + 1) (mI M a0 3).toNatClampNeg (1 : Int32)) (a0 + 2) (mI (sI M (a0 + 1) (mI M a0 3).toNatClampNeg (1 : Int32)) a0 3).toNatClampNeg (1 : Int32)))) else if x1 = (40 : Int32) then if (8 : Int32) ≤ (mI M a0 3) then B_X3_takeJoint_89 a0 x1 M else (f_X3_beginGroup a0 (sI M a0 3 ((mI M a0 3) + (1 : Int32)))).bind fun q23 => some q23 else B_X3_takeJoint_89 a0 x1 M
set_option maxRecDepth 100000 in
set_option maxHeartbeats 4000000 in
theorem b_X3_takeJoint_89 (Z : Sys) (X : Cx) (hR : xR X = rm_X3_takeJoint) {q : Mem} (hq : RetOk Z X none False (PostV q) 0 0) (a0 : Nat) (x1 : Int32) {M : Mem} (hs : St M) (k_a0 : K0[a0]? = some (3, 11)) (hf : B_X3_takeJoint_89 a0 x1 M = some q) : G Z X Y_X3_takeJoint False 0 0 89 [(0, .ref (zs Z + a0)), (1, .int x1)] [] M := by
  unfold B_X3_takeJoint_89 at hf
  refine G.iload_n 89 1 dX3_takeJoint_89 rfl rfl ?_
  refine G.bipush 90 (41 : Int32) dX3_takeJoint_90 (by decide +kernel) ?_
  refine G.icmp_ne 92 149 dX3_takeJoint_92 (by decide) (fun h3 => ?_) (fun h3 => ?_)
  · replace hf := (if_neg h3).symm.trans hf
    (have hf9 := Option.some.inj hf; subst hf9)
    exact G.rV 149 hq dX3_takeJoint_149 hs
  · replace hf := (if_pos h3).symm.trans hf
    refine G.aload_n 95 0 dX3_takeJoint_95 rfl rfl ?_
    refine G.geti 96 ck_3 3 (hs.k k_a0) (by decide) (by decide +kernel) wd_130 dX3_takeJoint_96 ?_
    refine G.if_le 99 149 dX3_takeJoint_99 (by decide) (fun h4 => ?_) (fun h4 => ?_)
    · replace hf := (if_pos h4).symm.trans hf
      (have hf9 := Option.some.inj hf; subst hf9)
      exact G.rV 149 hq dX3_takeJoint_149 hs
    · replace hf := (if_neg h4).symm.trans hf
      refine G.aload_n 102 0 dX3_takeJoint_102 rfl rfl ?_
      refine G.dup 103 dX3_takeJoint_103 rfl ?_
      refine G.geti 104 ck_3 3 (hs.k k_a0) (by decide) (by decide +kernel) wd_130 dX3_takeJoint_104 ?_
      refine G.iconst 107 (1 : Int32) dX3_takeJoint_107 (by decide +kernel) ?_
      refine G.isub 108 dX3_takeJoint_108 ?_
      refine G.puti 109 ck_3 3 (hs.k k_a0) (by decide) (by decide +kernel) rfl wd_130 rfl rfl dX3_takeJoint_109 ?_
      refine G.aload_n 112 0 dX3_takeJoint_112 rfl rfl ?_
      refine G.aload_n 113 0 dX3_takeJoint_113 rfl rfl ?_
      refine G.getp 114 ck_3 0 (a0 + 1) ((St.i hs).k k_a0) (pt_3_0 (St.i hs) k_a0).1 (by decide) (by decide +kernel) wd_127 dX3_takeJoint_114 ?_
      refine G.aload_n 117 0 dX3_takeJoint_117 rfl rfl ?_
      refine G.geti 118 ck_3 3 ((St.i hs).k k_a0) (by decide) (by decide +kernel) wd_130 dX3_takeJoint_118 ?_
      refine G.iconst 121 (1 : Int32) dX3_takeJoint_121 (by decide +kernel) ?_
      refine G.iadd 122 dX3_takeJoint_122 ?_
      obtain ⟨g5, hf⟩ := gd_e hf
      refine G.za 123 ((mI (sI M a0 3 ((mI M a0 3) - (1 : Int32))) a0 3) + (1 : Int32)).toNatClampNeg ((St.i hs).k (pt_3_0 hs k_a0).2) g5 rfl dX3_takeJoint_123 ?_
      refine G.if_ne 124 141 dX3_takeJoint_124 (by decide) (fun h6 => ?_) (fun h6 => ?_)
      · replace hf := (if_neg h6).symm.trans hf
        refine G.iconst 141 (1 : Int32) dX3_takeJoint_141 (by decide +kernel) ?_
        refine G.goto 142 146 dX3_takeJoint_142 (by decide) ?_
        obtain ⟨q9, e10, hf⟩ := bd_e hf
        refine G.cvV 146 (As := [.int (1 : Int32)]) ck_3 ((St.i hs).k k_a0) (c_X3_join Z (St.i hs) a0 (1 : Int32) k_a0 e10) mk_X3_join vk_X3_join rfl wd_1070 hR (by decide +kernel) ⟨rfl, rfl⟩ rfl (Nat.le_of_ble_eq_true rfl) dX3_takeJoint_146 (fun hs7 => ?_)
        (have hf9 := Option.some.inj hf; subst hf9)
        exact G.rV 149 hq dX3_takeJoint_149 hs7
      · replace hf := (if_pos h6).symm.trans hf
        refine G.aload_n 127 0 dX3_takeJoint_127 rfl rfl ?_
        refine G.getp 128 ck_3 1 (a0 + 2) ((St.i hs).k k_a0) (pt_3_1 (St.i hs) k_a0).1 (by decide) (by decide +kernel) wd_128 dX3_takeJoint_128 ?_
        refine G.aload_n 131 0 dX3_takeJoint_131 rfl rfl ?_
        refine G.geti 132 ck_3 3 ((St.i hs).k k_a0) (by decide) (by decide +kernel) wd_130 dX3_takeJoint_132 ?_
        refine G.iconst 135 (1 : Int32) dX3_takeJoint_135 (by decide +kernel) ?_
        refine G.iadd 136 dX3_takeJoint_136 ?_
        refine G.za 137 ((mI (sI M a0 3 ((mI M a0 3) - (1 : Int32))) a0 3) + (1 : Int32)).toNatClampNeg ((St.i hs).k (pt_3_1 hs k_a0).2) g5 rfl dX3_takeJoint_137 ?_
        refine G.if_eq 138 145 dX3_takeJoint_138 (by decide) (fun h11 => ?_) (fun h11 => ?_)
        · replace hf := (if_pos h11).symm.trans hf
          refine G.iconst 145 (0 : Int32) dX3_takeJoint_145 (by decide +kernel) ?_
          obtain ⟨q14, e15, hf⟩ := bd_e hf
          refine G.cvV 146 (As := [.int (0 : Int32)]) ck_3 ((St.i hs).k k_a0) (c_X3_join Z (St.i hs) a0 (0 : Int32) k_a0 e15) mk_X3_join vk_X3_join rfl wd_1070 hR (by decide +kernel) ⟨rfl, rfl⟩ rfl (Nat.le_of_ble_eq_true rfl) dX3_takeJoint_146 (fun hs12 => ?_)
          (have hf9 := Option.some.inj hf; subst hf9)
          exact G.rV 149 hq dX3_takeJoint_149 hs12
        · replace hf := (if_neg h11).symm.trans hf
          refine G.iconst 141 (1 : Int32) dX3_takeJoint_141 (by decide +kernel) ?_
          refine G.goto 142 146 dX3_takeJoint_142 (by decide) ?_
          obtain ⟨q18, e19, hf⟩ := bd_e hf
          refine G.cvV 146 (As := [.int (1 : Int32)]) ck_3 ((St.i hs).k k_a0) (c_X3_join Z (St.i hs) a0 (1 : Int32) k_a0 e19) mk_X3_join vk_X3_join rfl wd_1070 hR (by decide +kernel) ⟨rfl, rfl⟩ rfl (Nat.le_of_ble_eq_true rfl) dX3_takeJoint_146 (fun hs16 => ?_)
          (have hf9 := Option.some.inj hf; subst hf9)
          exact G.rV 149 hq dX3_takeJoint_149 hs16
set_option maxRecDepth 100000 in
set_option maxHeartbeats 4000000 in
theorem c_X3_takeJoint (Z : Sys) {M : Mem} (hs : St M) (a0 : Nat) (x1 : Int32) (k_a0 : K0[a0]? = some (3, 11)) {q : Mem} (hf : f_X3_takeJoint a0 x1 M = some q) : Ct Z yX3_takeJoint cX3_takeJoint 2 none rm_X3_takeJoint [.ref (zs Z + a0), .int x1] M False (PostV q) := by
  refine Ct.of (by decide +kernel) (Nat.le_of_ble_eq_true rfl) (fun X hR hq _ => ?_)
  show G Z X Y_X3_takeJoint False 0 0 0 [(0, .ref (zs Z + a0)), (1, .int x1)] [] M
  replace hq : RetOk Z X none False (PostV q) 0 0 := hq
  unfold f_X3_takeJoint at hf
  refine G.iload_n 0 1 dX3_takeJoint_0 rfl rfl ?_
  refine G.bipush 1 (124 : Int32) dX3_takeJoint_1 (by decide +kernel) ?_
  refine G.icmp_ne 3 57 dX3_takeJoint_3 (by decide) (fun h1 => ?_) (fun h1 => ?_)
  · replace hf := (if_neg h1).symm.trans hf
    refine G.iload_n 57 1 dX3_takeJoint_57 rfl rfl ?_
    refine G.bipush 58 (40 : Int32) dX3_takeJoint_58 (by decide +kernel) ?_
    refine G.icmp_ne 60 89 dX3_takeJoint_60 (by decide) (fun h2 => ?_) (fun h2 => ?_)
    · replace hf := (if_neg h2).symm.trans hf
      exact b_X3_takeJoint_89 Z X hR hq a0 x1 hs k_a0 hf
    · replace hf := (if_pos h2).symm.trans hf
      refine G.aload_n 63 0 dX3_takeJoint_63 rfl rfl ?_
      refine G.geti 64 ck_3 3 (hs.k k_a0) (by decide) (by decide +kernel) wd_130 dX3_takeJoint_64 ?_
      refine G.bipush 67 (8 : Int32) dX3_takeJoint_67 (by decide +kernel) ?_
      refine G.icmp_ge 69 89 dX3_takeJoint_69 (by decide) (fun h20 => ?_) (fun h20 => ?_)
      · replace hf := (if_pos h20).symm.trans hf
        exact b_X3_takeJoint_89 Z X hR hq a0 x1 hs k_a0 hf
      · replace hf := (if_neg h20).symm.trans hf
        refine G.aload_n 72 0 dX3_takeJoint_72 rfl rfl ?_
        refine G.dup 73 dX3_takeJoint_73 rfl ?_
        refine G.geti 74 ck_3 3 (hs.k k_a0) (by decide) (by decide +kernel) wd_130 dX3_takeJoint_74 ?_
        refine G.iconst 77 (1 : Int32) dX3_takeJoint_77 (by decide +kernel) ?_
        refine G.iadd 78 dX3_takeJoint_78 ?_
        refine G.puti 79 ck_3 3 (hs.k k_a0) (by decide) (by decide +kernel) rfl wd_130 rfl rfl dX3_takeJoint_79 ?_
        refine G.aload_n 82 0 dX3_takeJoint_82 rfl rfl ?_
        obtain ⟨q23, e24, hf⟩ := bd_e hf
        refine G.cvV 83 (As := []) ck_3 ((St.i hs).k k_a0) (c_X3_beginGroup Z (St.i hs) a0 k_a0 e24) mk_X3_beginGroup vk_X3_beginGroup rfl wd_1028 hR (by decide +kernel) ⟨rfl, rfl⟩ rfl (Nat.le_of_ble_eq_true rfl) dX3_takeJoint_83 (fun hs21 => ?_)
        refine G.goto 86 149 dX3_takeJoint_86 (by decide) ?_
        (have hf9 := Option.some.inj hf; subst hf9)
        exact G.rV 149 hq dX3_takeJoint_149 hs21
  · replace hf := (if_pos h1).symm.trans hf
    refine G.aload_n 6 0 dX3_takeJoint_6 rfl rfl ?_
    refine G.getp 7 ck_3 0 (a0 + 1) (hs.k k_a0) (pt_3_0 hs k_a0).1 (by decide) (by decide +kernel) wd_127 dX3_takeJoint_7 ?_
    refine G.aload_n 10 0 dX3_takeJoint_10 rfl rfl ?_
    refine G.geti 11 ck_3 3 (hs.k k_a0) (by decide) (by decide +kernel) wd_130 dX3_takeJoint_11 ?_
    refine G.aload_n 14 0 dX3_takeJoint_14 rfl rfl ?_
    refine G.getp 15 ck_3 0 (a0 + 1) (hs.k k_a0) (pt_3_0 hs k_a0).1 (by decide) (by decide +kernel) wd_127 dX3_takeJoint_15 ?_
    refine G.aload_n 18 0 dX3_takeJoint_18 rfl rfl ?_
    refine G.geti 19 ck_3 3 (hs.k k_a0) (by decide) (by decide +kernel) wd_130 dX3_takeJoint_19 ?_
    obtain ⟨g25, hf⟩ := gd_e hf
    refine G.za 22 (mI M a0 3).toNatClampNeg (hs.k (pt_3_0 hs k_a0).2) g25 rfl dX3_takeJoint_22 ?_
    refine G.if_ne 23 38 dX3_takeJoint_23 (by decide) (fun h26 => ?_) (fun h26 => ?_)
    · replace hf := (if_neg h26).symm.trans hf
      refine G.iconst 38 (1 : Int32) dX3_takeJoint_38 (by decide +kernel) ?_
      refine G.goto 39 43 dX3_takeJoint_39 (by decide) ?_
      refine G.zt 43 (mI M a0 3).toNatClampNeg (1 : Int32) (hs.k (pt_3_0 hs k_a0).2) g25 rfl (by decide +kernel) dX3_takeJoint_43 ?_
      refine G.aload_n 44 0 dX3_takeJoint_44 rfl rfl ?_
      refine G.getp 45 ck_3 1 (a0 + 2) ((St.i hs).k k_a0) (pt_3_1 (St.i hs) k_a0).1 (by decide) (by decide +kernel) wd_128 dX3_takeJoint_45 ?_
      refine G.aload_n 48 0 dX3_takeJoint_48 rfl rfl ?_
      refine G.geti 49 ck_3 3 ((St.i hs).k k_a0) (by decide) (by decide +kernel) wd_130 dX3_takeJoint_49 ?_
      refine G.iconst 52 (1 : Int32) dX3_takeJoint_52 (by decide +kernel) ?_
      obtain ⟨g27, hf⟩ := gd_e hf
      refine G.zt 53 (mI (sI M (a0 + 1) (mI M a0 3).toNatClampNeg (1 : Int32)) a0 3).toNatClampNeg (1 : Int32) ((St.i hs).k (pt_3_1 hs k_a0).2) g27 rfl (by decide +kernel) dX3_takeJoint_53 ?_
      refine G.goto 54 149 dX3_takeJoint_54 (by decide) ?_
      (have hf9 := Option.some.inj hf; subst hf9)
      exact G.rV 149 hq dX3_takeJoint_149 (St.i (St.i hs))
    · replace hf := (if_pos h26).symm.trans hf
      refine G.aload_n 26 0 dX3_takeJoint_26 rfl rfl ?_
      refine G.getp 27 ck_3 1 (a0 + 2) (hs.k k_a0) (pt_3_1 hs k_a0).1 (by decide) (by decide +kernel) wd_128 dX3_takeJoint_27 ?_
      refine G.aload_n 30 0 dX3_takeJoint_30 rfl rfl ?_
      refine G.geti 31 ck_3 3 (hs.k k_a0) (by decide) (by decide +kernel) wd_130 dX3_takeJoint_31 ?_
      refine G.za 34 (mI M a0 3).toNatClampNeg (hs.k (pt_3_1 hs k_a0).2) g25 rfl dX3_takeJoint_34 ?_
      refine G.if_eq 35 42 dX3_takeJoint_35 (by decide) (fun h28 => ?_) (fun h28 => ?_)
      · replace hf := (if_pos h28).symm.trans hf
        refine G.iconst 42 (0 : Int32) dX3_takeJoint_42 (by decide +kernel) ?_
        refine G.zt 43 (mI M a0 3).toNatClampNeg (0 : Int32) (hs.k (pt_3_0 hs k_a0).2) g25 rfl (by decide +kernel) dX3_takeJoint_43 ?_
        refine G.aload_n 44 0 dX3_takeJoint_44 rfl rfl ?_
        refine G.getp 45 ck_3 1 (a0 + 2) ((St.i hs).k k_a0) (pt_3_1 (St.i hs) k_a0).1 (by decide) (by decide +kernel) wd_128 dX3_takeJoint_45 ?_
        refine G.aload_n 48 0 dX3_takeJoint_48 rfl rfl ?_
        refine G.geti 49 ck_3 3 ((St.i hs).k k_a0) (by decide) (by decide +kernel) wd_130 dX3_takeJoint_49 ?_
        refine G.iconst 52 (1 : Int32) dX3_takeJoint_52 (by decide +kernel) ?_
        obtain ⟨g29, hf⟩ := gd_e hf
        refine G.zt 53 (mI (sI M (a0 + 1) (mI M a0 3).toNatClampNeg (0 : Int32)) a0 3).toNatClampNeg (1 : Int32) ((St.i hs).k (pt_3_1 hs k_a0).2) g29 rfl (by decide +kernel) dX3_takeJoint_53 ?_
        refine G.goto 54 149 dX3_takeJoint_54 (by decide) ?_
        (have hf9 := Option.some.inj hf; subst hf9)
        exact G.rV 149 hq dX3_takeJoint_149 (St.i (St.i hs))
      · replace hf := (if_neg h28).symm.trans hf
        refine G.iconst 38 (1 : Int32) dX3_takeJoint_38 (by decide +kernel) ?_
        refine G.goto 39 43 dX3_takeJoint_39 (by decide) ?_
        refine G.zt 43 (mI M a0 3).toNatClampNeg (1 : Int32) (hs.k (pt_3_0 hs k_a0).2) g25 rfl (by decide +kernel) dX3_takeJoint_43 ?_
        refine G.aload_n 44 0 dX3_takeJoint_44 rfl rfl ?_
        refine G.getp 45 ck_3 1 (a0 + 2) ((St.i hs).k k_a0) (pt_3_1 (St.i hs) k_a0).1 (by decide) (by decide +kernel) wd_128 dX3_takeJoint_45 ?_
        refine G.aload_n 48 0 dX3_takeJoint_48 rfl rfl ?_
        refine G.geti 49 ck_3 3 ((St.i hs).k k_a0) (by decide) (by decide +kernel) wd_130 dX3_takeJoint_49 ?_
        refine G.iconst 52 (1 : Int32) dX3_takeJoint_52 (by decide +kernel) ?_
        obtain ⟨g30, hf⟩ := gd_e hf
        refine G.zt 53 (mI (sI M (a0 + 1) (mI M a0 3).toNatClampNeg (1 : Int32)) a0 3).toNatClampNeg (1 : Int32) ((St.i hs).k (pt_3_1 hs k_a0).2) g30 rfl (by decide +kernel) dX3_takeJoint_53 ?_
        refine G.goto 54 149 dX3_takeJoint_54 (by decide) ?_
        (have hf9 := Option.some.inj hf; subst hf9)
        exact G.rV 149 hq dX3_takeJoint_149 (St.i (St.i hs))
abbrev Y_X3_takeSign : My := (cX3_takeSign, RX3, 2)
def rm_X3_takeSign : Room := { frames := 4, cells := 0, slots := 0, locals := 260 }
theorem dX3_takeSign_0 : decode cX3_takeSign 0 = .ok (.iload_n 1, 1) := by decide +kernel
theorem dX3_takeSign_1 : decode cX3_takeSign 1 = .ok (.tableswitch 208 33 62 #[179, 208, 208, 208, 135, 208, 208, 208, 208, 135, 143, 208, 143, 208, 208, 208, 208, 208, 208, 208, 208, 208, 208, 208, 208, 208, 208, 155, 155, 155], 135) := by decide +kernel
theorem dX3_takeSign_136 : decode cX3_takeSign 136 = .ok (.aload_n 0, 1) := by decide +kernel
theorem dX3_takeSign_137 : decode cX3_takeSign 137 = .ok (.iload_n 1, 1) := by decide +kernel
theorem dX3_takeSign_138 : decode cX3_takeSign 138 = .ok (.putfield 105, 3) := by decide +kernel
theorem dX3_takeSign_141 : decode cX3_takeSign 141 = .ok (.goto 77, 3) := by decide +kernel
theorem dX3_takeSign_144 : decode cX3_takeSign 144 = .ok (.aload_n 0, 1) := by decide +kernel
theorem dX3_takeSign_145 : decode cX3_takeSign 145 = .ok (.invokevirtual 108, 3) := by decide +kernel
theorem dX3_takeSign_148 : decode cX3_takeSign 148 = .ok (.aload_n 0, 1) := by decide +kernel
theorem dX3_takeSign_149 : decode cX3_takeSign 149 = .ok (.iload_n 1, 1) := by decide +kernel
theorem dX3_takeSign_150 : decode cX3_takeSign 150 = .ok (.putfield 96, 3) := by decide +kernel
theorem dX3_takeSign_153 : decode cX3_takeSign 153 = .ok (.goto 65, 3) := by decide +kernel
theorem dX3_takeSign_156 : decode cX3_takeSign 156 = .ok (.aload_n 0, 1) := by decide +kernel
theorem dX3_takeSign_157 : decode cX3_takeSign 157 = .ok (.invokevirtual 108, 3) := by decide +kernel
theorem dX3_takeSign_160 : decode cX3_takeSign 160 = .ok (.aload_n 0, 1) := by decide +kernel
theorem dX3_takeSign_161 : decode cX3_takeSign 161 = .ok (.aload_n 0, 1) := by decide +kernel
theorem dX3_takeSign_162 : decode cX3_takeSign 162 = .ok (.getfield 93, 3) := by decide +kernel
theorem dX3_takeSign_165 : decode cX3_takeSign 165 = .ok (.putfield 111, 3) := by decide +kernel
theorem dX3_takeSign_168 : decode cX3_takeSign 168 = .ok (.aload_n 0, 1) := by decide +kernel
theorem dX3_takeSign_169 : decode cX3_takeSign 169 = .ok (.iload_n 1, 1) := by decide +kernel
theorem dX3_takeSign_170 : decode cX3_takeSign 170 = .ok (.putfield 31, 3) := by decide +kernel
theorem dX3_takeSign_173 : decode cX3_takeSign 173 = .ok (.aload_n 0, 1) := by decide +kernel
theorem dX3_takeSign_174 : decode cX3_takeSign 174 = .ok (.invokevirtual 28, 3) := by decide +kernel
theorem dX3_takeSign_177 : decode cX3_takeSign 177 = .ok (.goto 41, 3) := by decide +kernel
theorem dX3_takeSign_180 : decode cX3_takeSign 180 = .ok (.aload_n 0, 1) := by decide +kernel
theorem dX3_takeSign_181 : decode cX3_takeSign 181 = .ok (.getfield 18, 3) := by decide +kernel
theorem dX3_takeSign_184 : decode cX3_takeSign 184 = .ok (.aload_n 0, 1) := by decide +kernel
theorem dX3_takeSign_185 : decode cX3_takeSign 185 = .ok (.getfield 21, 3) := by decide +kernel
theorem dX3_takeSign_188 : decode cX3_takeSign 188 = .ok (.aload_n 0, 1) := by decide +kernel
theorem dX3_takeSign_189 : decode cX3_takeSign 189 = .ok (.getfield 18, 3) := by decide +kernel
theorem dX3_takeSign_192 : decode cX3_takeSign 192 = .ok (.aload_n 0, 1) := by decide +kernel
theorem dX3_takeSign_193 : decode cX3_takeSign 193 = .ok (.getfield 21, 3) := by decide +kernel
theorem dX3_takeSign_196 : decode cX3_takeSign 196 = .ok (.baload, 1) := by decide +kernel
theorem dX3_takeSign_197 : decode cX3_takeSign 197 = .ok (.ifCond .ne 7, 3) := by decide +kernel
theorem dX3_takeSign_200 : decode cX3_takeSign 200 = .ok (.iconst 1, 1) := by decide +kernel
theorem dX3_takeSign_201 : decode cX3_takeSign 201 = .ok (.goto 4, 3) := by decide +kernel
theorem dX3_takeSign_204 : decode cX3_takeSign 204 = .ok (.iconst 0, 1) := by decide +kernel
theorem dX3_takeSign_205 : decode cX3_takeSign 205 = .ok (.bastore, 1) := by decide +kernel
theorem dX3_takeSign_206 : decode cX3_takeSign 206 = .ok (.goto 12, 3) := by decide +kernel
theorem dX3_takeSign_209 : decode cX3_takeSign 209 = .ok (.aload_n 0, 1) := by decide +kernel
theorem dX3_takeSign_210 : decode cX3_takeSign 210 = .ok (.invokevirtual 59, 3) := by decide +kernel
theorem dX3_takeSign_213 : decode cX3_takeSign 213 = .ok (.aload_n 0, 1) := by decide +kernel
theorem dX3_takeSign_214 : decode cX3_takeSign 214 = .ok (.iload_n 1, 1) := by decide +kernel
theorem dX3_takeSign_215 : decode cX3_takeSign 215 = .ok (.invokevirtual 114, 3) := by decide +kernel
theorem dX3_takeSign_218 : decode cX3_takeSign 218 = .ok (.return_, 1) := by decide +kernel
def f_X3_takeSign (a0 : Nat) (x1 : Int32) (M : Mem) : Option Mem := if x1 = (33 : Int32) then gd (inR (mI M a0 3) 9) (if (mI M (a0 + 3) (mI M a0 3).toNatClampNeg) = 0 then some (sI M (a0 + 3) (mI M a0 3).toNatClampNeg (1 : Int32)) else some (sI M (a0 + 3) (mI M a0 3).toNatClampNeg (0 : Int32))) else if x1 = (34 : Int32) then (f_X3_endTest a0 M).bind fun q7 => (f_X3_takeJoint a0 x1 q7).bind fun q11 => some q11 else if x1 = (35 : Int32) then (f_X3_endTest a0 M).bind fun q16 => (f_X3_takeJoint a0 x1 q16).bind fun q20 => some q20 else if x1 = (36 : Int32) then (f_X3_endTest a0 M).bind fun q25 => (f_X3_takeJoint a0 x1 q25).bind fun q29 => some q29 else if x1 = (37 : Int32) then some (sI M a0 9 x1) else if x1 = (38 : Int32) then (f_X3_endTest a0 M).bind fun q35 => (f_X3_takeJoint a0 x1 q35).bind fun q39 => some q39 else if x1 = (39 : Int32) then (f_X3_endTest a0 M).bind fun q44 => (f_X3_takeJoint a0 x1 q44).bind fun q48 => some q48 else if x1 = (40 : Int32) then (f_X3_endTest a0 M).bind fun q53 => (f_X3_takeJoint a0 x1 q53).bind fun q57 => some q57 else if x1 = (41 : Int32) then (f_X3_endTest a0 M).bind fun q62 => (f_X3_takeJoint a0 x1 q62).bind fun q66 => some q66 else if x1 = (42 : Int32) then some (sI M a0 9 x1) else if x1 = (43 : Int32) then (f_X3_endProduct a0 M).bind fun q72 => some (sI q72 a0 7 x1) else if x1 = (44 : Int32) then (f_X3_endTest a0 M).bind fun q77 => (f_X3_takeJoint a0 x1 q77).bind fun q81 => some q81 else if x1 = (45 : Int32) then (f_X3_endProduct a0 M).bind fun q86 => some (sI q86 a0 7 x1) else if x1 = (46 : Int32) then (f_X3_endTest a0 M).bind fun q91 => (f_X3_takeJoint a0 x1 q91).bind fun q95 => some q95 else if x1 = (47 : Int32) then (f_X3_endTest a0 M).bind fun q100 => (f_X3_takeJoint a0 x1 q100).bind fun q104 => some q104 else if x1 = (48 : Int32) then (f_X3_endTest a0 M).bind fun q109 => (f_X3_takeJoint a0 x1 q109).bind fun q113 => some q113 else if x1 = (49 : Int32) then (f_X3_endTest a0 M).bind fun q118 => (f_X3_takeJoint a0 x1 q118).bind fun q122 => some q122 else if x1 = (50 : Int32) then (f_X3_endTest a0 M).bind fun q127 => (f_X3_takeJoint a0 x1 q127).bind fun q131 => some q131 else if x1 = (51 : Int32) then (f_X3_endTest a0 M).bind fun q136 => (f_X3_takeJoint a0 x1 q136).bind fun q140 => some q140 else if x1 = (52 : Int32) then (f_X3_endTest a0 M).bind fun q145 => (f_X3_takeJoint a0 x1 q145).bind fun q149 => some q149 else if x1 = (53 : Int32) then (f_X3_endTest a0 M).bind fun q154 => (f_X3_takeJoint a0 x1 q154).bind fun q158 => some q158 else if x1 = (54 : Int32) then (f_X3_endTest a0 M).bind fun q163 => (f_X3_takeJoint a0 x1 q163).bind fun q167 => some q167 else if x1 = (55 : Int32) then (f_X3_endTest a0 M).bind fun q172 => (f_X3_takeJoint a0 x1 q172).bind fun q176 => some q176 else if x1 = (56 : Int32) then (f_X3_endTest a0 M).bind fun q181 => (f_X3_takeJoint a0 x1 q181).bind fun q185 => some q185 else if x1 = (57 : Int32) then (f_X3_endTest a0 M).bind fun q190 => (f_X3_takeJoint a0 x1 q190).bind fun q194 => some q194 else if x1 = (58 : Int32) then (f_X3_endTest a0 M).bind fun q199 => (f_X3_takeJoint a0 x1 q199).bind fun q203 => some q203 else if x1 = (59 : Int32) then (f_X3_endTest a0 M).bind fun q208 => (f_X3_takeJoint a0 x1 q208).bind fun q212 => some q212 else if x1 = (60 : Int32) then (f_X3_endProduct a0 M).bind fun q217 => (f_X3_beginSum a0 (sI (sI q217 a0 4 (mI q217 a0 6)) a0 5 x1)).bind fun q221 => some q221 else if x1 = (61 : Int32) then (f_X3_endProduct a0 M).bind fun q226 => (f_X3_beginSum a0 (sI (sI q226 a0 4 (mI q226 a0 6)) a0 5 x1)).bind fun q230 => some q230 else if x1 = (62 : Int32) then (f_X3_endProduct a0 M).bind fun q235 => (f_X3_beginSum a0 (sI (sI q235 a0 4 (mI q235 a0 6)) a0 5 x1)).bind fun q239 => some q239 else (f_X3_endTest a0 M).bind fun q243 => (f_X3_takeJoint a0 x1 q243).bind fun q247 => some q247
set_option maxRecDepth 100000 in
set_option maxHeartbeats 4000000 in
theorem c_X3_takeSign (Z : Sys) {M : Mem} (hs : St M) (a0 : Nat) (x1 : Int32) (k_a0 : K0[a0]? = some (3, 11)) {q : Mem} (hf : f_X3_takeSign a0 x1 M = some q) : Ct Z yX3_takeSign cX3_takeSign 2 none rm_X3_takeSign [.ref (zs Z + a0), .int x1] M False (PostV q) := by
  refine Ct.of (by decide +kernel) (Nat.le_of_ble_eq_true rfl) (fun X hR hq _ => ?_)
  show G Z X Y_X3_takeSign False 0 0 0 [(0, .ref (zs Z + a0)), (1, .int x1)] [] M
  replace hq : RetOk Z X none False (PostV q) 0 0 := hq
  unfold f_X3_takeSign at hf
  refine G.iload_n 0 1 dX3_takeSign_0 rfl rfl ?_
  by_cases h1 : x1 = (33 : Int32)
  · replace hf := (if_pos h1).symm.trans hf
    refine G.tableIn 1 180 (off := 179) dX3_takeSign_1 (by rw [h1]; decide +kernel) (by rw [h1]; decide +kernel) (by rw [h1]; decide +kernel) (by decide) ?_
    refine G.aload_n 180 0 dX3_takeSign_180 rfl rfl ?_
    refine G.getp 181 ck_3 2 (a0 + 3) (hs.k k_a0) (pt_3_2 hs k_a0).1 (by decide) (by decide +kernel) wd_129 dX3_takeSign_181 ?_
    refine G.aload_n 184 0 dX3_takeSign_184 rfl rfl ?_
    refine G.geti 185 ck_3 3 (hs.k k_a0) (by decide) (by decide +kernel) wd_130 dX3_takeSign_185 ?_
    refine G.aload_n 188 0 dX3_takeSign_188 rfl rfl ?_
    refine G.getp 189 ck_3 2 (a0 + 3) (hs.k k_a0) (pt_3_2 hs k_a0).1 (by decide) (by decide +kernel) wd_129 dX3_takeSign_189 ?_
    refine G.aload_n 192 0 dX3_takeSign_192 rfl rfl ?_
    refine G.geti 193 ck_3 3 (hs.k k_a0) (by decide) (by decide +kernel) wd_130 dX3_takeSign_193 ?_
    obtain ⟨g2, hf⟩ := gd_e hf
    refine G.za 196 (mI M a0 3).toNatClampNeg (hs.k (pt_3_2 hs k_a0).2) g2 rfl dX3_takeSign_196 ?_
    refine G.if_ne 197 204 dX3_takeSign_197 (by decide) (fun h3 => ?_) (fun h3 => ?_)
    · replace hf := (if_neg h3).symm.trans hf
      refine G.iconst 204 (0 : Int32) dX3_takeSign_204 (by decide +kernel) ?_
      refine G.zt 205 (mI M a0 3).toNatClampNeg (0 : Int32) (hs.k (pt_3_2 hs k_a0).2) g2 rfl (by decide +kernel) dX3_takeSign_205 ?_
      refine G.goto 206 218 dX3_takeSign_206 (by decide) ?_
      (have hf9 := Option.some.inj hf; subst hf9)
      exact G.rV 218 hq dX3_takeSign_218 (St.i hs)
    · replace hf := (if_pos h3).symm.trans hf
      refine G.iconst 200 (1 : Int32) dX3_takeSign_200 (by decide +kernel) ?_
      refine G.goto 201 205 dX3_takeSign_201 (by decide) ?_
      refine G.zt 205 (mI M a0 3).toNatClampNeg (1 : Int32) (hs.k (pt_3_2 hs k_a0).2) g2 rfl (by decide +kernel) dX3_takeSign_205 ?_
      refine G.goto 206 218 dX3_takeSign_206 (by decide) ?_
      (have hf9 := Option.some.inj hf; subst hf9)
      exact G.rV 218 hq dX3_takeSign_218 (St.i hs)
  · replace hf := (if_neg h1).symm.trans hf
    by_cases h4 : x1 = (34 : Int32)
    · replace hf := (if_pos h4).symm.trans hf
      refine G.tableIn 1 209 (off := 208) dX3_takeSign_1 (by rw [h4]; decide +kernel) (by rw [h4]; decide +kernel) (by rw [h4]; decide +kernel) (by decide) ?_
      refine G.aload_n 209 0 dX3_takeSign_209 rfl rfl ?_
      obtain ⟨q7, e8, hf⟩ := bd_e hf
      refine G.cvV 210 (As := []) ck_3 (hs.k k_a0) (c_X3_endTest Z hs a0 k_a0 e8) mk_X3_endTest vk_X3_endTest rfl wd_1062 hR (by decide +kernel) ⟨rfl, rfl⟩ rfl (Nat.le_of_ble_eq_true rfl) dX3_takeSign_210 (fun hs5 => ?_)
      refine G.aload_n 213 0 dX3_takeSign_213 rfl rfl ?_
      refine G.iload_n 214 1 dX3_takeSign_214 rfl rfl ?_
      obtain ⟨q11, e12, hf⟩ := bd_e hf
      refine G.cvV 215 (As := [.int x1]) ck_3 (hs5.k k_a0) (c_X3_takeJoint Z hs5 a0 x1 k_a0 e12) mk_X3_takeJoint vk_X3_takeJoint rfl wd_1074 hR (by decide +kernel) ⟨rfl, rfl⟩ rfl (Nat.le_of_ble_eq_true rfl) dX3_takeSign_215 (fun hs9 => ?_)
      (have hf9 := Option.some.inj hf; subst hf9)
      exact G.rV 218 hq dX3_takeSign_218 hs9
    · replace hf := (if_neg h4).symm.trans hf
      by_cases h13 : x1 = (35 : Int32)
      · replace hf := (if_pos h13).symm.trans hf
        refine G.tableIn 1 209 (off := 208) dX3_takeSign_1 (by rw [h13]; decide +kernel) (by rw [h13]; decide +kernel) (by rw [h13]; decide +kernel) (by decide) ?_
        refine G.aload_n 209 0 dX3_takeSign_209 rfl rfl ?_
        obtain ⟨q16, e17, hf⟩ := bd_e hf
        refine G.cvV 210 (As := []) ck_3 (hs.k k_a0) (c_X3_endTest Z hs a0 k_a0 e17) mk_X3_endTest vk_X3_endTest rfl wd_1062 hR (by decide +kernel) ⟨rfl, rfl⟩ rfl (Nat.le_of_ble_eq_true rfl) dX3_takeSign_210 (fun hs14 => ?_)
        refine G.aload_n 213 0 dX3_takeSign_213 rfl rfl ?_
        refine G.iload_n 214 1 dX3_takeSign_214 rfl rfl ?_
        obtain ⟨q20, e21, hf⟩ := bd_e hf
        refine G.cvV 215 (As := [.int x1]) ck_3 (hs14.k k_a0) (c_X3_takeJoint Z hs14 a0 x1 k_a0 e21) mk_X3_takeJoint vk_X3_takeJoint rfl wd_1074 hR (by decide +kernel) ⟨rfl, rfl⟩ rfl (Nat.le_of_ble_eq_true rfl) dX3_takeSign_215 (fun hs18 => ?_)
        (have hf9 := Option.some.inj hf; subst hf9)
        exact G.rV 218 hq dX3_takeSign_218 hs18
      · replace hf := (if_neg h13).symm.trans hf
        by_cases h22 : x1 = (36 : Int32)
        · replace hf := (if_pos h22).symm.trans hf
          refine G.tableIn 1 209 (off := 208) dX3_takeSign_1 (by rw [h22]; decide +kernel) (by rw [h22]; decide +kernel) (by rw [h22]; decide +kernel) (by decide) ?_
          refine G.aload_n 209 0 dX3_takeSign_209 rfl rfl ?_
          obtain ⟨q25, e26, hf⟩ := bd_e hf
          refine G.cvV 210 (As := []) ck_3 (hs.k k_a0) (c_X3_endTest Z hs a0 k_a0 e26) mk_X3_endTest vk_X3_endTest rfl wd_1062 hR (by decide +kernel) ⟨rfl, rfl⟩ rfl (Nat.le_of_ble_eq_true rfl) dX3_takeSign_210 (fun hs23 => ?_)
          refine G.aload_n 213 0 dX3_takeSign_213 rfl rfl ?_
          refine G.iload_n 214 1 dX3_takeSign_214 rfl rfl ?_
          obtain ⟨q29, e30, hf⟩ := bd_e hf
          refine G.cvV 215 (As := [.int x1]) ck_3 (hs23.k k_a0) (c_X3_takeJoint Z hs23 a0 x1 k_a0 e30) mk_X3_takeJoint vk_X3_takeJoint rfl wd_1074 hR (by decide +kernel) ⟨rfl, rfl⟩ rfl (Nat.le_of_ble_eq_true rfl) dX3_takeSign_215 (fun hs27 => ?_)
          (have hf9 := Option.some.inj hf; subst hf9)
          exact G.rV 218 hq dX3_takeSign_218 hs27
        · replace hf := (if_neg h22).symm.trans hf
          by_cases h31 : x1 = (37 : Int32)
          · replace hf := (if_pos h31).symm.trans hf
            refine G.tableIn 1 136 (off := 135) dX3_takeSign_1 (by rw [h31]; decide +kernel) (by rw [h31]; decide +kernel) (by rw [h31]; decide +kernel) (by decide) ?_
            refine G.aload_n 136 0 dX3_takeSign_136 rfl rfl ?_
            refine G.iload_n 137 1 dX3_takeSign_137 rfl rfl ?_
            refine G.puti 138 ck_3 9 (hs.k k_a0) (by decide) (by decide +kernel) rfl wd_136 rfl rfl dX3_takeSign_138 ?_
            refine G.goto 141 218 dX3_takeSign_141 (by decide) ?_
            (have hf9 := Option.some.inj hf; subst hf9)
            exact G.rV 218 hq dX3_takeSign_218 (St.i hs)
          · replace hf := (if_neg h31).symm.trans hf
            by_cases h32 : x1 = (38 : Int32)
            · replace hf := (if_pos h32).symm.trans hf
              refine G.tableIn 1 209 (off := 208) dX3_takeSign_1 (by rw [h32]; decide +kernel) (by rw [h32]; decide +kernel) (by rw [h32]; decide +kernel) (by decide) ?_
              refine G.aload_n 209 0 dX3_takeSign_209 rfl rfl ?_
              obtain ⟨q35, e36, hf⟩ := bd_e hf
              refine G.cvV 210 (As := []) ck_3 (hs.k k_a0) (c_X3_endTest Z hs a0 k_a0 e36) mk_X3_endTest vk_X3_endTest rfl wd_1062 hR (by decide +kernel) ⟨rfl, rfl⟩ rfl (Nat.le_of_ble_eq_true rfl) dX3_takeSign_210 (fun hs33 => ?_)
              refine G.aload_n 213 0 dX3_takeSign_213 rfl rfl ?_
              refine G.iload_n 214 1 dX3_takeSign_214 rfl rfl ?_
              obtain ⟨q39, e40, hf⟩ := bd_e hf
              refine G.cvV 215 (As := [.int x1]) ck_3 (hs33.k k_a0) (c_X3_takeJoint Z hs33 a0 x1 k_a0 e40) mk_X3_takeJoint vk_X3_takeJoint rfl wd_1074 hR (by decide +kernel) ⟨rfl, rfl⟩ rfl (Nat.le_of_ble_eq_true rfl) dX3_takeSign_215 (fun hs37 => ?_)
              (have hf9 := Option.some.inj hf; subst hf9)
              exact G.rV 218 hq dX3_takeSign_218 hs37
            · replace hf := (if_neg h32).symm.trans hf
              by_cases h41 : x1 = (39 : Int32)
              · replace hf := (if_pos h41).symm.trans hf
                refine G.tableIn 1 209 (off := 208) dX3_takeSign_1 (by rw [h41]; decide +kernel) (by rw [h41]; decide +kernel) (by rw [h41]; decide +kernel) (by decide) ?_
                refine G.aload_n 209 0 dX3_takeSign_209 rfl rfl ?_
                obtain ⟨q44, e45, hf⟩ := bd_e hf
                refine G.cvV 210 (As := []) ck_3 (hs.k k_a0) (c_X3_endTest Z hs a0 k_a0 e45) mk_X3_endTest vk_X3_endTest rfl wd_1062 hR (by decide +kernel) ⟨rfl, rfl⟩ rfl (Nat.le_of_ble_eq_true rfl) dX3_takeSign_210 (fun hs42 => ?_)
                refine G.aload_n 213 0 dX3_takeSign_213 rfl rfl ?_
                refine G.iload_n 214 1 dX3_takeSign_214 rfl rfl ?_
                obtain ⟨q48, e49, hf⟩ := bd_e hf
                refine G.cvV 215 (As := [.int x1]) ck_3 (hs42.k k_a0) (c_X3_takeJoint Z hs42 a0 x1 k_a0 e49) mk_X3_takeJoint vk_X3_takeJoint rfl wd_1074 hR (by decide +kernel) ⟨rfl, rfl⟩ rfl (Nat.le_of_ble_eq_true rfl) dX3_takeSign_215 (fun hs46 => ?_)
                (have hf9 := Option.some.inj hf; subst hf9)
                exact G.rV 218 hq dX3_takeSign_218 hs46
              · replace hf := (if_neg h41).symm.trans hf
                by_cases h50 : x1 = (40 : Int32)
                · replace hf := (if_pos h50).symm.trans hf
                  refine G.tableIn 1 209 (off := 208) dX3_takeSign_1 (by rw [h50]; decide +kernel) (by rw [h50]; decide +kernel) (by rw [h50]; decide +kernel) (by decide) ?_
                  refine G.aload_n 209 0 dX3_takeSign_209 rfl rfl ?_
                  obtain ⟨q53, e54, hf⟩ := bd_e hf
                  refine G.cvV 210 (As := []) ck_3 (hs.k k_a0) (c_X3_endTest Z hs a0 k_a0 e54) mk_X3_endTest vk_X3_endTest rfl wd_1062 hR (by decide +kernel) ⟨rfl, rfl⟩ rfl (Nat.le_of_ble_eq_true rfl) dX3_takeSign_210 (fun hs51 => ?_)
                  refine G.aload_n 213 0 dX3_takeSign_213 rfl rfl ?_
                  refine G.iload_n 214 1 dX3_takeSign_214 rfl rfl ?_
                  obtain ⟨q57, e58, hf⟩ := bd_e hf
                  refine G.cvV 215 (As := [.int x1]) ck_3 (hs51.k k_a0) (c_X3_takeJoint Z hs51 a0 x1 k_a0 e58) mk_X3_takeJoint vk_X3_takeJoint rfl wd_1074 hR (by decide +kernel) ⟨rfl, rfl⟩ rfl (Nat.le_of_ble_eq_true rfl) dX3_takeSign_215 (fun hs55 => ?_)
                  (have hf9 := Option.some.inj hf; subst hf9)
                  exact G.rV 218 hq dX3_takeSign_218 hs55
                · replace hf := (if_neg h50).symm.trans hf
                  by_cases h59 : x1 = (41 : Int32)
                  · replace hf := (if_pos h59).symm.trans hf
                    refine G.tableIn 1 209 (off := 208) dX3_takeSign_1 (by rw [h59]; decide +kernel) (by rw [h59]; decide +kernel) (by rw [h59]; decide +kernel) (by decide) ?_
                    refine G.aload_n 209 0 dX3_takeSign_209 rfl rfl ?_
                    obtain ⟨q62, e63, hf⟩ := bd_e hf
                    refine G.cvV 210 (As := []) ck_3 (hs.k k_a0) (c_X3_endTest Z hs a0 k_a0 e63) mk_X3_endTest vk_X3_endTest rfl wd_1062 hR (by decide +kernel) ⟨rfl, rfl⟩ rfl (Nat.le_of_ble_eq_true rfl) dX3_takeSign_210 (fun hs60 => ?_)
                    refine G.aload_n 213 0 dX3_takeSign_213 rfl rfl ?_
                    refine G.iload_n 214 1 dX3_takeSign_214 rfl rfl ?_
                    obtain ⟨q66, e67, hf⟩ := bd_e hf
                    refine G.cvV 215 (As := [.int x1]) ck_3 (hs60.k k_a0) (c_X3_takeJoint Z hs60 a0 x1 k_a0 e67) mk_X3_takeJoint vk_X3_takeJoint rfl wd_1074 hR (by decide +kernel) ⟨rfl, rfl⟩ rfl (Nat.le_of_ble_eq_true rfl) dX3_takeSign_215 (fun hs64 => ?_)
                    (have hf9 := Option.some.inj hf; subst hf9)
                    exact G.rV 218 hq dX3_takeSign_218 hs64
                  · replace hf := (if_neg h59).symm.trans hf
                    by_cases h68 : x1 = (42 : Int32)
                    · replace hf := (if_pos h68).symm.trans hf
                      refine G.tableIn 1 136 (off := 135) dX3_takeSign_1 (by rw [h68]; decide +kernel) (by rw [h68]; decide +kernel) (by rw [h68]; decide +kernel) (by decide) ?_
                      refine G.aload_n 136 0 dX3_takeSign_136 rfl rfl ?_
                      refine G.iload_n 137 1 dX3_takeSign_137 rfl rfl ?_
                      refine G.puti 138 ck_3 9 (hs.k k_a0) (by decide) (by decide +kernel) rfl wd_136 rfl rfl dX3_takeSign_138 ?_
                      refine G.goto 141 218 dX3_takeSign_141 (by decide) ?_
                      (have hf9 := Option.some.inj hf; subst hf9)
                      exact G.rV 218 hq dX3_takeSign_218 (St.i hs)
                    · replace hf := (if_neg h68).symm.trans hf
                      by_cases h69 : x1 = (43 : Int32)
                      · replace hf := (if_pos h69).symm.trans hf
                        refine G.tableIn 1 144 (off := 143) dX3_takeSign_1 (by rw [h69]; decide +kernel) (by rw [h69]; decide +kernel) (by rw [h69]; decide +kernel) (by decide) ?_
                        refine G.aload_n 144 0 dX3_takeSign_144 rfl rfl ?_
                        obtain ⟨q72, e73, hf⟩ := bd_e hf
                        refine G.cvV 145 (As := []) ck_3 (hs.k k_a0) (c_X3_endProduct Z hs a0 k_a0 e73) mk_X3_endProduct vk_X3_endProduct rfl wd_1058 hR (by decide +kernel) ⟨rfl, rfl⟩ rfl (Nat.le_of_ble_eq_true rfl) dX3_takeSign_145 (fun hs70 => ?_)
                        refine G.aload_n 148 0 dX3_takeSign_148 rfl rfl ?_
                        refine G.iload_n 149 1 dX3_takeSign_149 rfl rfl ?_
                        refine G.puti 150 ck_3 7 (hs70.k k_a0) (by decide) (by decide +kernel) rfl wd_134 rfl rfl dX3_takeSign_150 ?_
                        refine G.goto 153 218 dX3_takeSign_153 (by decide) ?_
                        (have hf9 := Option.some.inj hf; subst hf9)
                        exact G.rV 218 hq dX3_takeSign_218 (St.i hs70)
                      · replace hf := (if_neg h69).symm.trans hf
                        by_cases h74 : x1 = (44 : Int32)
                        · replace hf := (if_pos h74).symm.trans hf
                          refine G.tableIn 1 209 (off := 208) dX3_takeSign_1 (by rw [h74]; decide +kernel) (by rw [h74]; decide +kernel) (by rw [h74]; decide +kernel) (by decide) ?_
                          refine G.aload_n 209 0 dX3_takeSign_209 rfl rfl ?_
                          obtain ⟨q77, e78, hf⟩ := bd_e hf
                          refine G.cvV 210 (As := []) ck_3 (hs.k k_a0) (c_X3_endTest Z hs a0 k_a0 e78) mk_X3_endTest vk_X3_endTest rfl wd_1062 hR (by decide +kernel) ⟨rfl, rfl⟩ rfl (Nat.le_of_ble_eq_true rfl) dX3_takeSign_210 (fun hs75 => ?_)
                          refine G.aload_n 213 0 dX3_takeSign_213 rfl rfl ?_
                          refine G.iload_n 214 1 dX3_takeSign_214 rfl rfl ?_
                          obtain ⟨q81, e82, hf⟩ := bd_e hf
                          refine G.cvV 215 (As := [.int x1]) ck_3 (hs75.k k_a0) (c_X3_takeJoint Z hs75 a0 x1 k_a0 e82) mk_X3_takeJoint vk_X3_takeJoint rfl wd_1074 hR (by decide +kernel) ⟨rfl, rfl⟩ rfl (Nat.le_of_ble_eq_true rfl) dX3_takeSign_215 (fun hs79 => ?_)
                          (have hf9 := Option.some.inj hf; subst hf9)
                          exact G.rV 218 hq dX3_takeSign_218 hs79
                        · replace hf := (if_neg h74).symm.trans hf
                          by_cases h83 : x1 = (45 : Int32)
                          · replace hf := (if_pos h83).symm.trans hf
                            refine G.tableIn 1 144 (off := 143) dX3_takeSign_1 (by rw [h83]; decide +kernel) (by rw [h83]; decide +kernel) (by rw [h83]; decide +kernel) (by decide) ?_
                            refine G.aload_n 144 0 dX3_takeSign_144 rfl rfl ?_
                            obtain ⟨q86, e87, hf⟩ := bd_e hf
                            refine G.cvV 145 (As := []) ck_3 (hs.k k_a0) (c_X3_endProduct Z hs a0 k_a0 e87) mk_X3_endProduct vk_X3_endProduct rfl wd_1058 hR (by decide +kernel) ⟨rfl, rfl⟩ rfl (Nat.le_of_ble_eq_true rfl) dX3_takeSign_145 (fun hs84 => ?_)
                            refine G.aload_n 148 0 dX3_takeSign_148 rfl rfl ?_
                            refine G.iload_n 149 1 dX3_takeSign_149 rfl rfl ?_
                            refine G.puti 150 ck_3 7 (hs84.k k_a0) (by decide) (by decide +kernel) rfl wd_134 rfl rfl dX3_takeSign_150 ?_
                            refine G.goto 153 218 dX3_takeSign_153 (by decide) ?_
                            (have hf9 := Option.some.inj hf; subst hf9)
                            exact G.rV 218 hq dX3_takeSign_218 (St.i hs84)
                          · replace hf := (if_neg h83).symm.trans hf
                            by_cases h88 : x1 = (46 : Int32)
                            · replace hf := (if_pos h88).symm.trans hf
                              refine G.tableIn 1 209 (off := 208) dX3_takeSign_1 (by rw [h88]; decide +kernel) (by rw [h88]; decide +kernel) (by rw [h88]; decide +kernel) (by decide) ?_
                              refine G.aload_n 209 0 dX3_takeSign_209 rfl rfl ?_
                              obtain ⟨q91, e92, hf⟩ := bd_e hf
                              refine G.cvV 210 (As := []) ck_3 (hs.k k_a0) (c_X3_endTest Z hs a0 k_a0 e92) mk_X3_endTest vk_X3_endTest rfl wd_1062 hR (by decide +kernel) ⟨rfl, rfl⟩ rfl (Nat.le_of_ble_eq_true rfl) dX3_takeSign_210 (fun hs89 => ?_)
                              refine G.aload_n 213 0 dX3_takeSign_213 rfl rfl ?_
                              refine G.iload_n 214 1 dX3_takeSign_214 rfl rfl ?_
                              obtain ⟨q95, e96, hf⟩ := bd_e hf
                              refine G.cvV 215 (As := [.int x1]) ck_3 (hs89.k k_a0) (c_X3_takeJoint Z hs89 a0 x1 k_a0 e96) mk_X3_takeJoint vk_X3_takeJoint rfl wd_1074 hR (by decide +kernel) ⟨rfl, rfl⟩ rfl (Nat.le_of_ble_eq_true rfl) dX3_takeSign_215 (fun hs93 => ?_)
                              (have hf9 := Option.some.inj hf; subst hf9)
                              exact G.rV 218 hq dX3_takeSign_218 hs93
                            · replace hf := (if_neg h88).symm.trans hf
                              by_cases h97 : x1 = (47 : Int32)
                              · replace hf := (if_pos h97).symm.trans hf
                                refine G.tableIn 1 209 (off := 208) dX3_takeSign_1 (by rw [h97]; decide +kernel) (by rw [h97]; decide +kernel) (by rw [h97]; decide +kernel) (by decide) ?_
                                refine G.aload_n 209 0 dX3_takeSign_209 rfl rfl ?_
                                obtain ⟨q100, e101, hf⟩ := bd_e hf
                                refine G.cvV 210 (As := []) ck_3 (hs.k k_a0) (c_X3_endTest Z hs a0 k_a0 e101) mk_X3_endTest vk_X3_endTest rfl wd_1062 hR (by decide +kernel) ⟨rfl, rfl⟩ rfl (Nat.le_of_ble_eq_true rfl) dX3_takeSign_210 (fun hs98 => ?_)
                                refine G.aload_n 213 0 dX3_takeSign_213 rfl rfl ?_
                                refine G.iload_n 214 1 dX3_takeSign_214 rfl rfl ?_
                                obtain ⟨q104, e105, hf⟩ := bd_e hf
                                refine G.cvV 215 (As := [.int x1]) ck_3 (hs98.k k_a0) (c_X3_takeJoint Z hs98 a0 x1 k_a0 e105) mk_X3_takeJoint vk_X3_takeJoint rfl wd_1074 hR (by decide +kernel) ⟨rfl, rfl⟩ rfl (Nat.le_of_ble_eq_true rfl) dX3_takeSign_215 (fun hs102 => ?_)
                                (have hf9 := Option.some.inj hf; subst hf9)
                                exact G.rV 218 hq dX3_takeSign_218 hs102
                              · replace hf := (if_neg h97).symm.trans hf
                                by_cases h106 : x1 = (48 : Int32)
                                · replace hf := (if_pos h106).symm.trans hf
                                  refine G.tableIn 1 209 (off := 208) dX3_takeSign_1 (by rw [h106]; decide +kernel) (by rw [h106]; decide +kernel) (by rw [h106]; decide +kernel) (by decide) ?_
                                  refine G.aload_n 209 0 dX3_takeSign_209 rfl rfl ?_
                                  obtain ⟨q109, e110, hf⟩ := bd_e hf
                                  refine G.cvV 210 (As := []) ck_3 (hs.k k_a0) (c_X3_endTest Z hs a0 k_a0 e110) mk_X3_endTest vk_X3_endTest rfl wd_1062 hR (by decide +kernel) ⟨rfl, rfl⟩ rfl (Nat.le_of_ble_eq_true rfl) dX3_takeSign_210 (fun hs107 => ?_)
                                  refine G.aload_n 213 0 dX3_takeSign_213 rfl rfl ?_
                                  refine G.iload_n 214 1 dX3_takeSign_214 rfl rfl ?_
                                  obtain ⟨q113, e114, hf⟩ := bd_e hf
                                  refine G.cvV 215 (As := [.int x1]) ck_3 (hs107.k k_a0) (c_X3_takeJoint Z hs107 a0 x1 k_a0 e114) mk_X3_takeJoint vk_X3_takeJoint rfl wd_1074 hR (by decide +kernel) ⟨rfl, rfl⟩ rfl (Nat.le_of_ble_eq_true rfl) dX3_takeSign_215 (fun hs111 => ?_)
                                  (have hf9 := Option.some.inj hf; subst hf9)
                                  exact G.rV 218 hq dX3_takeSign_218 hs111
                                · replace hf := (if_neg h106).symm.trans hf
                                  by_cases h115 : x1 = (49 : Int32)
                                  · replace hf := (if_pos h115).symm.trans hf
                                    refine G.tableIn 1 209 (off := 208) dX3_takeSign_1 (by rw [h115]; decide +kernel) (by rw [h115]; decide +kernel) (by rw [h115]; decide +kernel) (by decide) ?_
                                    refine G.aload_n 209 0 dX3_takeSign_209 rfl rfl ?_
                                    obtain ⟨q118, e119, hf⟩ := bd_e hf
                                    refine G.cvV 210 (As := []) ck_3 (hs.k k_a0) (c_X3_endTest Z hs a0 k_a0 e119) mk_X3_endTest vk_X3_endTest rfl wd_1062 hR (by decide +kernel) ⟨rfl, rfl⟩ rfl (Nat.le_of_ble_eq_true rfl) dX3_takeSign_210 (fun hs116 => ?_)
                                    refine G.aload_n 213 0 dX3_takeSign_213 rfl rfl ?_
                                    refine G.iload_n 214 1 dX3_takeSign_214 rfl rfl ?_
                                    obtain ⟨q122, e123, hf⟩ := bd_e hf
                                    refine G.cvV 215 (As := [.int x1]) ck_3 (hs116.k k_a0) (c_X3_takeJoint Z hs116 a0 x1 k_a0 e123) mk_X3_takeJoint vk_X3_takeJoint rfl wd_1074 hR (by decide +kernel) ⟨rfl, rfl⟩ rfl (Nat.le_of_ble_eq_true rfl) dX3_takeSign_215 (fun hs120 => ?_)
                                    (have hf9 := Option.some.inj hf; subst hf9)
                                    exact G.rV 218 hq dX3_takeSign_218 hs120
                                  · replace hf := (if_neg h115).symm.trans hf
                                    by_cases h124 : x1 = (50 : Int32)
                                    · replace hf := (if_pos h124).symm.trans hf
                                      refine G.tableIn 1 209 (off := 208) dX3_takeSign_1 (by rw [h124]; decide +kernel) (by rw [h124]; decide +kernel) (by rw [h124]; decide +kernel) (by decide) ?_
                                      refine G.aload_n 209 0 dX3_takeSign_209 rfl rfl ?_
                                      obtain ⟨q127, e128, hf⟩ := bd_e hf
                                      refine G.cvV 210 (As := []) ck_3 (hs.k k_a0) (c_X3_endTest Z hs a0 k_a0 e128) mk_X3_endTest vk_X3_endTest rfl wd_1062 hR (by decide +kernel) ⟨rfl, rfl⟩ rfl (Nat.le_of_ble_eq_true rfl) dX3_takeSign_210 (fun hs125 => ?_)
                                      refine G.aload_n 213 0 dX3_takeSign_213 rfl rfl ?_
                                      refine G.iload_n 214 1 dX3_takeSign_214 rfl rfl ?_
                                      obtain ⟨q131, e132, hf⟩ := bd_e hf
                                      refine G.cvV 215 (As := [.int x1]) ck_3 (hs125.k k_a0) (c_X3_takeJoint Z hs125 a0 x1 k_a0 e132) mk_X3_takeJoint vk_X3_takeJoint rfl wd_1074 hR (by decide +kernel) ⟨rfl, rfl⟩ rfl (Nat.le_of_ble_eq_true rfl) dX3_takeSign_215 (fun hs129 => ?_)
                                      (have hf9 := Option.some.inj hf; subst hf9)
                                      exact G.rV 218 hq dX3_takeSign_218 hs129
                                    · replace hf := (if_neg h124).symm.trans hf
                                      by_cases h133 : x1 = (51 : Int32)
                                      · replace hf := (if_pos h133).symm.trans hf
                                        refine G.tableIn 1 209 (off := 208) dX3_takeSign_1 (by rw [h133]; decide +kernel) (by rw [h133]; decide +kernel) (by rw [h133]; decide +kernel) (by decide) ?_
                                        refine G.aload_n 209 0 dX3_takeSign_209 rfl rfl ?_
                                        obtain ⟨q136, e137, hf⟩ := bd_e hf
                                        refine G.cvV 210 (As := []) ck_3 (hs.k k_a0) (c_X3_endTest Z hs a0 k_a0 e137) mk_X3_endTest vk_X3_endTest rfl wd_1062 hR (by decide +kernel) ⟨rfl, rfl⟩ rfl (Nat.le_of_ble_eq_true rfl) dX3_takeSign_210 (fun hs134 => ?_)
                                        refine G.aload_n 213 0 dX3_takeSign_213 rfl rfl ?_
                                        refine G.iload_n 214 1 dX3_takeSign_214 rfl rfl ?_
                                        obtain ⟨q140, e141, hf⟩ := bd_e hf
                                        refine G.cvV 215 (As := [.int x1]) ck_3 (hs134.k k_a0) (c_X3_takeJoint Z hs134 a0 x1 k_a0 e141) mk_X3_takeJoint vk_X3_takeJoint rfl wd_1074 hR (by decide +kernel) ⟨rfl, rfl⟩ rfl (Nat.le_of_ble_eq_true rfl) dX3_takeSign_215 (fun hs138 => ?_)
                                        (have hf9 := Option.some.inj hf; subst hf9)
                                        exact G.rV 218 hq dX3_takeSign_218 hs138
                                      · replace hf := (if_neg h133).symm.trans hf
                                        by_cases h142 : x1 = (52 : Int32)
                                        · replace hf := (if_pos h142).symm.trans hf
                                          refine G.tableIn 1 209 (off := 208) dX3_takeSign_1 (by rw [h142]; decide +kernel) (by rw [h142]; decide +kernel) (by rw [h142]; decide +kernel) (by decide) ?_
                                          refine G.aload_n 209 0 dX3_takeSign_209 rfl rfl ?_
                                          obtain ⟨q145, e146, hf⟩ := bd_e hf
                                          refine G.cvV 210 (As := []) ck_3 (hs.k k_a0) (c_X3_endTest Z hs a0 k_a0 e146) mk_X3_endTest vk_X3_endTest rfl wd_1062 hR (by decide +kernel) ⟨rfl, rfl⟩ rfl (Nat.le_of_ble_eq_true rfl) dX3_takeSign_210 (fun hs143 => ?_)
                                          refine G.aload_n 213 0 dX3_takeSign_213 rfl rfl ?_
                                          refine G.iload_n 214 1 dX3_takeSign_214 rfl rfl ?_
                                          obtain ⟨q149, e150, hf⟩ := bd_e hf
                                          refine G.cvV 215 (As := [.int x1]) ck_3 (hs143.k k_a0) (c_X3_takeJoint Z hs143 a0 x1 k_a0 e150) mk_X3_takeJoint vk_X3_takeJoint rfl wd_1074 hR (by decide +kernel) ⟨rfl, rfl⟩ rfl (Nat.le_of_ble_eq_true rfl) dX3_takeSign_215 (fun hs147 => ?_)
                                          (have hf9 := Option.some.inj hf; subst hf9)
                                          exact G.rV 218 hq dX3_takeSign_218 hs147
                                        · replace hf := (if_neg h142).symm.trans hf
                                          by_cases h151 : x1 = (53 : Int32)
                                          · replace hf := (if_pos h151).symm.trans hf
                                            refine G.tableIn 1 209 (off := 208) dX3_takeSign_1 (by rw [h151]; decide +kernel) (by rw [h151]; decide +kernel) (by rw [h151]; decide +kernel) (by decide) ?_
                                            refine G.aload_n 209 0 dX3_takeSign_209 rfl rfl ?_
                                            obtain ⟨q154, e155, hf⟩ := bd_e hf
                                            refine G.cvV 210 (As := []) ck_3 (hs.k k_a0) (c_X3_endTest Z hs a0 k_a0 e155) mk_X3_endTest vk_X3_endTest rfl wd_1062 hR (by decide +kernel) ⟨rfl, rfl⟩ rfl (Nat.le_of_ble_eq_true rfl) dX3_takeSign_210 (fun hs152 => ?_)
                                            refine G.aload_n 213 0 dX3_takeSign_213 rfl rfl ?_
                                            refine G.iload_n 214 1 dX3_takeSign_214 rfl rfl ?_
                                            obtain ⟨q158, e159, hf⟩ := bd_e hf
                                            refine G.cvV 215 (As := [.int x1]) ck_3 (hs152.k k_a0) (c_X3_takeJoint Z hs152 a0 x1 k_a0 e159) mk_X3_takeJoint vk_X3_takeJoint rfl wd_1074 hR (by decide +kernel) ⟨rfl, rfl⟩ rfl (Nat.le_of_ble_eq_true rfl) dX3_takeSign_215 (fun hs156 => ?_)
                                            (have hf9 := Option.some.inj hf; subst hf9)
                                            exact G.rV 218 hq dX3_takeSign_218 hs156
                                          · replace hf := (if_neg h151).symm.trans hf
                                            by_cases h160 : x1 = (54 : Int32)
                                            · replace hf := (if_pos h160).symm.trans hf
                                              refine G.tableIn 1 209 (off := 208) dX3_takeSign_1 (by rw [h160]; decide +kernel) (by rw [h160]; decide +kernel) (by rw [h160]; decide +kernel) (by decide) ?_
                                              refine G.aload_n 209 0 dX3_takeSign_209 rfl rfl ?_
                                              obtain ⟨q163, e164, hf⟩ := bd_e hf
                                              refine G.cvV 210 (As := []) ck_3 (hs.k k_a0) (c_X3_endTest Z hs a0 k_a0 e164) mk_X3_endTest vk_X3_endTest rfl wd_1062 hR (by decide +kernel) ⟨rfl, rfl⟩ rfl (Nat.le_of_ble_eq_true rfl) dX3_takeSign_210 (fun hs161 => ?_)
                                              refine G.aload_n 213 0 dX3_takeSign_213 rfl rfl ?_
                                              refine G.iload_n 214 1 dX3_takeSign_214 rfl rfl ?_
                                              obtain ⟨q167, e168, hf⟩ := bd_e hf
                                              refine G.cvV 215 (As := [.int x1]) ck_3 (hs161.k k_a0) (c_X3_takeJoint Z hs161 a0 x1 k_a0 e168) mk_X3_takeJoint vk_X3_takeJoint rfl wd_1074 hR (by decide +kernel) ⟨rfl, rfl⟩ rfl (Nat.le_of_ble_eq_true rfl) dX3_takeSign_215 (fun hs165 => ?_)
                                              (have hf9 := Option.some.inj hf; subst hf9)
                                              exact G.rV 218 hq dX3_takeSign_218 hs165
                                            · replace hf := (if_neg h160).symm.trans hf
                                              by_cases h169 : x1 = (55 : Int32)
                                              · replace hf := (if_pos h169).symm.trans hf
                                                refine G.tableIn 1 209 (off := 208) dX3_takeSign_1 (by rw [h169]; decide +kernel) (by rw [h169]; decide +kernel) (by rw [h169]; decide +kernel) (by decide) ?_
                                                refine G.aload_n 209 0 dX3_takeSign_209 rfl rfl ?_
                                                obtain ⟨q172, e173, hf⟩ := bd_e hf
                                                refine G.cvV 210 (As := []) ck_3 (hs.k k_a0) (c_X3_endTest Z hs a0 k_a0 e173) mk_X3_endTest vk_X3_endTest rfl wd_1062 hR (by decide +kernel) ⟨rfl, rfl⟩ rfl (Nat.le_of_ble_eq_true rfl) dX3_takeSign_210 (fun hs170 => ?_)
                                                refine G.aload_n 213 0 dX3_takeSign_213 rfl rfl ?_
                                                refine G.iload_n 214 1 dX3_takeSign_214 rfl rfl ?_
                                                obtain ⟨q176, e177, hf⟩ := bd_e hf
                                                refine G.cvV 215 (As := [.int x1]) ck_3 (hs170.k k_a0) (c_X3_takeJoint Z hs170 a0 x1 k_a0 e177) mk_X3_takeJoint vk_X3_takeJoint rfl wd_1074 hR (by decide +kernel) ⟨rfl, rfl⟩ rfl (Nat.le_of_ble_eq_true rfl) dX3_takeSign_215 (fun hs174 => ?_)
                                                (have hf9 := Option.some.inj hf; subst hf9)
                                                exact G.rV 218 hq dX3_takeSign_218 hs174
                                              · replace hf := (if_neg h169).symm.trans hf
                                                by_cases h178 : x1 = (56 : Int32)
                                                · replace hf := (if_pos h178).symm.trans hf
                                                  refine G.tableIn 1 209 (off := 208) dX3_takeSign_1 (by rw [h178]; decide +kernel) (by rw [h178]; decide +kernel) (by rw [h178]; decide +kernel) (by decide) ?_
                                                  refine G.aload_n 209 0 dX3_takeSign_209 rfl rfl ?_
                                                  obtain ⟨q181, e182, hf⟩ := bd_e hf
                                                  refine G.cvV 210 (As := []) ck_3 (hs.k k_a0) (c_X3_endTest Z hs a0 k_a0 e182) mk_X3_endTest vk_X3_endTest rfl wd_1062 hR (by decide +kernel) ⟨rfl, rfl⟩ rfl (Nat.le_of_ble_eq_true rfl) dX3_takeSign_210 (fun hs179 => ?_)
                                                  refine G.aload_n 213 0 dX3_takeSign_213 rfl rfl ?_
                                                  refine G.iload_n 214 1 dX3_takeSign_214 rfl rfl ?_
                                                  obtain ⟨q185, e186, hf⟩ := bd_e hf
                                                  refine G.cvV 215 (As := [.int x1]) ck_3 (hs179.k k_a0) (c_X3_takeJoint Z hs179 a0 x1 k_a0 e186) mk_X3_takeJoint vk_X3_takeJoint rfl wd_1074 hR (by decide +kernel) ⟨rfl, rfl⟩ rfl (Nat.le_of_ble_eq_true rfl) dX3_takeSign_215 (fun hs183 => ?_)
                                                  (have hf9 := Option.some.inj hf; subst hf9)
                                                  exact G.rV 218 hq dX3_takeSign_218 hs183
                                                · replace hf := (if_neg h178).symm.trans hf
                                                  by_cases h187 : x1 = (57 : Int32)
                                                  · replace hf := (if_pos h187).symm.trans hf
                                                    refine G.tableIn 1 209 (off := 208) dX3_takeSign_1 (by rw [h187]; decide +kernel) (by rw [h187]; decide +kernel) (by rw [h187]; decide +kernel) (by decide) ?_
                                                    refine G.aload_n 209 0 dX3_takeSign_209 rfl rfl ?_
                                                    obtain ⟨q190, e191, hf⟩ := bd_e hf
                                                    refine G.cvV 210 (As := []) ck_3 (hs.k k_a0) (c_X3_endTest Z hs a0 k_a0 e191) mk_X3_endTest vk_X3_endTest rfl wd_1062 hR (by decide +kernel) ⟨rfl, rfl⟩ rfl (Nat.le_of_ble_eq_true rfl) dX3_takeSign_210 (fun hs188 => ?_)
                                                    refine G.aload_n 213 0 dX3_takeSign_213 rfl rfl ?_
                                                    refine G.iload_n 214 1 dX3_takeSign_214 rfl rfl ?_
                                                    obtain ⟨q194, e195, hf⟩ := bd_e hf
                                                    refine G.cvV 215 (As := [.int x1]) ck_3 (hs188.k k_a0) (c_X3_takeJoint Z hs188 a0 x1 k_a0 e195) mk_X3_takeJoint vk_X3_takeJoint rfl wd_1074 hR (by decide +kernel) ⟨rfl, rfl⟩ rfl (Nat.le_of_ble_eq_true rfl) dX3_takeSign_215 (fun hs192 => ?_)
                                                    (have hf9 := Option.some.inj hf; subst hf9)
                                                    exact G.rV 218 hq dX3_takeSign_218 hs192
                                                  · replace hf := (if_neg h187).symm.trans hf
                                                    by_cases h196 : x1 = (58 : Int32)
                                                    · replace hf := (if_pos h196).symm.trans hf
                                                      refine G.tableIn 1 209 (off := 208) dX3_takeSign_1 (by rw [h196]; decide +kernel) (by rw [h196]; decide +kernel) (by rw [h196]; decide +kernel) (by decide) ?_
                                                      refine G.aload_n 209 0 dX3_takeSign_209 rfl rfl ?_
                                                      obtain ⟨q199, e200, hf⟩ := bd_e hf
                                                      refine G.cvV 210 (As := []) ck_3 (hs.k k_a0) (c_X3_endTest Z hs a0 k_a0 e200) mk_X3_endTest vk_X3_endTest rfl wd_1062 hR (by decide +kernel) ⟨rfl, rfl⟩ rfl (Nat.le_of_ble_eq_true rfl) dX3_takeSign_210 (fun hs197 => ?_)
                                                      refine G.aload_n 213 0 dX3_takeSign_213 rfl rfl ?_
                                                      refine G.iload_n 214 1 dX3_takeSign_214 rfl rfl ?_
                                                      obtain ⟨q203, e204, hf⟩ := bd_e hf
                                                      refine G.cvV 215 (As := [.int x1]) ck_3 (hs197.k k_a0) (c_X3_takeJoint Z hs197 a0 x1 k_a0 e204) mk_X3_takeJoint vk_X3_takeJoint rfl wd_1074 hR (by decide +kernel) ⟨rfl, rfl⟩ rfl (Nat.le_of_ble_eq_true rfl) dX3_takeSign_215 (fun hs201 => ?_)
                                                      (have hf9 := Option.some.inj hf; subst hf9)
                                                      exact G.rV 218 hq dX3_takeSign_218 hs201
                                                    · replace hf := (if_neg h196).symm.trans hf
                                                      by_cases h205 : x1 = (59 : Int32)
                                                      · replace hf := (if_pos h205).symm.trans hf
                                                        refine G.tableIn 1 209 (off := 208) dX3_takeSign_1 (by rw [h205]; decide +kernel) (by rw [h205]; decide +kernel) (by rw [h205]; decide +kernel) (by decide) ?_
                                                        refine G.aload_n 209 0 dX3_takeSign_209 rfl rfl ?_
                                                        obtain ⟨q208, e209, hf⟩ := bd_e hf
                                                        refine G.cvV 210 (As := []) ck_3 (hs.k k_a0) (c_X3_endTest Z hs a0 k_a0 e209) mk_X3_endTest vk_X3_endTest rfl wd_1062 hR (by decide +kernel) ⟨rfl, rfl⟩ rfl (Nat.le_of_ble_eq_true rfl) dX3_takeSign_210 (fun hs206 => ?_)
                                                        refine G.aload_n 213 0 dX3_takeSign_213 rfl rfl ?_
                                                        refine G.iload_n 214 1 dX3_takeSign_214 rfl rfl ?_
                                                        obtain ⟨q212, e213, hf⟩ := bd_e hf
                                                        refine G.cvV 215 (As := [.int x1]) ck_3 (hs206.k k_a0) (c_X3_takeJoint Z hs206 a0 x1 k_a0 e213) mk_X3_takeJoint vk_X3_takeJoint rfl wd_1074 hR (by decide +kernel) ⟨rfl, rfl⟩ rfl (Nat.le_of_ble_eq_true rfl) dX3_takeSign_215 (fun hs210 => ?_)
                                                        (have hf9 := Option.some.inj hf; subst hf9)
                                                        exact G.rV 218 hq dX3_takeSign_218 hs210
                                                      · replace hf := (if_neg h205).symm.trans hf
                                                        by_cases h214 : x1 = (60 : Int32)
                                                        · replace hf := (if_pos h214).symm.trans hf
                                                          refine G.tableIn 1 156 (off := 155) dX3_takeSign_1 (by rw [h214]; decide +kernel) (by rw [h214]; decide +kernel) (by rw [h214]; decide +kernel) (by decide) ?_
                                                          refine G.aload_n 156 0 dX3_takeSign_156 rfl rfl ?_
                                                          obtain ⟨q217, e218, hf⟩ := bd_e hf
                                                          refine G.cvV 157 (As := []) ck_3 (hs.k k_a0) (c_X3_endProduct Z hs a0 k_a0 e218) mk_X3_endProduct vk_X3_endProduct rfl wd_1058 hR (by decide +kernel) ⟨rfl, rfl⟩ rfl (Nat.le_of_ble_eq_true rfl) dX3_takeSign_157 (fun hs215 => ?_)
                                                          refine G.aload_n 160 0 dX3_takeSign_160 rfl rfl ?_
                                                          refine G.aload_n 161 0 dX3_takeSign_161 rfl rfl ?_
                                                          refine G.geti 162 ck_3 6 (hs215.k k_a0) (by decide) (by decide +kernel) wd_133 dX3_takeSign_162 ?_
                                                          refine G.puti 165 ck_3 4 (hs215.k k_a0) (by decide) (by decide +kernel) rfl wd_131 rfl rfl dX3_takeSign_165 ?_
                                                          refine G.aload_n 168 0 dX3_takeSign_168 rfl rfl ?_
                                                          refine G.iload_n 169 1 dX3_takeSign_169 rfl rfl ?_
                                                          refine G.puti 170 ck_3 5 ((St.i hs215).k k_a0) (by decide) (by decide +kernel) rfl wd_132 rfl rfl dX3_takeSign_170 ?_
                                                          refine G.aload_n 173 0 dX3_takeSign_173 rfl rfl ?_
                                                          obtain ⟨q221, e222, hf⟩ := bd_e hf
                                                          refine G.cvV 174 (As := []) ck_3 ((St.i (St.i hs215)).k k_a0) (c_X3_beginSum Z (St.i (St.i hs215)) a0 k_a0 e222) mk_X3_beginSum vk_X3_beginSum rfl wd_1032 hR (by decide +kernel) ⟨rfl, rfl⟩ rfl (Nat.le_of_ble_eq_true rfl) dX3_takeSign_174 (fun hs219 => ?_)
                                                          refine G.goto 177 218 dX3_takeSign_177 (by decide) ?_
                                                          (have hf9 := Option.some.inj hf; subst hf9)
                                                          exact G.rV 218 hq dX3_takeSign_218 hs219
                                                        · replace hf := (if_neg h214).symm.trans hf
                                                          by_cases h223 : x1 = (61 : Int32)
                                                          · replace hf := (if_pos h223).symm.trans hf
                                                            refine G.tableIn 1 156 (off := 155) dX3_takeSign_1 (by rw [h223]; decide +kernel) (by rw [h223]; decide +kernel) (by rw [h223]; decide +kernel) (by decide) ?_
                                                            refine G.aload_n 156 0 dX3_takeSign_156 rfl rfl ?_
                                                            obtain ⟨q226, e227, hf⟩ := bd_e hf
                                                            refine G.cvV 157 (As := []) ck_3 (hs.k k_a0) (c_X3_endProduct Z hs a0 k_a0 e227) mk_X3_endProduct vk_X3_endProduct rfl wd_1058 hR (by decide +kernel) ⟨rfl, rfl⟩ rfl (Nat.le_of_ble_eq_true rfl) dX3_takeSign_157 (fun hs224 => ?_)
                                                            refine G.aload_n 160 0 dX3_takeSign_160 rfl rfl ?_
                                                            refine G.aload_n 161 0 dX3_takeSign_161 rfl rfl ?_
                                                            refine G.geti 162 ck_3 6 (hs224.k k_a0) (by decide) (by decide +kernel) wd_133 dX3_takeSign_162 ?_
                                                            refine G.puti 165 ck_3 4 (hs224.k k_a0) (by decide) (by decide +kernel) rfl wd_131 rfl rfl dX3_takeSign_165 ?_
                                                            refine G.aload_n 168 0 dX3_takeSign_168 rfl rfl ?_
                                                            refine G.iload_n 169 1 dX3_takeSign_169 rfl rfl ?_
                                                            refine G.puti 170 ck_3 5 ((St.i hs224).k k_a0) (by decide) (by decide +kernel) rfl wd_132 rfl rfl dX3_takeSign_170 ?_
                                                            refine G.aload_n 173 0 dX3_takeSign_173 rfl rfl ?_
                                                            obtain ⟨q230, e231, hf⟩ := bd_e hf
                                                            refine G.cvV 174 (As := []) ck_3 ((St.i (St.i hs224)).k k_a0) (c_X3_beginSum Z (St.i (St.i hs224)) a0 k_a0 e231) mk_X3_beginSum vk_X3_beginSum rfl wd_1032 hR (by decide +kernel) ⟨rfl, rfl⟩ rfl (Nat.le_of_ble_eq_true rfl) dX3_takeSign_174 (fun hs228 => ?_)
                                                            refine G.goto 177 218 dX3_takeSign_177 (by decide) ?_
                                                            (have hf9 := Option.some.inj hf; subst hf9)
                                                            exact G.rV 218 hq dX3_takeSign_218 hs228
                                                          · replace hf := (if_neg h223).symm.trans hf
                                                            by_cases h232 : x1 = (62 : Int32)
                                                            · replace hf := (if_pos h232).symm.trans hf
                                                              refine G.tableIn 1 156 (off := 155) dX3_takeSign_1 (by rw [h232]; decide +kernel) (by rw [h232]; decide +kernel) (by rw [h232]; decide +kernel) (by decide) ?_
                                                              refine G.aload_n 156 0 dX3_takeSign_156 rfl rfl ?_
                                                              obtain ⟨q235, e236, hf⟩ := bd_e hf
                                                              refine G.cvV 157 (As := []) ck_3 (hs.k k_a0) (c_X3_endProduct Z hs a0 k_a0 e236) mk_X3_endProduct vk_X3_endProduct rfl wd_1058 hR (by decide +kernel) ⟨rfl, rfl⟩ rfl (Nat.le_of_ble_eq_true rfl) dX3_takeSign_157 (fun hs233 => ?_)
                                                              refine G.aload_n 160 0 dX3_takeSign_160 rfl rfl ?_
                                                              refine G.aload_n 161 0 dX3_takeSign_161 rfl rfl ?_
                                                              refine G.geti 162 ck_3 6 (hs233.k k_a0) (by decide) (by decide +kernel) wd_133 dX3_takeSign_162 ?_
                                                              refine G.puti 165 ck_3 4 (hs233.k k_a0) (by decide) (by decide +kernel) rfl wd_131 rfl rfl dX3_takeSign_165 ?_
                                                              refine G.aload_n 168 0 dX3_takeSign_168 rfl rfl ?_
                                                              refine G.iload_n 169 1 dX3_takeSign_169 rfl rfl ?_
                                                              refine G.puti 170 ck_3 5 ((St.i hs233).k k_a0) (by decide) (by decide +kernel) rfl wd_132 rfl rfl dX3_takeSign_170 ?_
                                                              refine G.aload_n 173 0 dX3_takeSign_173 rfl rfl ?_
                                                              obtain ⟨q239, e240, hf⟩ := bd_e hf
                                                              refine G.cvV 174 (As := []) ck_3 ((St.i (St.i hs233)).k k_a0) (c_X3_beginSum Z (St.i (St.i hs233)) a0 k_a0 e240) mk_X3_beginSum vk_X3_beginSum rfl wd_1032 hR (by decide +kernel) ⟨rfl, rfl⟩ rfl (Nat.le_of_ble_eq_true rfl) dX3_takeSign_174 (fun hs237 => ?_)
                                                              refine G.goto 177 218 dX3_takeSign_177 (by decide) ?_
                                                              (have hf9 := Option.some.inj hf; subst hf9)
                                                              exact G.rV 218 hq dX3_takeSign_218 hs237
                                                            · replace hf := (if_neg h232).symm.trans hf
                                                              have t_h1 := ti (33 : Int32) (33) (by decide +kernel) h1
                                                              have t_h4 := ti (34 : Int32) (34) (by decide +kernel) h4
                                                              have t_h13 := ti (35 : Int32) (35) (by decide +kernel) h13
                                                              have t_h22 := ti (36 : Int32) (36) (by decide +kernel) h22
                                                              have t_h31 := ti (37 : Int32) (37) (by decide +kernel) h31
                                                              have t_h32 := ti (38 : Int32) (38) (by decide +kernel) h32
                                                              have t_h41 := ti (39 : Int32) (39) (by decide +kernel) h41
                                                              have t_h50 := ti (40 : Int32) (40) (by decide +kernel) h50
                                                              have t_h59 := ti (41 : Int32) (41) (by decide +kernel) h59
                                                              have t_h68 := ti (42 : Int32) (42) (by decide +kernel) h68
                                                              have t_h69 := ti (43 : Int32) (43) (by decide +kernel) h69
                                                              have t_h74 := ti (44 : Int32) (44) (by decide +kernel) h74
                                                              have t_h83 := ti (45 : Int32) (45) (by decide +kernel) h83
                                                              have t_h88 := ti (46 : Int32) (46) (by decide +kernel) h88
                                                              have t_h97 := ti (47 : Int32) (47) (by decide +kernel) h97
                                                              have t_h106 := ti (48 : Int32) (48) (by decide +kernel) h106
                                                              have t_h115 := ti (49 : Int32) (49) (by decide +kernel) h115
                                                              have t_h124 := ti (50 : Int32) (50) (by decide +kernel) h124
                                                              have t_h133 := ti (51 : Int32) (51) (by decide +kernel) h133
                                                              have t_h142 := ti (52 : Int32) (52) (by decide +kernel) h142
                                                              have t_h151 := ti (53 : Int32) (53) (by decide +kernel) h151
                                                              have t_h160 := ti (54 : Int32) (54) (by decide +kernel) h160
                                                              have t_h169 := ti (55 : Int32) (55) (by decide +kernel) h169
                                                              have t_h178 := ti (56 : Int32) (56) (by decide +kernel) h178
                                                              have t_h187 := ti (57 : Int32) (57) (by decide +kernel) h187
                                                              have t_h196 := ti (58 : Int32) (58) (by decide +kernel) h196
                                                              have t_h205 := ti (59 : Int32) (59) (by decide +kernel) h205
                                                              have t_h214 := ti (60 : Int32) (60) (by decide +kernel) h214
                                                              have t_h223 := ti (61 : Int32) (61) (by decide +kernel) h223
                                                              have t_h232 := ti (62 : Int32) (62) (by decide +kernel) h232
                                                              refine G.tableOut 1 209 dX3_takeSign_1 (by omega) (by decide) ?_
                                                              refine G.aload_n 209 0 dX3_takeSign_209 rfl rfl ?_
                                                              obtain ⟨q243, e244, hf⟩ := bd_e hf
                                                              refine G.cvV 210 (As := []) ck_3 (hs.k k_a0) (c_X3_endTest Z hs a0 k_a0 e244) mk_X3_endTest vk_X3_endTest rfl wd_1062 hR (by decide +kernel) ⟨rfl, rfl⟩ rfl (Nat.le_of_ble_eq_true rfl) dX3_takeSign_210 (fun hs241 => ?_)
                                                              refine G.aload_n 213 0 dX3_takeSign_213 rfl rfl ?_
                                                              refine G.iload_n 214 1 dX3_takeSign_214 rfl rfl ?_
                                                              obtain ⟨q247, e248, hf⟩ := bd_e hf
                                                              refine G.cvV 215 (As := [.int x1]) ck_3 (hs241.k k_a0) (c_X3_takeJoint Z hs241 a0 x1 k_a0 e248) mk_X3_takeJoint vk_X3_takeJoint rfl wd_1074 hR (by decide +kernel) ⟨rfl, rfl⟩ rfl (Nat.le_of_ble_eq_true rfl) dX3_takeSign_215 (fun hs245 => ?_)
                                                              (have hf9 := Option.some.inj hf; subst hf9)
                                                              exact G.rV 218 hq dX3_takeSign_218 hs245
abbrev Y_X3_holds : My := (cX3_holds, RX3, 7)
def rm_X3_holds : Room := { frames := 6, cells := 0, slots := 0, locals := 311 }
theorem dX3_holds_0 : decode cX3_holds 0 = .ok (.aload_n 0, 1) := by decide +kernel
theorem dX3_holds_1 : decode cX3_holds 1 = .ok (.iconst 0, 1) := by decide +kernel
theorem dX3_holds_2 : decode cX3_holds 2 = .ok (.putfield 21, 3) := by decide +kernel
theorem dX3_holds_5 : decode cX3_holds 5 = .ok (.aload_n 0, 1) := by decide +kernel
theorem dX3_holds_6 : decode cX3_holds 6 = .ok (.invokevirtual 25, 3) := by decide +kernel
theorem dX3_holds_9 : decode cX3_holds 9 = .ok (.aload_n 0, 1) := by decide +kernel
theorem dX3_holds_10 : decode cX3_holds 10 = .ok (.invokevirtual 28, 3) := by decide +kernel
theorem dX3_holds_13 : decode cX3_holds 13 = .ok (.aload_n 0, 1) := by decide +kernel
theorem dX3_holds_14 : decode cX3_holds 14 = .ok (.iconst 0, 1) := by decide +kernel
theorem dX3_holds_15 : decode cX3_holds 15 = .ok (.putfield 31, 3) := by decide +kernel
theorem dX3_holds_18 : decode cX3_holds 18 = .ok (.aload_n 0, 1) := by decide +kernel
theorem dX3_holds_19 : decode cX3_holds 19 = .ok (.iconst 0, 1) := by decide +kernel
theorem dX3_holds_20 : decode cX3_holds 20 = .ok (.putfield 34, 3) := by decide +kernel
theorem dX3_holds_23 : decode cX3_holds 23 = .ok (.iconst 2, 1) := by decide +kernel
theorem dX3_holds_24 : decode cX3_holds 24 = .ok (.istore 5, 2) := by decide +kernel
theorem dX3_holds_26 : decode cX3_holds 26 = .ok (.iload 5, 2) := by decide +kernel
theorem dX3_holds_28 : decode cX3_holds 28 = .ok (.iload_n 2, 1) := by decide +kernel
theorem dX3_holds_29 : decode cX3_holds 29 = .ok (.if_icmp .ge 121, 3) := by decide +kernel
theorem dX3_holds_32 : decode cX3_holds 32 = .ok (.iload 5, 2) := by decide +kernel
theorem dX3_holds_34 : decode cX3_holds 34 = .ok (.aload_n 1, 1) := by decide +kernel
theorem dX3_holds_35 : decode cX3_holds 35 = .ok (.arraylength, 1) := by decide +kernel
theorem dX3_holds_36 : decode cX3_holds 36 = .ok (.if_icmp .ge 114, 3) := by decide +kernel
theorem dX3_holds_39 : decode cX3_holds 39 = .ok (.aload_n 1, 1) := by decide +kernel
theorem dX3_holds_40 : decode cX3_holds 40 = .ok (.iload 5, 2) := by decide +kernel
theorem dX3_holds_42 : decode cX3_holds 42 = .ok (.iaload, 1) := by decide +kernel
theorem dX3_holds_43 : decode cX3_holds 43 = .ok (.invokestatic 37, 3) := by decide +kernel
theorem dX3_holds_46 : decode cX3_holds 46 = .ok (.ifCond .eq 20, 3) := by decide +kernel
theorem dX3_holds_49 : decode cX3_holds 49 = .ok (.aload_n 0, 1) := by decide +kernel
theorem dX3_holds_50 : decode cX3_holds 50 = .ok (.aload_n 1, 1) := by decide +kernel
theorem dX3_holds_51 : decode cX3_holds 51 = .ok (.iload 5, 2) := by decide +kernel
theorem dX3_holds_53 : decode cX3_holds 53 = .ok (.iaload, 1) := by decide +kernel
theorem dX3_holds_54 : decode cX3_holds 54 = .ok (.aload_n 3, 1) := by decide +kernel
theorem dX3_holds_55 : decode cX3_holds 55 = .ok (.iload 4, 2) := by decide +kernel
theorem dX3_holds_57 : decode cX3_holds 57 = .ok (.invokestatic 41, 3) := by decide +kernel
theorem dX3_holds_60 : decode cX3_holds 60 = .ok (.invokevirtual 45, 3) := by decide +kernel
theorem dX3_holds_63 : decode cX3_holds 63 = .ok (.goto 81, 3) := by decide +kernel
theorem dX3_holds_66 : decode cX3_holds 66 = .ok (.aload_n 1, 1) := by decide +kernel
theorem dX3_holds_67 : decode cX3_holds 67 = .ok (.iload 5, 2) := by decide +kernel
theorem dX3_holds_69 : decode cX3_holds 69 = .ok (.iaload, 1) := by decide +kernel
theorem dX3_holds_70 : decode cX3_holds 70 = .ok (.invokestatic 49, 3) := by decide +kernel
theorem dX3_holds_73 : decode cX3_holds 73 = .ok (.ifCond .eq 63, 3) := by decide +kernel
theorem dX3_holds_76 : decode cX3_holds 76 = .ok (.iload 5, 2) := by decide +kernel
theorem dX3_holds_78 : decode cX3_holds 78 = .ok (.iconst 1, 1) := by decide +kernel
theorem dX3_holds_79 : decode cX3_holds 79 = .ok (.iadd, 1) := by decide +kernel
theorem dX3_holds_80 : decode cX3_holds 80 = .ok (.iload_n 2, 1) := by decide +kernel
theorem dX3_holds_81 : decode cX3_holds 81 = .ok (.if_icmp .ge 28, 3) := by decide +kernel
theorem dX3_holds_84 : decode cX3_holds 84 = .ok (.iload 5, 2) := by decide +kernel
theorem dX3_holds_86 : decode cX3_holds 86 = .ok (.iconst 1, 1) := by decide +kernel
theorem dX3_holds_87 : decode cX3_holds 87 = .ok (.iadd, 1) := by decide +kernel
theorem dX3_holds_88 : decode cX3_holds 88 = .ok (.aload_n 1, 1) := by decide +kernel
theorem dX3_holds_89 : decode cX3_holds 89 = .ok (.arraylength, 1) := by decide +kernel
theorem dX3_holds_90 : decode cX3_holds 90 = .ok (.if_icmp .ge 19, 3) := by decide +kernel
theorem dX3_holds_93 : decode cX3_holds 93 = .ok (.aload_n 1, 1) := by decide +kernel
theorem dX3_holds_94 : decode cX3_holds 94 = .ok (.iload 5, 2) := by decide +kernel
theorem dX3_holds_96 : decode cX3_holds 96 = .ok (.iconst 1, 1) := by decide +kernel
theorem dX3_holds_97 : decode cX3_holds 97 = .ok (.iadd, 1) := by decide +kernel
theorem dX3_holds_98 : decode cX3_holds 98 = .ok (.iaload, 1) := by decide +kernel
theorem dX3_holds_99 : decode cX3_holds 99 = .ok (.invokestatic 49, 3) := by decide +kernel
theorem dX3_holds_102 : decode cX3_holds 102 = .ok (.ifCond .eq 7, 3) := by decide +kernel
theorem dX3_holds_105 : decode cX3_holds 105 = .ok (.iconst 1, 1) := by decide +kernel
theorem dX3_holds_106 : decode cX3_holds 106 = .ok (.goto 4, 3) := by decide +kernel
theorem dX3_holds_109 : decode cX3_holds 109 = .ok (.iconst 0, 1) := by decide +kernel
theorem dX3_holds_110 : decode cX3_holds 110 = .ok (.istore 6, 2) := by decide +kernel
theorem dX3_holds_112 : decode cX3_holds 112 = .ok (.aload_n 0, 1) := by decide +kernel
theorem dX3_holds_113 : decode cX3_holds 113 = .ok (.aload_n 1, 1) := by decide +kernel
theorem dX3_holds_114 : decode cX3_holds 114 = .ok (.iload 5, 2) := by decide +kernel
theorem dX3_holds_116 : decode cX3_holds 116 = .ok (.iaload, 1) := by decide +kernel
theorem dX3_holds_117 : decode cX3_holds 117 = .ok (.bipush 48, 2) := by decide +kernel
theorem dX3_holds_119 : decode cX3_holds 119 = .ok (.isub, 1) := by decide +kernel
theorem dX3_holds_120 : decode cX3_holds 120 = .ok (.iload 6, 2) := by decide +kernel
theorem dX3_holds_122 : decode cX3_holds 122 = .ok (.ifCond .ne 7, 3) := by decide +kernel
theorem dX3_holds_125 : decode cX3_holds 125 = .ok (.iconst 1, 1) := by decide +kernel
theorem dX3_holds_126 : decode cX3_holds 126 = .ok (.goto 4, 3) := by decide +kernel
theorem dX3_holds_129 : decode cX3_holds 129 = .ok (.iconst 0, 1) := by decide +kernel
theorem dX3_holds_130 : decode cX3_holds 130 = .ok (.invokevirtual 52, 3) := by decide +kernel
theorem dX3_holds_133 : decode cX3_holds 133 = .ok (.goto 11, 3) := by decide +kernel
theorem dX3_holds_136 : decode cX3_holds 136 = .ok (.aload_n 0, 1) := by decide +kernel
theorem dX3_holds_137 : decode cX3_holds 137 = .ok (.aload_n 1, 1) := by decide +kernel
theorem dX3_holds_138 : decode cX3_holds 138 = .ok (.iload 5, 2) := by decide +kernel
theorem dX3_holds_140 : decode cX3_holds 140 = .ok (.iaload, 1) := by decide +kernel
theorem dX3_holds_141 : decode cX3_holds 141 = .ok (.invokevirtual 56, 3) := by decide +kernel
theorem dX3_holds_144 : decode cX3_holds 144 = .ok (.iinc 5 1, 3) := by decide +kernel
theorem dX3_holds_147 : decode cX3_holds 147 = .ok (.goto (-121), 3) := by decide +kernel
theorem dX3_holds_150 : decode cX3_holds 150 = .ok (.aload_n 0, 1) := by decide +kernel
theorem dX3_holds_151 : decode cX3_holds 151 = .ok (.invokevirtual 59, 3) := by decide +kernel
theorem dX3_holds_154 : decode cX3_holds 154 = .ok (.aload_n 0, 1) := by decide +kernel
theorem dX3_holds_155 : decode cX3_holds 155 = .ok (.getfield 9, 3) := by decide +kernel
theorem dX3_holds_158 : decode cX3_holds 158 = .ok (.iconst 0, 1) := by decide +kernel
theorem dX3_holds_159 : decode cX3_holds 159 = .ok (.baload, 1) := by decide +kernel
theorem dX3_holds_160 : decode cX3_holds 160 = .ok (.ifCond .ne 12, 3) := by decide +kernel
theorem dX3_holds_163 : decode cX3_holds 163 = .ok (.aload_n 0, 1) := by decide +kernel
theorem dX3_holds_164 : decode cX3_holds 164 = .ok (.getfield 15, 3) := by decide +kernel
theorem dX3_holds_167 : decode cX3_holds 167 = .ok (.iconst 0, 1) := by decide +kernel
theorem dX3_holds_168 : decode cX3_holds 168 = .ok (.baload, 1) := by decide +kernel
theorem dX3_holds_169 : decode cX3_holds 169 = .ok (.ifCond .eq 7, 3) := by decide +kernel
theorem dX3_holds_172 : decode cX3_holds 172 = .ok (.iconst 1, 1) := by decide +kernel
theorem dX3_holds_173 : decode cX3_holds 173 = .ok (.goto 4, 3) := by decide +kernel
theorem dX3_holds_176 : decode cX3_holds 176 = .ok (.iconst 0, 1) := by decide +kernel
theorem dX3_holds_177 : decode cX3_holds 177 = .ok (.ireturn, 1) := by decide +kernel
def B_X3_holds_172 (M : Mem) : Option (Int32 × Mem) := some ((1 : Int32), M)
def B_X3_holds_150 (a0 : Nat) (M : Mem) : Option (Int32 × Mem) := (f_X3_endTest a0 M).bind fun q12 => if (mI q12 (a0 + 1) 0) = 0 then if (mI q12 (a0 + 2) 0) = 0 then some ((0 : Int32), q12) else B_X3_holds_172 q12 else B_X3_holds_172 q12
def B_X3_holds_144 (rc_26 : Nat → Nat → Int32 → Nat → Int32 → Int32 → Mem → Option (Int32 × Mem)) (a0 : Nat) (a1 : Nat) (x2 : Int32) (a3 : Nat) (x4 : Int32) (x5 : Int32) (M : Mem) : Option (Int32 × Mem) := rc_26 a0 a1 x2 a3 x4 (x5 + 1) M
def B_X3_holds_109 (rc_26 : Nat → Nat → Int32 → Nat → Int32 → Int32 → Mem → Option (Int32 × Mem)) (a0 : Nat) (a1 : Nat) (x2 : Int32) (a3 : Nat) (x4 : Int32) (x5 : Int32) (M : Mem) : Option (Int32 × Mem) := gd (inR x5 (ln a1)) (if (0 : Int32) = 0 then (f_X3_takeDigit a0 ((mI M a1 x5.toNatClampNeg) - (48 : Int32)) (1 : Int32) M).bind fun q39 => B_X3_holds_144 rc_26 a0 a1 x2 a3 x4 x5 q39 else (f_X3_takeDigit a0 ((mI M a1 x5.toNatClampNeg) - (48 : Int32)) (0 : Int32) M).bind fun q35 => B_X3_holds_144 rc_26 a0 a1 x2 a3 x4 x5 q35)
def L_X3_holds_26 : Nat → Nat → Nat → Int32 → Nat → Int32 → Int32 → Mem → Option (Int32 × Mem)
  | 0, _, _, _, _, _, _, _ => none
  | n + 1, a0, a1, x2, a3, x4, x5, M => if x2 ≤ x5 then B_X3_holds_150 a0 M else if (Int32.ofNat (ln a1)) ≤ x5 then B_X3_holds_150 a0 M else gd (inR x5 (ln a1)) ((f_X2_isField (mI M a1 x5.toNatClampNeg)).bind fun q20 => if q20 = 0 then if (f_X2_isDigit (mI M a1 x5.toNatClampNeg)) = 0 then (f_X3_takeSign a0 (mI M a1 x5.toNatClampNeg) M).bind fun q28 => B_X3_holds_144 (L_X3_holds_26 n) a0 a1 x2 a3 x4 x5 q28 else if x2 ≤ (x5 + (1 : Int32)) then B_X3_holds_109 (L_X3_holds_26 n) a0 a1 x2 a3 x4 x5 M else if (Int32.ofNat (ln a1)) ≤ (x5 + (1 : Int32)) then B_X3_holds_109 (L_X3_holds_26 n) a0 a1 x2 a3 x4 x5 M else gd (inR (x5 + (1 : Int32)) (ln a1)) (if (f_X2_isDigit (mI M a1 (x5 + (1 : Int32)).toNatClampNeg)) = 0 then B_X3_holds_109 (L_X3_holds_26 n) a0 a1 x2 a3 x4 x5 M else if (1 : Int32) = 0 then (f_X3_takeDigit a0 ((mI M a1 x5.toNatClampNeg) - (48 : Int32)) (1 : Int32) M).bind fun q53 => B_X3_holds_144 (L_X3_holds_26 n) a0 a1 x2 a3 x4 x5 q53 else (f_X3_takeDigit a0 ((mI M a1 x5.toNatClampNeg) - (48 : Int32)) (0 : Int32) M).bind fun q49 => B_X3_holds_144 (L_X3_holds_26 n) a0 a1 x2 a3 x4 x5 q49) else (f_X3_fieldOf (mI M a1 x5.toNatClampNeg) a3 x4 M).bind fun q57 => (f_X3_takeAtom a0 q57 M).bind fun q61 => B_X3_holds_144 (L_X3_holds_26 n) a0 a1 x2 a3 x4 x5 q61)
def f_X3_holds (a0 : Nat) (a1 : Nat) (x2 : Int32) (a3 : Nat) (x4 : Int32) (M : Mem) : Option (Int32 × Mem) := (f_X3_beginGroup a0 (sI M a0 3 (0 : Int32))).bind fun q3 => (f_X3_beginSum a0 q3).bind fun q7 => L_X3_holds_26 FU a0 a1 x2 a3 x4 (2 : Int32) (sI (sI q7 a0 5 (0 : Int32)) a0 10 (0 : Int32))
set_option maxRecDepth 100000 in
set_option maxHeartbeats 4000000 in
theorem b_X3_holds_172 (Z : Sys) (X : Cx) (hR : xR X = rm_X3_holds) {q : Int32 × Mem} (hq : RetOk Z X (some .boolean) False (PostZ q.1 q.2) 0 0) {M : Mem} (hs : St M) (hf : B_X3_holds_172 M = some q) : G Z X Y_X3_holds False 0 0 172 [] [] M := by
  unfold B_X3_holds_172 at hf
  refine G.iconst 172 (1 : Int32) dX3_holds_172 (by decide +kernel) ?_
  refine G.goto 173 177 dX3_holds_173 (by decide) ?_
  (have hf9 := Option.some.inj hf; subst hf9)
  exact G.rZ 177 hq dX3_holds_177 hs (Or.inr rfl)
set_option maxRecDepth 100000 in
set_option maxHeartbeats 4000000 in
theorem b_X3_holds_150 (Z : Sys) (X : Cx) (hR : xR X = rm_X3_holds) {q : Int32 × Mem} (hq : RetOk Z X (some .boolean) False (PostZ q.1 q.2) 0 0) (a0 : Nat) {M : Mem} (hs : St M) (k_a0 : K0[a0]? = some (3, 11)) (hf : B_X3_holds_150 a0 M = some q) : G Z X Y_X3_holds False 0 0 150 [(0, .ref (zs Z + a0))] [] M := by
  unfold B_X3_holds_150 at hf
  refine G.aload_n 150 0 dX3_holds_150 rfl rfl ?_
  obtain ⟨q12, e13, hf⟩ := bd_e hf
  refine G.cvV 151 (As := []) ck_3 (hs.k k_a0) (c_X3_endTest Z hs a0 k_a0 e13) mk_X3_endTest vk_X3_endTest rfl wd_1062 hR (by decide +kernel) ⟨rfl, rfl⟩ rfl (Nat.le_of_ble_eq_true rfl) dX3_holds_151 (fun hs10 => ?_)
  refine G.aload_n 154 0 dX3_holds_154 rfl rfl ?_
  refine G.getp 155 ck_3 0 (a0 + 1) (hs10.k k_a0) (pt_3_0 hs10 k_a0).1 (by decide) (by decide +kernel) wd_127 dX3_holds_155 ?_
  refine G.iconst 158 (0 : Int32) dX3_holds_158 (by decide +kernel) ?_
  refine G.za 159 0 (hs10.k (pt_3_0 hs10 k_a0).2) (by decide +kernel) (by decide +kernel) dX3_holds_159 ?_
  refine G.if_ne 160 172 dX3_holds_160 (by decide) (fun h14 => ?_) (fun h14 => ?_)
  · replace hf := (if_neg h14).symm.trans hf
    refine G.locs [] rfl ?_
    exact b_X3_holds_172 Z X hR hq hs10 hf
  · replace hf := (if_pos h14).symm.trans hf
    refine G.aload_n 163 0 dX3_holds_163 rfl rfl ?_
    refine G.getp 164 ck_3 1 (a0 + 2) (hs10.k k_a0) (pt_3_1 hs10 k_a0).1 (by decide) (by decide +kernel) wd_128 dX3_holds_164 ?_
    refine G.iconst 167 (0 : Int32) dX3_holds_167 (by decide +kernel) ?_
    refine G.za 168 0 (hs10.k (pt_3_1 hs10 k_a0).2) (by decide +kernel) (by decide +kernel) dX3_holds_168 ?_
    refine G.if_eq 169 176 dX3_holds_169 (by decide) (fun h15 => ?_) (fun h15 => ?_)
    · replace hf := (if_pos h15).symm.trans hf
      refine G.iconst 176 (0 : Int32) dX3_holds_176 (by decide +kernel) ?_
      (have hf9 := Option.some.inj hf; subst hf9)
      exact G.rZ 177 hq dX3_holds_177 hs10 (Or.inl rfl)
    · replace hf := (if_neg h15).symm.trans hf
      refine G.locs [] rfl ?_
      exact b_X3_holds_172 Z X hR hq hs10 hf
set_option maxRecDepth 100000 in
set_option maxHeartbeats 4000000 in
theorem b_X3_holds_144 (Z : Sys) (X : Cx) (hR : xR X = rm_X3_holds) {q : Int32 × Mem} (hq : RetOk Z X (some .boolean) False (PostZ q.1 q.2) 0 0) (rc_26 : Nat → Nat → Int32 → Nat → Int32 → Int32 → Mem → Option (Int32 × Mem)) (hrc_26 : ∀ (a0 : Nat) (a1 : Nat) (x2 : Int32) (a3 : Nat) (x4 : Int32) (x5 : Int32) (M : Mem), St M → K0[a0]? = some (3, 11) → K0[a1]? = some (10, (ln a1)) → K0[a3]? = some (1, 12) → rc_26 a0 a1 x2 a3 x4 x5 M = some q → G Z X Y_X3_holds False 0 0 26 [(0, .ref (zs Z + a0)), (1, .ref (zs Z + a1)), (2, .int x2), (3, .ref (zs Z + a3)), (4, .int x4), (5, .int x5)] [] M) (a0 : Nat) (a1 : Nat) (x2 : Int32) (a3 : Nat) (x4 : Int32) (x5 : Int32) {M : Mem} (hs : St M) (k_a0 : K0[a0]? = some (3, 11)) (k_a1 : K0[a1]? = some (10, (ln a1))) (k_a3 : K0[a3]? = some (1, 12)) (hf : B_X3_holds_144 rc_26 a0 a1 x2 a3 x4 x5 M = some q) : G Z X Y_X3_holds False 0 0 144 [(0, .ref (zs Z + a0)), (1, .ref (zs Z + a1)), (2, .int x2), (3, .ref (zs Z + a3)), (4, .int x4), (5, .int x5)] [] M := by
  unfold B_X3_holds_144 at hf
  refine G.iinc 144 5 (x5 + 1) [(5, .int (x5 + 1)), (0, .ref (zs Z + a0)), (1, .ref (zs Z + a1)), (2, .int x2), (3, .ref (zs Z + a3)), (4, .int x4)] dX3_holds_144 rfl (congrArg (fun z => x5 + z) (by decide +kernel)) (Nat.le_of_ble_eq_true rfl) rfl ?_
  refine G.goto 147 26 dX3_holds_147 (by decide) ?_
  refine G.locs [1, 2, 3, 4, 5, 0] rfl ?_
  exact hrc_26 a0 a1 x2 a3 x4 (x5 + 1) M hs k_a0 (ln_k k_a1) k_a3 hf
set_option maxRecDepth 100000 in
set_option maxHeartbeats 4000000 in
theorem b_X3_holds_109 (Z : Sys) (X : Cx) (hR : xR X = rm_X3_holds) {q : Int32 × Mem} (hq : RetOk Z X (some .boolean) False (PostZ q.1 q.2) 0 0) (rc_26 : Nat → Nat → Int32 → Nat → Int32 → Int32 → Mem → Option (Int32 × Mem)) (hrc_26 : ∀ (a0 : Nat) (a1 : Nat) (x2 : Int32) (a3 : Nat) (x4 : Int32) (x5 : Int32) (M : Mem), St M → K0[a0]? = some (3, 11) → K0[a1]? = some (10, (ln a1)) → K0[a3]? = some (1, 12) → rc_26 a0 a1 x2 a3 x4 x5 M = some q → G Z X Y_X3_holds False 0 0 26 [(0, .ref (zs Z + a0)), (1, .ref (zs Z + a1)), (2, .int x2), (3, .ref (zs Z + a3)), (4, .int x4), (5, .int x5)] [] M) (a0 : Nat) (a1 : Nat) (x2 : Int32) (a3 : Nat) (x4 : Int32) (x5 : Int32) {M : Mem} (hs : St M) (k_a0 : K0[a0]? = some (3, 11)) (k_a1 : K0[a1]? = some (10, (ln a1))) (k_a3 : K0[a3]? = some (1, 12)) (hf : B_X3_holds_109 rc_26 a0 a1 x2 a3 x4 x5 M = some q) : G Z X Y_X3_holds False 0 0 109 [(0, .ref (zs Z + a0)), (1, .ref (zs Z + a1)), (2, .int x2), (3, .ref (zs Z + a3)), (4, .int x4), (5, .int x5)] [] M := by
  unfold B_X3_holds_109 at hf
  refine G.iconst 109 (0 : Int32) dX3_holds_109 (by decide +kernel) ?_
  refine G.istore 110 [(6, .int (0 : Int32)), (0, .ref (zs Z + a0)), (1, .ref (zs Z + a1)), (2, .int x2), (3, .ref (zs Z + a3)), (4, .int x4), (5, .int x5)] dX3_holds_110 (Nat.le_of_ble_eq_true rfl) rfl ?_
  refine G.aload_n 112 1 dX3_holds_112 rfl rfl ?_
  refine G.aload_n 113 2 dX3_holds_113 rfl rfl ?_
  refine G.iload 114 6 dX3_holds_114 rfl ?_
  obtain ⟨g31, hf⟩ := gd_e hf
  refine G.ia 116 x5.toNatClampNeg (hs.k k_a1) g31 rfl dX3_holds_116 ?_
  refine G.bipush 117 (48 : Int32) dX3_holds_117 (by decide +kernel) ?_
  refine G.isub 119 dX3_holds_119 ?_
  refine G.iload 120 0 dX3_holds_120 rfl ?_
  refine G.if_ne 122 129 dX3_holds_122 (by decide) (fun h32 => ?_) (fun h32 => ?_)
  · replace hf := (if_neg h32).symm.trans hf
    refine G.iconst 129 (0 : Int32) dX3_holds_129 (by decide +kernel) ?_
    obtain ⟨q35, e36, hf⟩ := bd_e hf
    refine G.cvV 130 (As := [.int ((mI M a1 x5.toNatClampNeg) - (48 : Int32)), .int (0 : Int32)]) ck_3 (hs.k k_a0) (c_X3_takeDigit Z hs a0 ((mI M a1 x5.toNatClampNeg) - (48 : Int32)) (0 : Int32) k_a0 e36) mk_X3_takeDigit vk_X3_takeDigit rfl wd_1050 hR (by decide +kernel) ⟨rfl, rfl⟩ rfl (Nat.le_of_ble_eq_true rfl) dX3_holds_130 (fun hs33 => ?_)
    refine G.goto 133 144 dX3_holds_133 (by decide) ?_
    refine G.locs [1, 2, 3, 4, 5, 6] rfl ?_
    exact b_X3_holds_144 Z X hR hq rc_26 hrc_26 a0 a1 x2 a3 x4 x5 hs33 k_a0 (ln_k k_a1) k_a3 hf
  · replace hf := (if_pos h32).symm.trans hf
    refine G.iconst 125 (1 : Int32) dX3_holds_125 (by decide +kernel) ?_
    refine G.goto 126 130 dX3_holds_126 (by decide) ?_
    obtain ⟨q39, e40, hf⟩ := bd_e hf
    refine G.cvV 130 (As := [.int ((mI M a1 x5.toNatClampNeg) - (48 : Int32)), .int (1 : Int32)]) ck_3 (hs.k k_a0) (c_X3_takeDigit Z hs a0 ((mI M a1 x5.toNatClampNeg) - (48 : Int32)) (1 : Int32) k_a0 e40) mk_X3_takeDigit vk_X3_takeDigit rfl wd_1050 hR (by decide +kernel) ⟨rfl, rfl⟩ rfl (Nat.le_of_ble_eq_true rfl) dX3_holds_130 (fun hs37 => ?_)
    refine G.goto 133 144 dX3_holds_133 (by decide) ?_
    refine G.locs [1, 2, 3, 4, 5, 6] rfl ?_
    exact b_X3_holds_144 Z X hR hq rc_26 hrc_26 a0 a1 x2 a3 x4 x5 hs37 k_a0 (ln_k k_a1) k_a3 hf
set_option maxRecDepth 100000 in
set_option maxHeartbeats 4000000 in
theorem l_X3_holds_26 (Z : Sys) (X : Cx) (hR : xR X = rm_X3_holds) {q : Int32 × Mem} (hq : RetOk Z X (some .boolean) False (PostZ q.1 q.2) 0 0) : ∀ (n : Nat) (a0 : Nat) (a1 : Nat) (x2 : Int32) (a3 : Nat) (x4 : Int32) (x5 : Int32) (M : Mem) (hs : St M) (k_a0 : K0[a0]? = some (3, 11)) (k_a1 : K0[a1]? = some (10, (ln a1))) (k_a3 : K0[a3]? = some (1, 12)) (hf : L_X3_holds_26 n a0 a1 x2 a3 x4 x5 M = some q), G Z X Y_X3_holds False 0 0 26 [(0, .ref (zs Z + a0)), (1, .ref (zs Z + a1)), (2, .int x2), (3, .ref (zs Z + a3)), (4, .int x4), (5, .int x5)] [] M := by
  intro n
  induction n with
  | zero => intro a0 a1 x2 a3 x4 x5 M hs k_a0 k_a1 k_a3 hf; cases hf
  | succ n ih =>
    intro a0 a1 x2 a3 x4 x5 M hs k_a0 k_a1 k_a3 hf
    unfold L_X3_holds_26 at hf
    refine G.iload 26 5 dX3_holds_26 rfl ?_
    refine G.iload_n 28 2 dX3_holds_28 rfl rfl ?_
    refine G.icmp_ge 29 150 dX3_holds_29 (by decide) (fun h9 => ?_) (fun h9 => ?_)
    · replace hf := (if_pos h9).symm.trans hf
      refine G.locs [0] rfl ?_
      exact b_X3_holds_150 Z X hR hq a0 hs k_a0 hf
    · replace hf := (if_neg h9).symm.trans hf
      refine G.iload 32 5 dX3_holds_32 rfl ?_
      refine G.aload_n 34 1 dX3_holds_34 rfl rfl ?_
      refine G.alen 35 (Int32.ofNat (ln a1)) (hs.k k_a1) (by decide) rfl dX3_holds_35 ?_
      refine G.icmp_ge 36 150 dX3_holds_36 (by decide) (fun h16 => ?_) (fun h16 => ?_)
      · replace hf := (if_pos h16).symm.trans hf
        refine G.locs [0] rfl ?_
        exact b_X3_holds_150 Z X hR hq a0 hs k_a0 hf
      · replace hf := (if_neg h16).symm.trans hf
        refine G.aload_n 39 1 dX3_holds_39 rfl rfl ?_
        refine G.iload 40 5 dX3_holds_40 rfl ?_
        obtain ⟨g17, hf⟩ := gd_e hf
        refine G.ia 42 x5.toNatClampNeg (hs.k k_a1) g17 rfl dX3_holds_42 ?_
        obtain ⟨q20, e21, hf⟩ := bd_e hf
        refine G.csZ 43 (As := [.int (mI M a1 x5.toNatClampNeg)]) (c_X2_isField Z hs (mI M a1 x5.toNatClampNeg) e21) mk_X2_isField wd_906 wd_1040 hR (by decide +kernel) ⟨rfl, rfl⟩ rfl (Nat.le_of_ble_eq_true rfl) dX3_holds_43 (fun hs18 z19 => ?_)
        refine G.if_eq 46 66 dX3_holds_46 (by decide) (fun h22 => ?_) (fun h22 => ?_)
        · replace hf := (if_pos h22).symm.trans hf
          refine G.aload_n 66 1 dX3_holds_66 rfl rfl ?_
          refine G.iload 67 5 dX3_holds_67 rfl ?_
          refine G.ia 69 x5.toNatClampNeg (hs18.k k_a1) g17 rfl dX3_holds_69 ?_
          refine G.csZ 70 (As := [.int (mI M a1 x5.toNatClampNeg)]) (c_X2_isDigit Z hs18 (mI M a1 x5.toNatClampNeg) rfl) mk_X2_isDigit wd_903 wd_1049 hR (by decide +kernel) ⟨rfl, rfl⟩ rfl (Nat.le_of_ble_eq_true rfl) dX3_holds_70 (fun hs23 z24 => ?_)
          refine G.if_eq 73 136 dX3_holds_73 (by decide) (fun h25 => ?_) (fun h25 => ?_)
          · replace hf := (if_pos h25).symm.trans hf
            refine G.aload_n 136 0 dX3_holds_136 rfl rfl ?_
            refine G.aload_n 137 1 dX3_holds_137 rfl rfl ?_
            refine G.iload 138 5 dX3_holds_138 rfl ?_
            refine G.ia 140 x5.toNatClampNeg (hs23.k k_a1) g17 rfl dX3_holds_140 ?_
            obtain ⟨q28, e29, hf⟩ := bd_e hf
            refine G.cvV 141 (As := [.int (mI M a1 x5.toNatClampNeg)]) ck_3 (hs23.k k_a0) (c_X3_takeSign Z hs23 a0 (mI M a1 x5.toNatClampNeg) k_a0 e29) mk_X3_takeSign vk_X3_takeSign rfl wd_1054 hR (by decide +kernel) ⟨rfl, rfl⟩ rfl (Nat.le_of_ble_eq_true rfl) dX3_holds_141 (fun hs26 => ?_)
            exact b_X3_holds_144 Z X hR hq (L_X3_holds_26 n) ih a0 a1 x2 a3 x4 x5 hs26 k_a0 (ln_k k_a1) k_a3 hf
          · replace hf := (if_neg h25).symm.trans hf
            refine G.iload 76 5 dX3_holds_76 rfl ?_
            refine G.iconst 78 (1 : Int32) dX3_holds_78 (by decide +kernel) ?_
            refine G.iadd 79 dX3_holds_79 ?_
            refine G.iload_n 80 2 dX3_holds_80 rfl rfl ?_
            refine G.icmp_ge 81 109 dX3_holds_81 (by decide) (fun h30 => ?_) (fun h30 => ?_)
            · replace hf := (if_pos h30).symm.trans hf
              exact b_X3_holds_109 Z X hR hq (L_X3_holds_26 n) ih a0 a1 x2 a3 x4 x5 hs23 k_a0 (ln_k k_a1) k_a3 hf
            · replace hf := (if_neg h30).symm.trans hf
              refine G.iload 84 5 dX3_holds_84 rfl ?_
              refine G.iconst 86 (1 : Int32) dX3_holds_86 (by decide +kernel) ?_
              refine G.iadd 87 dX3_holds_87 ?_
              refine G.aload_n 88 1 dX3_holds_88 rfl rfl ?_
              refine G.alen 89 (Int32.ofNat (ln a1)) (hs23.k k_a1) (by decide) rfl dX3_holds_89 ?_
              refine G.icmp_ge 90 109 dX3_holds_90 (by decide) (fun h41 => ?_) (fun h41 => ?_)
              · replace hf := (if_pos h41).symm.trans hf
                exact b_X3_holds_109 Z X hR hq (L_X3_holds_26 n) ih a0 a1 x2 a3 x4 x5 hs23 k_a0 (ln_k k_a1) k_a3 hf
              · replace hf := (if_neg h41).symm.trans hf
                refine G.aload_n 93 1 dX3_holds_93 rfl rfl ?_
                refine G.iload 94 5 dX3_holds_94 rfl ?_
                refine G.iconst 96 (1 : Int32) dX3_holds_96 (by decide +kernel) ?_
                refine G.iadd 97 dX3_holds_97 ?_
                obtain ⟨g42, hf⟩ := gd_e hf
                refine G.ia 98 (x5 + (1 : Int32)).toNatClampNeg (hs23.k k_a1) g42 rfl dX3_holds_98 ?_
                refine G.csZ 99 (As := [.int (mI M a1 (x5 + (1 : Int32)).toNatClampNeg)]) (c_X2_isDigit Z hs23 (mI M a1 (x5 + (1 : Int32)).toNatClampNeg) rfl) mk_X2_isDigit wd_903 wd_1049 hR (by decide +kernel) ⟨rfl, rfl⟩ rfl (Nat.le_of_ble_eq_true rfl) dX3_holds_99 (fun hs43 z44 => ?_)
                refine G.if_eq 102 109 dX3_holds_102 (by decide) (fun h45 => ?_) (fun h45 => ?_)
                · replace hf := (if_pos h45).symm.trans hf
                  exact b_X3_holds_109 Z X hR hq (L_X3_holds_26 n) ih a0 a1 x2 a3 x4 x5 hs43 k_a0 (ln_k k_a1) k_a3 hf
                · replace hf := (if_neg h45).symm.trans hf
                  refine G.iconst 105 (1 : Int32) dX3_holds_105 (by decide +kernel) ?_
                  refine G.goto 106 110 dX3_holds_106 (by decide) ?_
                  refine G.istore 110 [(6, .int (1 : Int32)), (0, .ref (zs Z + a0)), (1, .ref (zs Z + a1)), (2, .int x2), (3, .ref (zs Z + a3)), (4, .int x4), (5, .int x5)] dX3_holds_110 (Nat.le_of_ble_eq_true rfl) rfl ?_
                  refine G.aload_n 112 1 dX3_holds_112 rfl rfl ?_
                  refine G.aload_n 113 2 dX3_holds_113 rfl rfl ?_
                  refine G.iload 114 6 dX3_holds_114 rfl ?_
                  refine G.ia 116 x5.toNatClampNeg (hs43.k k_a1) g17 rfl dX3_holds_116 ?_
                  refine G.bipush 117 (48 : Int32) dX3_holds_117 (by decide +kernel) ?_
                  refine G.isub 119 dX3_holds_119 ?_
                  refine G.iload 120 0 dX3_holds_120 rfl ?_
                  refine G.if_ne 122 129 dX3_holds_122 (by decide) (fun h46 => ?_) (fun h46 => ?_)
                  · replace hf := (if_neg h46).symm.trans hf
                    refine G.iconst 129 (0 : Int32) dX3_holds_129 (by decide +kernel) ?_
                    obtain ⟨q49, e50, hf⟩ := bd_e hf
                    refine G.cvV 130 (As := [.int ((mI M a1 x5.toNatClampNeg) - (48 : Int32)), .int (0 : Int32)]) ck_3 (hs43.k k_a0) (c_X3_takeDigit Z hs43 a0 ((mI M a1 x5.toNatClampNeg) - (48 : Int32)) (0 : Int32) k_a0 e50) mk_X3_takeDigit vk_X3_takeDigit rfl wd_1050 hR (by decide +kernel) ⟨rfl, rfl⟩ rfl (Nat.le_of_ble_eq_true rfl) dX3_holds_130 (fun hs47 => ?_)
                    refine G.goto 133 144 dX3_holds_133 (by decide) ?_
                    refine G.locs [1, 2, 3, 4, 5, 6] rfl ?_
                    exact b_X3_holds_144 Z X hR hq (L_X3_holds_26 n) ih a0 a1 x2 a3 x4 x5 hs47 k_a0 (ln_k k_a1) k_a3 hf
                  · replace hf := (if_pos h46).symm.trans hf
                    refine G.iconst 125 (1 : Int32) dX3_holds_125 (by decide +kernel) ?_
                    refine G.goto 126 130 dX3_holds_126 (by decide) ?_
                    obtain ⟨q53, e54, hf⟩ := bd_e hf
                    refine G.cvV 130 (As := [.int ((mI M a1 x5.toNatClampNeg) - (48 : Int32)), .int (1 : Int32)]) ck_3 (hs43.k k_a0) (c_X3_takeDigit Z hs43 a0 ((mI M a1 x5.toNatClampNeg) - (48 : Int32)) (1 : Int32) k_a0 e54) mk_X3_takeDigit vk_X3_takeDigit rfl wd_1050 hR (by decide +kernel) ⟨rfl, rfl⟩ rfl (Nat.le_of_ble_eq_true rfl) dX3_holds_130 (fun hs51 => ?_)
                    refine G.goto 133 144 dX3_holds_133 (by decide) ?_
                    refine G.locs [1, 2, 3, 4, 5, 6] rfl ?_
                    exact b_X3_holds_144 Z X hR hq (L_X3_holds_26 n) ih a0 a1 x2 a3 x4 x5 hs51 k_a0 (ln_k k_a1) k_a3 hf
        · replace hf := (if_neg h22).symm.trans hf
          refine G.aload_n 49 0 dX3_holds_49 rfl rfl ?_
          refine G.aload_n 50 1 dX3_holds_50 rfl rfl ?_
          refine G.iload 51 5 dX3_holds_51 rfl ?_
          refine G.ia 53 x5.toNatClampNeg (hs18.k k_a1) g17 rfl dX3_holds_53 ?_
          refine G.aload_n 54 3 dX3_holds_54 rfl rfl ?_
          refine G.iload 55 4 dX3_holds_55 rfl ?_
          obtain ⟨q57, e58, hf⟩ := bd_e hf
          refine G.csI 57 (As := [.int (mI M a1 x5.toNatClampNeg), .ref (zs Z + a3), .int x4]) (c_X3_fieldOf Z hs18 (mI M a1 x5.toNatClampNeg) a3 x4 k_a3 e58) mk_X3_fieldOf wd_1042 wd_1041 hR (by decide +kernel) ⟨rfl, rfl⟩ rfl (Nat.le_of_ble_eq_true rfl) dX3_holds_57 (fun hs55 => ?_)
          obtain ⟨q61, e62, hf⟩ := bd_e hf
          refine G.cvV 60 (As := [.int q57]) ck_3 (hs55.k k_a0) (c_X3_takeAtom Z hs55 a0 q57 k_a0 e62) mk_X3_takeAtom vk_X3_takeAtom rfl wd_1045 hR (by decide +kernel) ⟨rfl, rfl⟩ rfl (Nat.le_of_ble_eq_true rfl) dX3_holds_60 (fun hs59 => ?_)
          refine G.goto 63 144 dX3_holds_63 (by decide) ?_
          exact b_X3_holds_144 Z X hR hq (L_X3_holds_26 n) ih a0 a1 x2 a3 x4 x5 hs59 k_a0 (ln_k k_a1) k_a3 hf
set_option maxRecDepth 100000 in
set_option maxHeartbeats 4000000 in
theorem c_X3_holds (Z : Sys) {M : Mem} (hs : St M) (a0 : Nat) (a1 : Nat) (x2 : Int32) (a3 : Nat) (x4 : Int32) (k_a0 : K0[a0]? = some (3, 11)) (k_a1 : K0[a1]? = some (10, (ln a1))) (k_a3 : K0[a3]? = some (1, 12)) {q : Int32 × Mem} (hf : f_X3_holds a0 a1 x2 a3 x4 M = some q) : Ct Z yX3_holds cX3_holds 7 (some .boolean) rm_X3_holds [.ref (zs Z + a0), .ref (zs Z + a1), .int x2, .ref (zs Z + a3), .int x4] M False (PostZ q.1 q.2) := by
  refine Ct.of (by decide +kernel) (Nat.le_of_ble_eq_true rfl) (fun X hR hq _ => ?_)
  show G Z X Y_X3_holds False 0 0 0 [(0, .ref (zs Z + a0)), (1, .ref (zs Z + a1)), (2, .int x2), (3, .ref (zs Z + a3)), (4, .int x4)] [] M
  replace hq : RetOk Z X (some .boolean) False (PostZ q.1 q.2) 0 0 := hq
  unfold f_X3_holds at hf
  refine G.aload_n 0 0 dX3_holds_0 rfl rfl ?_
  refine G.iconst 1 (0 : Int32) dX3_holds_1 (by decide +kernel) ?_
  refine G.puti 2 ck_3 3 (hs.k k_a0) (by decide) (by decide +kernel) rfl wd_130 rfl rfl dX3_holds_2 ?_
  refine G.aload_n 5 0 dX3_holds_5 rfl rfl ?_
  obtain ⟨q3, e4, hf⟩ := bd_e hf
  refine G.cvV 6 (As := []) ck_3 ((St.i hs).k k_a0) (c_X3_beginGroup Z (St.i hs) a0 k_a0 e4) mk_X3_beginGroup vk_X3_beginGroup rfl wd_1028 hR (by decide +kernel) ⟨rfl, rfl⟩ rfl (Nat.le_of_ble_eq_true rfl) dX3_holds_6 (fun hs1 => ?_)
  refine G.aload_n 9 0 dX3_holds_9 rfl rfl ?_
  obtain ⟨q7, e8, hf⟩ := bd_e hf
  refine G.cvV 10 (As := []) ck_3 (hs1.k k_a0) (c_X3_beginSum Z hs1 a0 k_a0 e8) mk_X3_beginSum vk_X3_beginSum rfl wd_1032 hR (by decide +kernel) ⟨rfl, rfl⟩ rfl (Nat.le_of_ble_eq_true rfl) dX3_holds_10 (fun hs5 => ?_)
  refine G.aload_n 13 0 dX3_holds_13 rfl rfl ?_
  refine G.iconst 14 (0 : Int32) dX3_holds_14 (by decide +kernel) ?_
  refine G.puti 15 ck_3 5 (hs5.k k_a0) (by decide) (by decide +kernel) rfl wd_132 rfl rfl dX3_holds_15 ?_
  refine G.aload_n 18 0 dX3_holds_18 rfl rfl ?_
  refine G.iconst 19 (0 : Int32) dX3_holds_19 (by decide +kernel) ?_
  refine G.puti 20 ck_3 10 ((St.i hs5).k k_a0) (by decide) (by decide +kernel) rfl wd_137 rfl rfl dX3_holds_20 ?_
  refine G.iconst 23 (2 : Int32) dX3_holds_23 (by decide +kernel) ?_
  refine G.istore 24 [(5, .int (2 : Int32)), (0, .ref (zs Z + a0)), (1, .ref (zs Z + a1)), (2, .int x2), (3, .ref (zs Z + a3)), (4, .int x4)] dX3_holds_24 (Nat.le_of_ble_eq_true rfl) rfl ?_
  refine G.locs [1, 2, 3, 4, 5, 0] rfl ?_
  exact l_X3_holds_26 Z X hR hq FU a0 a1 x2 a3 x4 (2 : Int32) (sI (sI q7 a0 5 (0 : Int32)) a0 10 (0 : Int32)) (St.i (St.i hs5)) k_a0 (ln_k k_a1) k_a3 hf
abbrev Y_X0_nameOf : My := (cX0_nameOf, RX0, 3)
def rm_X0_nameOf : Room := { frames := 7, cells := 0, slots := 0, locals := 337 }
theorem dX0_nameOf_0 : decode cX0_nameOf 0 = .ok (.aload_n 0, 1) := by decide +kernel
theorem dX0_nameOf_1 : decode cX0_nameOf 1 = .ok (.getfield 13, 3) := by decide +kernel
theorem dX0_nameOf_4 : decode cX0_nameOf 4 = .ok (.iload_n 1, 1) := by decide +kernel
theorem dX0_nameOf_5 : decode cX0_nameOf 5 = .ok (.aaload, 1) := by decide +kernel
theorem dX0_nameOf_6 : decode cX0_nameOf 6 = .ok (.getfield 78, 3) := by decide +kernel
theorem dX0_nameOf_9 : decode cX0_nameOf 9 = .ok (.ifCond .eq 6, 3) := by decide +kernel
theorem dX0_nameOf_12 : decode cX0_nameOf 12 = .ok (.bipush (-4), 2) := by decide +kernel
theorem dX0_nameOf_14 : decode cX0_nameOf 14 = .ok (.ireturn, 1) := by decide +kernel
theorem dX0_nameOf_15 : decode cX0_nameOf 15 = .ok (.iconst 0, 1) := by decide +kernel
theorem dX0_nameOf_16 : decode cX0_nameOf 16 = .ok (.istore_n 2, 1) := by decide +kernel
theorem dX0_nameOf_17 : decode cX0_nameOf 17 = .ok (.iload_n 2, 1) := by decide +kernel
theorem dX0_nameOf_18 : decode cX0_nameOf 18 = .ok (.aload_n 0, 1) := by decide +kernel
theorem dX0_nameOf_19 : decode cX0_nameOf 19 = .ok (.getfield 67, 3) := by decide +kernel
theorem dX0_nameOf_22 : decode cX0_nameOf 22 = .ok (.if_icmp .ge 47, 3) := by decide +kernel
theorem dX0_nameOf_25 : decode cX0_nameOf 25 = .ok (.aload_n 0, 1) := by decide +kernel
theorem dX0_nameOf_26 : decode cX0_nameOf 26 = .ok (.getfield 42, 3) := by decide +kernel
theorem dX0_nameOf_29 : decode cX0_nameOf 29 = .ok (.aload_n 0, 1) := by decide +kernel
theorem dX0_nameOf_30 : decode cX0_nameOf 30 = .ok (.getfield 33, 3) := by decide +kernel
theorem dX0_nameOf_33 : decode cX0_nameOf 33 = .ok (.iload_n 2, 1) := by decide +kernel
theorem dX0_nameOf_34 : decode cX0_nameOf 34 = .ok (.aaload, 1) := by decide +kernel
theorem dX0_nameOf_35 : decode cX0_nameOf 35 = .ok (.aload_n 0, 1) := by decide +kernel
theorem dX0_nameOf_36 : decode cX0_nameOf 36 = .ok (.getfield 36, 3) := by decide +kernel
theorem dX0_nameOf_39 : decode cX0_nameOf 39 = .ok (.iload_n 2, 1) := by decide +kernel
theorem dX0_nameOf_40 : decode cX0_nameOf 40 = .ok (.iaload, 1) := by decide +kernel
theorem dX0_nameOf_41 : decode cX0_nameOf 41 = .ok (.aload_n 0, 1) := by decide +kernel
theorem dX0_nameOf_42 : decode cX0_nameOf 42 = .ok (.getfield 13, 3) := by decide +kernel
theorem dX0_nameOf_45 : decode cX0_nameOf 45 = .ok (.iload_n 1, 1) := by decide +kernel
theorem dX0_nameOf_46 : decode cX0_nameOf 46 = .ok (.aaload, 1) := by decide +kernel
theorem dX0_nameOf_47 : decode cX0_nameOf 47 = .ok (.iload_n 1, 1) := by decide +kernel
theorem dX0_nameOf_48 : decode cX0_nameOf 48 = .ok (.invokevirtual 82, 3) := by decide +kernel
theorem dX0_nameOf_51 : decode cX0_nameOf 51 = .ok (.ifCond .eq 12, 3) := by decide +kernel
theorem dX0_nameOf_54 : decode cX0_nameOf 54 = .ok (.aload_n 0, 1) := by decide +kernel
theorem dX0_nameOf_55 : decode cX0_nameOf 55 = .ok (.getfield 33, 3) := by decide +kernel
theorem dX0_nameOf_58 : decode cX0_nameOf 58 = .ok (.iload_n 2, 1) := by decide +kernel
theorem dX0_nameOf_59 : decode cX0_nameOf 59 = .ok (.aaload, 1) := by decide +kernel
theorem dX0_nameOf_60 : decode cX0_nameOf 60 = .ok (.iconst 0, 1) := by decide +kernel
theorem dX0_nameOf_61 : decode cX0_nameOf 61 = .ok (.iaload, 1) := by decide +kernel
theorem dX0_nameOf_62 : decode cX0_nameOf 62 = .ok (.ireturn, 1) := by decide +kernel
theorem dX0_nameOf_63 : decode cX0_nameOf 63 = .ok (.iinc 2 1, 3) := by decide +kernel
theorem dX0_nameOf_66 : decode cX0_nameOf 66 = .ok (.goto (-49), 3) := by decide +kernel
theorem dX0_nameOf_69 : decode cX0_nameOf 69 = .ok (.bipush (-4), 2) := by decide +kernel
theorem dX0_nameOf_71 : decode cX0_nameOf 71 = .ok (.ireturn, 1) := by decide +kernel
def L_X0_nameOf_17 : Nat → Nat → Int32 → Int32 → Mem → Option (Int32 × Mem)
  | 0, _, _, _, _ => none
  | n + 1, a0, x1, x2, M => if (mI M a0 8) ≤ x2 then some ((-4 : Int32), M) else gd (inR x2 10) (gd (inR x1 30) ((f_X3_holds (a0 + 18) ((a0 + 6) + 1 + 1 * x2.toNatClampNeg) (mI M (a0 + 17) x2.toNatClampNeg) ((a0 + 1) + 23 + 2 * x1.toNatClampNeg) x1 M).bind fun q8 => if q8.1 = 0 then L_X0_nameOf_17 n a0 x1 (x2 + 1) q8.2 else some ((mI q8.2 ((a0 + 6) + 1 + 1 * x2.toNatClampNeg) 0), q8.2)))
def f_X0_nameOf (a0 : Nat) (x1 : Int32) (M : Mem) : Option (Int32 × Mem) := gd (inR x1 30) (if (mI M ((a0 + 1) + 23 + 2 * x1.toNatClampNeg) 9) = 0 then L_X0_nameOf_17 FU a0 x1 (0 : Int32) M else some ((-4 : Int32), M))
set_option maxRecDepth 100000 in
set_option maxHeartbeats 4000000 in
theorem l_X0_nameOf_17 (Z : Sys) (X : Cx) (hR : xR X = rm_X0_nameOf) {q : Int32 × Mem} (hq : RetOk Z X (some .int) False (PostI q.1 q.2) 0 0) : ∀ (n : Nat) (a0 : Nat) (x1 : Int32) (x2 : Int32) (M : Mem) (hs : St M) (k_a0 : K0[a0]? = some (0, 12)) (hf : L_X0_nameOf_17 n a0 x1 x2 M = some q), G Z X Y_X0_nameOf False 0 0 17 [(0, .ref (zs Z + a0)), (1, .int x1), (2, .int x2)] [] M := by
  intro n
  induction n with
  | zero => intro a0 x1 x2 M hs k_a0 hf; cases hf
  | succ n ih =>
    intro a0 x1 x2 M hs k_a0 hf
    unfold L_X0_nameOf_17 at hf
    refine G.iload_n 17 2 dX0_nameOf_17 rfl rfl ?_
    refine G.aload_n 18 0 dX0_nameOf_18 rfl rfl ?_
    refine G.geti 19 ck_0 8 (hs.k k_a0) (by decide) (by decide +kernel) wd_275 dX0_nameOf_19 ?_
    refine G.icmp_ge 22 69 dX0_nameOf_22 (by decide) (fun h3 => ?_) (fun h3 => ?_)
    · replace hf := (if_pos h3).symm.trans hf
      refine G.bipush 69 (-4 : Int32) dX0_nameOf_69 (by decide +kernel) ?_
      (have hf9 := Option.some.inj hf; subst hf9)
      exact G.rI 71 hq dX0_nameOf_71 hs
    · replace hf := (if_neg h3).symm.trans hf
      refine G.aload_n 25 0 dX0_nameOf_25 rfl rfl ?_
      refine G.getp 26 ck_0 9 (a0 + 18) (hs.k k_a0) (pt_0_9 hs k_a0).1 (by decide) (by decide +kernel) wd_277 dX0_nameOf_26 ?_
      refine G.aload_n 29 0 dX0_nameOf_29 rfl rfl ?_
      refine G.getp 30 ck_0 6 (a0 + 6) (hs.k k_a0) (pt_0_6 hs k_a0).1 (by decide) (by decide +kernel) wd_273 dX0_nameOf_30 ?_
      refine G.iload_n 33 2 dX0_nameOf_33 rfl rfl ?_
      obtain ⟨g4, hf⟩ := gd_e hf
      refine G.aa 34 x2.toNatClampNeg ((a0 + 6) + 1 + 1 * x2.toNatClampNeg) (hs.k (pt_0_6 hs k_a0).2) (by decide) rfl rfl g4 rfl (pa_15 hs (pt_0_6 hs k_a0).2 (inlt g4)).1 dX0_nameOf_34 ?_
      refine G.aload_n 35 0 dX0_nameOf_35 rfl rfl ?_
      refine G.getp 36 ck_0 7 (a0 + 17) (hs.k k_a0) (pt_0_7 hs k_a0).1 (by decide) (by decide +kernel) wd_274 dX0_nameOf_36 ?_
      refine G.iload_n 39 2 dX0_nameOf_39 rfl rfl ?_
      refine G.ia 40 x2.toNatClampNeg (hs.k (pt_0_7 hs k_a0).2) g4 rfl dX0_nameOf_40 ?_
      refine G.aload_n 41 0 dX0_nameOf_41 rfl rfl ?_
      refine G.getp 42 ck_0 0 (a0 + 1) (hs.k k_a0) (pt_0_0 hs k_a0).1 (by decide) (by decide +kernel) wd_257 dX0_nameOf_42 ?_
      refine G.iload_n 45 1 dX0_nameOf_45 rfl rfl ?_
      obtain ⟨g5, hf⟩ := gd_e hf
      refine G.aa 46 x1.toNatClampNeg ((a0 + 1) + 23 + 2 * x1.toNatClampNeg) (hs.k (pt_0_0 hs k_a0).2) (by decide) rfl rfl g5 rfl (pa_13 hs (pt_0_0 hs k_a0).2 (inlt g5)).1 dX0_nameOf_46 ?_
      refine G.iload_n 47 1 dX0_nameOf_47 rfl rfl ?_
      obtain ⟨q8, e9, hf⟩ := bd_e hf
      refine G.cvZ 48 (As := [.ref (zs Z + ((a0 + 6) + 1 + 1 * x2.toNatClampNeg)), .int (mI M (a0 + 17) x2.toNatClampNeg), .ref (zs Z + ((a0 + 1) + 23 + 2 * x1.toNatClampNeg)), .int x1]) ck_3 (hs.k (pt_0_9 hs k_a0).2) (c_X3_holds Z hs (a0 + 18) ((a0 + 6) + 1 + 1 * x2.toNatClampNeg) (mI M (a0 + 17) x2.toNatClampNeg) ((a0 + 1) + 23 + 2 * x1.toNatClampNeg) x1 (pt_0_9 hs k_a0).2 (ln_k (pa_15 hs (pt_0_6 hs k_a0).2 (inlt g4)).2) (pa_13 hs (pt_0_0 hs k_a0).2 (inlt g5)).2 e9) mk_X3_holds vk_X3_holds rfl wd_1024 hR (by decide +kernel) ⟨rfl, rfl⟩ rfl (Nat.le_of_ble_eq_true rfl) dX0_nameOf_48 (fun hs6 z7 => ?_)
      refine G.if_eq 51 63 dX0_nameOf_51 (by decide) (fun h10 => ?_) (fun h10 => ?_)
      · replace hf := (if_pos h10).symm.trans hf
        refine G.iinc 63 2 (x2 + 1) [(2, .int (x2 + 1)), (0, .ref (zs Z + a0)), (1, .int x1)] dX0_nameOf_63 rfl (congrArg (fun z => x2 + z) (by decide +kernel)) (Nat.le_of_ble_eq_true rfl) rfl ?_
        refine G.goto 66 17 dX0_nameOf_66 (by decide) ?_
        refine G.locs [1, 2, 0] rfl ?_
        exact ih a0 x1 (x2 + 1) q8.2 hs6 k_a0 hf
      · replace hf := (if_neg h10).symm.trans hf
        refine G.aload_n 54 0 dX0_nameOf_54 rfl rfl ?_
        refine G.getp 55 ck_0 6 (a0 + 6) (hs6.k k_a0) (pt_0_6 hs6 k_a0).1 (by decide) (by decide +kernel) wd_273 dX0_nameOf_55 ?_
        refine G.iload_n 58 2 dX0_nameOf_58 rfl rfl ?_
        refine G.aa 59 x2.toNatClampNeg ((a0 + 6) + 1 + 1 * x2.toNatClampNeg) (hs6.k (pt_0_6 hs6 k_a0).2) (by decide) rfl rfl g4 rfl (pa_15 hs6 (pt_0_6 hs6 k_a0).2 (inlt g4)).1 dX0_nameOf_59 ?_
        refine G.iconst 60 (0 : Int32) dX0_nameOf_60 (by decide +kernel) ?_
        refine G.ia 61 0 (hs6.k (pa_15 hs6 (pt_0_6 hs6 k_a0).2 (inlt g4)).2) (by decide +kernel) (by decide +kernel) dX0_nameOf_61 ?_
        (have hf9 := Option.some.inj hf; subst hf9)
        exact G.rI 62 hq dX0_nameOf_62 hs6
set_option maxRecDepth 100000 in
set_option maxHeartbeats 4000000 in
theorem c_X0_nameOf (Z : Sys) {M : Mem} (hs : St M) (a0 : Nat) (x1 : Int32) (k_a0 : K0[a0]? = some (0, 12)) {q : Int32 × Mem} (hf : f_X0_nameOf a0 x1 M = some q) : Ct Z yX0_nameOf cX0_nameOf 3 (some .int) rm_X0_nameOf [.ref (zs Z + a0), .int x1] M False (PostI q.1 q.2) := by
  refine Ct.of (by decide +kernel) (Nat.le_of_ble_eq_true rfl) (fun X hR hq _ => ?_)
  show G Z X Y_X0_nameOf False 0 0 0 [(0, .ref (zs Z + a0)), (1, .int x1)] [] M
  replace hq : RetOk Z X (some .int) False (PostI q.1 q.2) 0 0 := hq
  unfold f_X0_nameOf at hf
  refine G.aload_n 0 0 dX0_nameOf_0 rfl rfl ?_
  refine G.getp 1 ck_0 0 (a0 + 1) (hs.k k_a0) (pt_0_0 hs k_a0).1 (by decide) (by decide +kernel) wd_257 dX0_nameOf_1 ?_
  refine G.iload_n 4 1 dX0_nameOf_4 rfl rfl ?_
  obtain ⟨g1, hf⟩ := gd_e hf
  refine G.aa 5 x1.toNatClampNeg ((a0 + 1) + 23 + 2 * x1.toNatClampNeg) (hs.k (pt_0_0 hs k_a0).2) (by decide) rfl rfl g1 rfl (pa_13 hs (pt_0_0 hs k_a0).2 (inlt g1)).1 dX0_nameOf_5 ?_
  refine G.geti 6 ck_1 9 (hs.k (pa_13 hs (pt_0_0 hs k_a0).2 (inlt g1)).2) (by decide) (by decide +kernel) wd_222 dX0_nameOf_6 ?_
  refine G.if_eq 9 15 dX0_nameOf_9 (by decide) (fun h2 => ?_) (fun h2 => ?_)
  · replace hf := (if_pos h2).symm.trans hf
    refine G.iconst 15 (0 : Int32) dX0_nameOf_15 (by decide +kernel) ?_
    refine G.istore_n 16 [(2, .int (0 : Int32)), (0, .ref (zs Z + a0)), (1, .int x1)] dX0_nameOf_16 rfl (Nat.le_of_ble_eq_true rfl) rfl ?_
    refine G.locs [1, 2, 0] rfl ?_
    exact l_X0_nameOf_17 Z X hR hq FU a0 x1 (0 : Int32) M hs k_a0 hf
  · replace hf := (if_neg h2).symm.trans hf
    refine G.bipush 12 (-4 : Int32) dX0_nameOf_12 (by decide +kernel) ?_
    (have hf9 := Option.some.inj hf; subst hf9)
    exact G.rI 14 hq dX0_nameOf_14 hs
abbrev Y_X0_rowsWith : My := (cX0_rowsWith, RX0, 9)
def rm_X0_rowsWith : Room := { frames := 1, cells := 0, slots := 0, locals := 200 }
theorem dX0_rowsWith_0 : decode cX0_rowsWith 0 = .ok (.lconst 0, 1) := by decide +kernel
theorem dX0_rowsWith_1 : decode cX0_rowsWith 1 = .ok (.lstore_n 2, 1) := by decide +kernel
theorem dX0_rowsWith_2 : decode cX0_rowsWith 2 = .ok (.lconst 1, 1) := by decide +kernel
theorem dX0_rowsWith_3 : decode cX0_rowsWith 3 = .ok (.lstore 4, 2) := by decide +kernel
theorem dX0_rowsWith_5 : decode cX0_rowsWith 5 = .ok (.lconst 1, 1) := by decide +kernel
theorem dX0_rowsWith_6 : decode cX0_rowsWith 6 = .ok (.lstore 6, 2) := by decide +kernel
theorem dX0_rowsWith_8 : decode cX0_rowsWith 8 = .ok (.iload_n 0, 1) := by decide +kernel
theorem dX0_rowsWith_9 : decode cX0_rowsWith 9 = .ok (.istore 8, 2) := by decide +kernel
theorem dX0_rowsWith_11 : decode cX0_rowsWith 11 = .ok (.iload 8, 2) := by decide +kernel
theorem dX0_rowsWith_13 : decode cX0_rowsWith 13 = .ok (.iload_n 1, 1) := by decide +kernel
theorem dX0_rowsWith_14 : decode cX0_rowsWith 14 = .ok (.if_icmp .lt 41, 3) := by decide +kernel
theorem dX0_rowsWith_17 : decode cX0_rowsWith 17 = .ok (.lload_n 2, 1) := by decide +kernel
theorem dX0_rowsWith_18 : decode cX0_rowsWith 18 = .ok (.lload 6, 2) := by decide +kernel
theorem dX0_rowsWith_20 : decode cX0_rowsWith 20 = .ok (.lload 4, 2) := by decide +kernel
theorem dX0_rowsWith_22 : decode cX0_rowsWith 22 = .ok (.lmul, 1) := by decide +kernel
theorem dX0_rowsWith_23 : decode cX0_rowsWith 23 = .ok (.ladd, 1) := by decide +kernel
theorem dX0_rowsWith_24 : decode cX0_rowsWith 24 = .ok (.lstore_n 2, 1) := by decide +kernel
theorem dX0_rowsWith_25 : decode cX0_rowsWith 25 = .ok (.lload 6, 2) := by decide +kernel
theorem dX0_rowsWith_27 : decode cX0_rowsWith 27 = .ok (.iload 8, 2) := by decide +kernel
theorem dX0_rowsWith_29 : decode cX0_rowsWith 29 = .ok (.i2l, 1) := by decide +kernel
theorem dX0_rowsWith_30 : decode cX0_rowsWith 30 = .ok (.lmul, 1) := by decide +kernel
theorem dX0_rowsWith_31 : decode cX0_rowsWith 31 = .ok (.iload_n 0, 1) := by decide +kernel
theorem dX0_rowsWith_32 : decode cX0_rowsWith 32 = .ok (.iload 8, 2) := by decide +kernel
theorem dX0_rowsWith_34 : decode cX0_rowsWith 34 = .ok (.isub, 1) := by decide +kernel
theorem dX0_rowsWith_35 : decode cX0_rowsWith 35 = .ok (.iconst 1, 1) := by decide +kernel
theorem dX0_rowsWith_36 : decode cX0_rowsWith 36 = .ok (.iadd, 1) := by decide +kernel
theorem dX0_rowsWith_37 : decode cX0_rowsWith 37 = .ok (.i2l, 1) := by decide +kernel
theorem dX0_rowsWith_38 : decode cX0_rowsWith 38 = .ok (.ldiv, 1) := by decide +kernel
theorem dX0_rowsWith_39 : decode cX0_rowsWith 39 = .ok (.lstore 6, 2) := by decide +kernel
theorem dX0_rowsWith_41 : decode cX0_rowsWith 41 = .ok (.lload 4, 2) := by decide +kernel
theorem dX0_rowsWith_43 : decode cX0_rowsWith 43 = .ok (.ldc2_w 113, 3) := by decide +kernel
theorem dX0_rowsWith_46 : decode cX0_rowsWith 46 = .ok (.lmul, 1) := by decide +kernel
theorem dX0_rowsWith_47 : decode cX0_rowsWith 47 = .ok (.lstore 4, 2) := by decide +kernel
theorem dX0_rowsWith_49 : decode cX0_rowsWith 49 = .ok (.iinc 8 (-1), 3) := by decide +kernel
theorem dX0_rowsWith_52 : decode cX0_rowsWith 52 = .ok (.goto (-41), 3) := by decide +kernel
theorem dX0_rowsWith_55 : decode cX0_rowsWith 55 = .ok (.lload_n 2, 1) := by decide +kernel
theorem dX0_rowsWith_56 : decode cX0_rowsWith 56 = .ok (.lreturn, 1) := by decide +kernel
def L_X0_rowsWith_11 : Nat → Int32 → Int32 → Int64 → Int64 → Int64 → Int32 → Option Int64
  | 0, _, _, _, _, _, _ => none
  | n + 1, x0, x1, l2, l4, l6, x8 => if x8 < x1 then some l2 else gd (¬ ((x0 - x8) + (1 : Int32)).toInt64 = 0) (L_X0_rowsWith_11 n x0 x1 (l2 + (l6 * l4)) (l4 * (9 : Int64)) ((l6 * x8.toInt64) / ((x0 - x8) + (1 : Int32)).toInt64) (x8 + (-1 : Int32)))
def f_X0_rowsWith (x0 : Int32) (x1 : Int32) : Option Int64 := L_X0_rowsWith_11 FU x0 x1 (0 : Int64) (1 : Int64) (1 : Int64) x0
set_option maxRecDepth 100000 in
set_option maxHeartbeats 4000000 in
theorem l_X0_rowsWith_11 (Z : Sys) (X : Cx) (hR : xR X = rm_X0_rowsWith) {q : Int64} {M : Mem} (hq : RetOk Z X (some .long) False (PostL q M) 0 0) : ∀ (n : Nat) (x0 : Int32) (x1 : Int32) (l2 : Int64) (l4 : Int64) (l6 : Int64) (x8 : Int32) (hs : St M) (hf : L_X0_rowsWith_11 n x0 x1 l2 l4 l6 x8 = some q), G Z X Y_X0_rowsWith False 0 0 11 [(0, .int x0), (1, .int x1), (2, .long l2), (4, .long l4), (6, .long l6), (8, .int x8)] [] M := by
  intro n
  induction n with
  | zero => intro x0 x1 l2 l4 l6 x8 hs  hf; cases hf
  | succ n ih =>
    intro x0 x1 l2 l4 l6 x8 hs  hf
    unfold L_X0_rowsWith_11 at hf
    refine G.iload 11 5 dX0_rowsWith_11 rfl ?_
    refine G.iload_n 13 1 dX0_rowsWith_13 rfl rfl ?_
    refine G.icmp_lt 14 55 dX0_rowsWith_14 (by decide) (fun h1 => ?_) (fun h1 => ?_)
    · replace hf := (if_pos h1).symm.trans hf
      refine G.lload_n 55 2 dX0_rowsWith_55 rfl rfl ?_
      (have hf9 := Option.some.inj hf; subst hf9)
      exact G.rL 56 hq dX0_rowsWith_56 hs
    · replace hf := (if_neg h1).symm.trans hf
      refine G.lload_n 17 2 dX0_rowsWith_17 rfl rfl ?_
      refine G.lload 18 4 dX0_rowsWith_18 rfl ?_
      refine G.lload 20 3 dX0_rowsWith_20 rfl ?_
      refine G.lmul 22 dX0_rowsWith_22 ?_
      refine G.ladd 23 dX0_rowsWith_23 ?_
      refine G.lstore_n 24 [(2, .long (l2 + (l6 * l4))), (0, .int x0), (1, .int x1), (4, .long l4), (6, .long l6), (8, .int x8)] dX0_rowsWith_24 rfl (Nat.le_of_ble_eq_true rfl) rfl ?_
      refine G.lload 25 4 dX0_rowsWith_25 rfl ?_
      refine G.iload 27 5 dX0_rowsWith_27 rfl ?_
      refine G.i2l 29 dX0_rowsWith_29 ?_
      refine G.lmul 30 dX0_rowsWith_30 ?_
      refine G.iload_n 31 1 dX0_rowsWith_31 rfl rfl ?_
      refine G.iload 32 5 dX0_rowsWith_32 rfl ?_
      refine G.isub 34 dX0_rowsWith_34 ?_
      refine G.iconst 35 (1 : Int32) dX0_rowsWith_35 (by decide +kernel) ?_
      refine G.iadd 36 dX0_rowsWith_36 ?_
      refine G.i2l 37 dX0_rowsWith_37 ?_
      obtain ⟨g2, hf⟩ := gd_e hf
      refine G.ldiv 38 dX0_rowsWith_38 g2 ?_
      refine G.lstore 39 [(6, .long ((l6 * x8.toInt64) / ((x0 - x8) + (1 : Int32)).toInt64)), (2, .long (l2 + (l6 * l4))), (0, .int x0), (1, .int x1), (4, .long l4), (8, .int x8)] dX0_rowsWith_39 (Nat.le_of_ble_eq_true rfl) rfl ?_
      refine G.lload 41 4 dX0_rowsWith_41 rfl ?_
      refine G.ldc2 43 (9 : Int64) wd_583 dX0_rowsWith_43 ?_
      refine G.lmul 46 dX0_rowsWith_46 ?_
      refine G.lstore 47 [(4, .long (l4 * (9 : Int64))), (6, .long ((l6 * x8.toInt64) / ((x0 - x8) + (1 : Int32)).toInt64)), (2, .long (l2 + (l6 * l4))), (0, .int x0), (1, .int x1), (8, .int x8)] dX0_rowsWith_47 (Nat.le_of_ble_eq_true rfl) rfl ?_
      refine G.iinc 49 5 (x8 + (-1 : Int32)) [(8, .int (x8 + (-1 : Int32))), (4, .long (l4 * (9 : Int64))), (6, .long ((l6 * x8.toInt64) / ((x0 - x8) + (1 : Int32)).toInt64)), (2, .long (l2 + (l6 * l4))), (0, .int x0), (1, .int x1)] dX0_rowsWith_49 rfl (congrArg (fun z => x8 + z) (by decide +kernel)) (Nat.le_of_ble_eq_true rfl) rfl ?_
      refine G.goto 52 11 dX0_rowsWith_52 (by decide) ?_
      refine G.locs [4, 5, 3, 1, 2, 0] rfl ?_
      exact ih x0 x1 (l2 + (l6 * l4)) (l4 * (9 : Int64)) ((l6 * x8.toInt64) / ((x0 - x8) + (1 : Int32)).toInt64) (x8 + (-1 : Int32)) hs hf
set_option maxRecDepth 100000 in
set_option maxHeartbeats 4000000 in
theorem c_X0_rowsWith (Z : Sys) {M : Mem} (hs : St M) (x0 : Int32) (x1 : Int32) {q : Int64} (hf : f_X0_rowsWith x0 x1 = some q) : Ct Z yX0_rowsWith cX0_rowsWith 9 (some .long) rm_X0_rowsWith [.int x0, .int x1] M False (PostL q M) := by
  refine Ct.of (by decide +kernel) (Nat.le_of_ble_eq_true rfl) (fun X hR hq _ => ?_)
  show G Z X Y_X0_rowsWith False 0 0 0 [(0, .int x0), (1, .int x1)] [] M
  replace hq : RetOk Z X (some .long) False (PostL q M) 0 0 := hq
  unfold f_X0_rowsWith at hf
  refine G.lconst 0 (0 : Int64) dX0_rowsWith_0 (by decide +kernel) ?_
  refine G.lstore_n 1 [(2, .long (0 : Int64)), (0, .int x0), (1, .int x1)] dX0_rowsWith_1 rfl (Nat.le_of_ble_eq_true rfl) rfl ?_
  refine G.lconst 2 (1 : Int64) dX0_rowsWith_2 (by decide +kernel) ?_
  refine G.lstore 3 [(4, .long (1 : Int64)), (2, .long (0 : Int64)), (0, .int x0), (1, .int x1)] dX0_rowsWith_3 (Nat.le_of_ble_eq_true rfl) rfl ?_
  refine G.lconst 5 (1 : Int64) dX0_rowsWith_5 (by decide +kernel) ?_
  refine G.lstore 6 [(6, .long (1 : Int64)), (4, .long (1 : Int64)), (2, .long (0 : Int64)), (0, .int x0), (1, .int x1)] dX0_rowsWith_6 (Nat.le_of_ble_eq_true rfl) rfl ?_
  refine G.iload_n 8 3 dX0_rowsWith_8 rfl rfl ?_
  refine G.istore 9 [(8, .int x0), (6, .long (1 : Int64)), (4, .long (1 : Int64)), (2, .long (0 : Int64)), (0, .int x0), (1, .int x1)] dX0_rowsWith_9 (Nat.le_of_ble_eq_true rfl) rfl ?_
  refine G.locs [4, 5, 3, 2, 1, 0] rfl ?_
  exact l_X0_rowsWith_11 Z X hR hq FU x0 x1 (0 : Int64) (1 : Int64) (1 : Int64) x0 hs hf
