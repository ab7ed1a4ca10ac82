abbrev Y_X9_land : My := (cX9_land, RX9, 4)
def rm_X9_land : Room := { frames := 4, cells := 0, slots := 0, locals := 265 }
theorem dX9_land_0 : decode cX9_land 0 = .ok (.aload_n 0, 1) := by decide +kernel
theorem dX9_land_1 : decode cX9_land 1 = .ok (.iload_n 1, 1) := by decide +kernel
theorem dX9_land_2 : decode cX9_land 2 = .ok (.invokevirtual 217, 3) := by decide +kernel
theorem dX9_land_5 : decode cX9_land 5 = .ok (.iconst 0, 1) := by decide +kernel
theorem dX9_land_6 : decode cX9_land 6 = .ok (.istore_n 2, 1) := by decide +kernel
theorem dX9_land_7 : decode cX9_land 7 = .ok (.iconst 0, 1) := by decide +kernel
theorem dX9_land_8 : decode cX9_land 8 = .ok (.istore_n 3, 1) := by decide +kernel
theorem dX9_land_9 : decode cX9_land 9 = .ok (.iload_n 3, 1) := by decide +kernel
theorem dX9_land_10 : decode cX9_land 10 = .ok (.aload_n 0, 1) := by decide +kernel
theorem dX9_land_11 : decode cX9_land 11 = .ok (.getfield 9, 3) := by decide +kernel
theorem dX9_land_14 : decode cX9_land 14 = .ok (.sipush 1192, 3) := by decide +kernel
theorem dX9_land_17 : decode cX9_land 17 = .ok (.iaload, 1) := by decide +kernel
theorem dX9_land_18 : decode cX9_land 18 = .ok (.if_icmp .ge 53, 3) := by decide +kernel
theorem dX9_land_21 : decode cX9_land 21 = .ok (.aload_n 0, 1) := by decide +kernel
theorem dX9_land_22 : decode cX9_land 22 = .ok (.getfield 9, 3) := by decide +kernel
theorem dX9_land_25 : decode cX9_land 25 = .ok (.bipush 12, 2) := by decide +kernel
theorem dX9_land_27 : decode cX9_land 27 = .ok (.iload_n 3, 1) := by decide +kernel
theorem dX9_land_28 : decode cX9_land 28 = .ok (.imul, 1) := by decide +kernel
theorem dX9_land_29 : decode cX9_land 29 = .ok (.iconst 5, 1) := by decide +kernel
theorem dX9_land_30 : decode cX9_land 30 = .ok (.iadd, 1) := by decide +kernel
theorem dX9_land_31 : decode cX9_land 31 = .ok (.aload_n 0, 1) := by decide +kernel
theorem dX9_land_32 : decode cX9_land 32 = .ok (.getfield 43, 3) := by decide +kernel
theorem dX9_land_35 : decode cX9_land 35 = .ok (.iload_n 3, 1) := by decide +kernel
theorem dX9_land_36 : decode cX9_land 36 = .ok (.iaload, 1) := by decide +kernel
theorem dX9_land_37 : decode cX9_land 37 = .ok (.iastore, 1) := by decide +kernel
theorem dX9_land_38 : decode cX9_land 38 = .ok (.aload_n 0, 1) := by decide +kernel
theorem dX9_land_39 : decode cX9_land 39 = .ok (.getfield 9, 3) := by decide +kernel
theorem dX9_land_42 : decode cX9_land 42 = .ok (.bipush 12, 2) := by decide +kernel
theorem dX9_land_44 : decode cX9_land 44 = .ok (.iload_n 3, 1) := by decide +kernel
theorem dX9_land_45 : decode cX9_land 45 = .ok (.imul, 1) := by decide +kernel
theorem dX9_land_46 : decode cX9_land 46 = .ok (.bipush 6, 2) := by decide +kernel
theorem dX9_land_48 : decode cX9_land 48 = .ok (.iadd, 1) := by decide +kernel
theorem dX9_land_49 : decode cX9_land 49 = .ok (.aload_n 0, 1) := by decide +kernel
theorem dX9_land_50 : decode cX9_land 50 = .ok (.getfield 46, 3) := by decide +kernel
theorem dX9_land_53 : decode cX9_land 53 = .ok (.iload_n 3, 1) := by decide +kernel
theorem dX9_land_54 : decode cX9_land 54 = .ok (.iaload, 1) := by decide +kernel
theorem dX9_land_55 : decode cX9_land 55 = .ok (.iastore, 1) := by decide +kernel
theorem dX9_land_56 : decode cX9_land 56 = .ok (.iload_n 2, 1) := by decide +kernel
theorem dX9_land_57 : decode cX9_land 57 = .ok (.aload_n 0, 1) := by decide +kernel
theorem dX9_land_58 : decode cX9_land 58 = .ok (.getfield 43, 3) := by decide +kernel
theorem dX9_land_61 : decode cX9_land 61 = .ok (.iload_n 3, 1) := by decide +kernel
theorem dX9_land_62 : decode cX9_land 62 = .ok (.iaload, 1) := by decide +kernel
theorem dX9_land_63 : decode cX9_land 63 = .ok (.iadd, 1) := by decide +kernel
theorem dX9_land_64 : decode cX9_land 64 = .ok (.istore_n 2, 1) := by decide +kernel
theorem dX9_land_65 : decode cX9_land 65 = .ok (.iinc 3 1, 3) := by decide +kernel
theorem dX9_land_68 : decode cX9_land 68 = .ok (.goto (-59), 3) := by decide +kernel
theorem dX9_land_71 : decode cX9_land 71 = .ok (.iload_n 2, 1) := by decide +kernel
theorem dX9_land_72 : decode cX9_land 72 = .ok (.ireturn, 1) := by decide +kernel
def L_X9_land_9 : Nat → Int32 → Int32 → Mem → Option (Int32 × Mem)
  | 0, _, _, _ => none
  | n + 1, x2, x3, M => if (mI M 285 1192) ≤ x3 then some (x2, M) else gd (inR x3 30) (gd (inR (((12 : Int32) * x3) + (5 : Int32)) 1194) (gd (inR (((12 : Int32) * x3) + (6 : Int32)) 1194) (L_X9_land_9 n (x2 + (mI (sI (sI M 285 (((12 : Int32) * x3) + (5 : Int32)).toNatClampNeg (mI M 296 x3.toNatClampNeg)) 285 (((12 : Int32) * x3) + (6 : Int32)).toNatClampNeg (mI (sI M 285 (((12 : Int32) * x3) + (5 : Int32)).toNatClampNeg (mI M 296 x3.toNatClampNeg)) 297 x3.toNatClampNeg)) 296 x3.toNatClampNeg)) (x3 + 1) (sI (sI M 285 (((12 : Int32) * x3) + (5 : Int32)).toNatClampNeg (mI M 296 x3.toNatClampNeg)) 285 (((12 : Int32) * x3) + (6 : Int32)).toNatClampNeg (mI (sI M 285 (((12 : Int32) * x3) + (5 : Int32)).toNatClampNeg (mI M 296 x3.toNatClampNeg)) 297 x3.toNatClampNeg)))))
def f_X9_land (x1 : Int32) (M : Mem) : Option (Int32 × Mem) := (f_X9_makes x1 M).bind fun q3 => L_X9_land_9 FU (0 : Int32) (0 : Int32) q3
set_option maxRecDepth 100000 in
set_option maxHeartbeats 4000000 in
theorem l_X9_land_9 (Z : Sys) (X : Cx) (hR : xR X = rm_X9_land) {q : Int32 × Mem} (hq : RetOk Z X (some .int) False (PostI q.1 q.2) 0 0) : ∀ (n : Nat) (x2 : Int32) (x3 : Int32) (M : Mem) (hs : St M) (hf : L_X9_land_9 n x2 x3 M = some q), G Z X Y_X9_land False 0 0 9 [(0, .ref (zs Z + 284)), (2, .int x2), (3, .int x3)] [] M := by
  intro n
  induction n with
  | zero => intro x2 x3 M hs  hf; cases hf
  | succ n ih =>
    intro x2 x3 M hs  hf
    unfold L_X9_land_9 at hf
    refine G.iload_n 9 2 dX9_land_9 rfl rfl ?_
    refine G.aload_n 10 0 dX9_land_10 rfl rfl ?_
    refine G.getp 11 ck_9 0 285 (hs.k k0_284) (pc_9_0 hs) (by decide) (by decide +kernel) wd_1305 dX9_land_11 ?_
    refine G.sipush 14 (1192 : Int32) dX9_land_14 (by decide +kernel) ?_
    refine G.ia 17 1192 (hs.k k0_285) (by decide +kernel) (by decide +kernel) dX9_land_17 ?_
    refine G.icmp_ge 18 71 dX9_land_18 (by decide) (fun h5 => ?_) (fun h5 => ?_)
    · replace hf := (if_pos h5).symm.trans hf
      refine G.iload_n 71 1 dX9_land_71 rfl rfl ?_
      (have hf9 := Option.some.inj hf; subst hf9)
      exact G.rI 72 hq dX9_land_72 hs
    · replace hf := (if_neg h5).symm.trans hf
      refine G.aload_n 21 0 dX9_land_21 rfl rfl ?_
      refine G.getp 22 ck_9 0 285 (hs.k k0_284) (pc_9_0 hs) (by decide) (by decide +kernel) wd_1305 dX9_land_22 ?_
      refine G.bipush 25 (12 : Int32) dX9_land_25 (by decide +kernel) ?_
      refine G.iload_n 27 2 dX9_land_27 rfl rfl ?_
      refine G.imul 28 dX9_land_28 ?_
      refine G.iconst 29 (5 : Int32) dX9_land_29 (by decide +kernel) ?_
      refine G.iadd 30 dX9_land_30 ?_
      refine G.aload_n 31 0 dX9_land_31 rfl rfl ?_
      refine G.getp 32 ck_9 17 296 (hs.k k0_284) (pc_9_17 hs) (by decide) (by decide +kernel) wd_1322 dX9_land_32 ?_
      refine G.iload_n 35 2 dX9_land_35 rfl rfl ?_
      obtain ⟨g6, hf⟩ := gd_e hf
      refine G.ia 36 x3.toNatClampNeg (hs.k k0_296) g6 rfl dX9_land_36 ?_
      obtain ⟨g7, hf⟩ := gd_e hf
      refine G.ist 37 (((12 : Int32) * x3) + (5 : Int32)).toNatClampNeg (hs.k k0_285) g7 rfl dX9_land_37 ?_
      refine G.aload_n 38 0 dX9_land_38 rfl rfl ?_
      refine G.getp 39 ck_9 0 285 ((St.i hs).k k0_284) (pc_9_0 (St.i hs)) (by decide) (by decide +kernel) wd_1305 dX9_land_39 ?_
      refine G.bipush 42 (12 : Int32) dX9_land_42 (by decide +kernel) ?_
      refine G.iload_n 44 2 dX9_land_44 rfl rfl ?_
      refine G.imul 45 dX9_land_45 ?_
      refine G.bipush 46 (6 : Int32) dX9_land_46 (by decide +kernel) ?_
      refine G.iadd 48 dX9_land_48 ?_
      refine G.aload_n 49 0 dX9_land_49 rfl rfl ?_
      refine G.getp 50 ck_9 18 297 ((St.i hs).k k0_284) (pc_9_18 (St.i hs)) (by decide) (by decide +kernel) wd_1323 dX9_land_50 ?_
      refine G.iload_n 53 2 dX9_land_53 rfl rfl ?_
      refine G.ia 54 x3.toNatClampNeg ((St.i hs).k k0_297) g6 rfl dX9_land_54 ?_
      obtain ⟨g8, hf⟩ := gd_e hf
      refine G.ist 55 (((12 : Int32) * x3) + (6 : Int32)).toNatClampNeg ((St.i hs).k k0_285) g8 rfl dX9_land_55 ?_
      refine G.iload_n 56 1 dX9_land_56 rfl rfl ?_
      refine G.aload_n 57 0 dX9_land_57 rfl rfl ?_
      refine G.getp 58 ck_9 17 296 ((St.i (St.i hs)).k k0_284) (pc_9_17 (St.i (St.i hs))) (by decide) (by decide +kernel) wd_1322 dX9_land_58 ?_
      refine G.iload_n 61 2 dX9_land_61 rfl rfl ?_
      refine G.ia 62 x3.toNatClampNeg ((St.i (St.i hs)).k k0_296) g6 rfl dX9_land_62 ?_
      refine G.iadd 63 dX9_land_63 ?_
      refine G.istore_n 64 [(2, .int (x2 + (mI (sI (sI M 285 (((12 : Int32) * x3) + (5 : Int32)).toNatClampNeg (mI M 296 x3.toNatClampNeg)) 285 (((12 : Int32) * x3) + (6 : Int32)).toNatClampNeg (mI (sI M 285 (((12 : Int32) * x3) + (5 : Int32)).toNatClampNeg (mI M 296 x3.toNatClampNeg)) 297 x3.toNatClampNeg)) 296 x3.toNatClampNeg))), (0, .ref (zs Z + 284)), (3, .int x3)] dX9_land_64 rfl (Nat.le_of_ble_eq_true rfl) rfl ?_
      refine G.iinc 65 2 (x3 + 1) [(3, .int (x3 + 1)), (2, .int (x2 + (mI (sI (sI M 285 (((12 : Int32) * x3) + (5 : Int32)).toNatClampNeg (mI M 296 x3.toNatClampNeg)) 285 (((12 : Int32) * x3) + (6 : Int32)).toNatClampNeg (mI (sI M 285 (((12 : Int32) * x3) + (5 : Int32)).toNatClampNeg (mI M 296 x3.toNatClampNeg)) 297 x3.toNatClampNeg)) 296 x3.toNatClampNeg))), (0, .ref (zs Z + 284))] dX9_land_65 rfl (congrArg (fun z => x3 + z) (by decide +kernel)) (Nat.le_of_ble_eq_true rfl) rfl ?_
      refine G.goto 68 9 dX9_land_68 (by decide) ?_
      refine G.locs [2, 1, 0] rfl ?_
      exact ih (x2 + (mI (sI (sI M 285 (((12 : Int32) * x3) + (5 : Int32)).toNatClampNeg (mI M 296 x3.toNatClampNeg)) 285 (((12 : Int32) * x3) + (6 : Int32)).toNatClampNeg (mI (sI M 285 (((12 : Int32) * x3) + (5 : Int32)).toNatClampNeg (mI M 296 x3.toNatClampNeg)) 297 x3.toNatClampNeg)) 296 x3.toNatClampNeg)) (x3 + 1) (sI (sI M 285 (((12 : Int32) * x3) + (5 : Int32)).toNatClampNeg (mI M 296 x3.toNatClampNeg)) 285 (((12 : Int32) * x3) + (6 : Int32)).toNatClampNeg (mI (sI M 285 (((12 : Int32) * x3) + (5 : Int32)).toNatClampNeg (mI M 296 x3.toNatClampNeg)) 297 x3.toNatClampNeg)) (St.i (St.i hs)) hf
set_option maxRecDepth 100000 in
set_option maxHeartbeats 4000000 in
theorem c_X9_land (Z : Sys) {M : Mem} (hs : St M) (x1 : Int32) {q : Int32 × Mem} (hf : f_X9_land x1 M = some q) : Ct Z yX9_land cX9_land 4 (some .int) rm_X9_land [.ref (zs Z + 284), .int x1] M False (PostI q.1 q.2) := by
  refine Ct.of (by decide +kernel) (Nat.le_of_ble_eq_true rfl) (fun X hR hq _ => ?_)
  show G Z X Y_X9_land False 0 0 0 [(0, .ref (zs Z + 284)), (1, .int x1)] [] M
  replace hq : RetOk Z X (some .int) False (PostI q.1 q.2) 0 0 := hq
  unfold f_X9_land at hf
  refine G.aload_n 0 0 dX9_land_0 rfl rfl ?_
  refine G.iload_n 1 1 dX9_land_1 rfl rfl ?_
  obtain ⟨q3, e4, hf⟩ := bd_e hf
  refine G.cvV 2 (As := [.int x1]) ck_9 (hs.k k0_284) (c_X9_makes Z hs x1 e4) mk_X9_makes vk_X9_makes rfl wd_1642 hR (by decide +kernel) ⟨rfl, rfl⟩ rfl (Nat.le_of_ble_eq_true rfl) dX9_land_2 (fun hs1 => ?_)
  refine G.iconst 5 (0 : Int32) dX9_land_5 (by decide +kernel) ?_
  refine G.istore_n 6 [(2, .int (0 : Int32)), (0, .ref (zs Z + 284)), (1, .int x1)] dX9_land_6 rfl (Nat.le_of_ble_eq_true rfl) rfl ?_
  refine G.iconst 7 (0 : Int32) dX9_land_7 (by decide +kernel) ?_
  refine G.istore_n 8 [(3, .int (0 : Int32)), (2, .int (0 : Int32)), (0, .ref (zs Z + 284)), (1, .int x1)] dX9_land_8 rfl (Nat.le_of_ble_eq_true rfl) rfl ?_
  refine G.locs [2, 1, 0] rfl ?_
  exact l_X9_land_9 Z X hR hq FU (0 : Int32) (0 : Int32) q3 hs1 hf
abbrev Y_X9_left : My := (cX9_left, RX9, 2)
def rm_X9_left : Room := { frames := 5, cells := 0, slots := 0, locals := 288 }
theorem dX9_left_0 : decode cX9_left 0 = .ok (.aload_n 0, 1) := by decide +kernel
theorem dX9_left_1 : decode cX9_left 1 = .ok (.iload_n 1, 1) := by decide +kernel
theorem dX9_left_2 : decode cX9_left 2 = .ok (.invokevirtual 72, 3) := by decide +kernel
theorem dX9_left_5 : decode cX9_left 5 = .ok (.ifCond .ne 8, 3) := by decide +kernel
theorem dX9_left_8 : decode cX9_left 8 = .ok (.ldc 140, 2) := by decide +kernel
theorem dX9_left_10 : decode cX9_left 10 = .ok (.goto 21, 3) := by decide +kernel
theorem dX9_left_13 : decode cX9_left 13 = .ok (.aload_n 0, 1) := by decide +kernel
theorem dX9_left_14 : decode cX9_left 14 = .ok (.iload_n 1, 1) := by decide +kernel
theorem dX9_left_15 : decode cX9_left 15 = .ok (.invokevirtual 97, 3) := by decide +kernel
theorem dX9_left_18 : decode cX9_left 18 = .ok (.ifCond .ne 8, 3) := by decide +kernel
theorem dX9_left_21 : decode cX9_left 21 = .ok (.ldc 141, 2) := by decide +kernel
theorem dX9_left_23 : decode cX9_left 23 = .ok (.goto 8, 3) := by decide +kernel
theorem dX9_left_26 : decode cX9_left 26 = .ok (.aload_n 0, 1) := by decide +kernel
theorem dX9_left_27 : decode cX9_left 27 = .ok (.iload_n 1, 1) := by decide +kernel
theorem dX9_left_28 : decode cX9_left 28 = .ok (.invokevirtual 142, 3) := by decide +kernel
theorem dX9_left_31 : decode cX9_left 31 = .ok (.ireturn, 1) := by decide +kernel
def f_X9_left (x1 : Int32) (M : Mem) : Option (Int32 × Mem) := if (f_X9_isHall x1 M) = 0 then some ((-1000000001 : Int32), M) else (f_X9_has x1 M).bind fun q6 => if q6 = 0 then some ((-1000000004 : Int32), M) else (f_X9_leftOf x1 M).bind fun q11 => some (q11.1, q11.2)
set_option maxRecDepth 100000 in
set_option maxHeartbeats 4000000 in
theorem c_X9_left (Z : Sys) {M : Mem} (hs : St M) (x1 : Int32) {q : Int32 × Mem} (hf : f_X9_left x1 M = some q) : Ct Z yX9_left cX9_left 2 (some .int) rm_X9_left [.ref (zs Z + 284), .int x1] M False (PostI q.1 q.2) := by
  refine Ct.of (by decide +kernel) (Nat.le_of_ble_eq_true rfl) (fun X hR hq _ => ?_)
  show G Z X Y_X9_left False 0 0 0 [(0, .ref (zs Z + 284)), (1, .int x1)] [] M
  replace hq : RetOk Z X (some .int) False (PostI q.1 q.2) 0 0 := hq
  unfold f_X9_left at hf
  refine G.aload_n 0 0 dX9_left_0 rfl rfl ?_
  refine G.iload_n 1 1 dX9_left_1 rfl rfl ?_
  refine G.cvZ 2 (As := [.int x1]) ck_9 (hs.k k0_284) (c_X9_isHall Z hs x1 rfl) mk_X9_isHall vk_X9_isHall rfl wd_1407 hR (by decide +kernel) ⟨rfl, rfl⟩ rfl (Nat.le_of_ble_eq_true rfl) dX9_left_2 (fun hs1 z2 => ?_)
  refine G.if_ne 5 13 dX9_left_5 (by decide) (fun h3 => ?_) (fun h3 => ?_)
  · replace hf := (if_neg h3).symm.trans hf
    refine G.aload_n 13 0 dX9_left_13 rfl rfl ?_
    refine G.iload_n 14 1 dX9_left_14 rfl rfl ?_
    obtain ⟨q6, e7, hf⟩ := bd_e hf
    refine G.cvZ 15 (As := [.int x1]) ck_9 (hs1.k k0_284) (c_X9_has Z hs1 x1 e7) mk_X9_has vk_X9_has rfl wd_1445 hR (by decide +kernel) ⟨rfl, rfl⟩ rfl (Nat.le_of_ble_eq_true rfl) dX9_left_15 (fun hs4 z5 => ?_)
    refine G.if_ne 18 26 dX9_left_18 (by decide) (fun h8 => ?_) (fun h8 => ?_)
    · replace hf := (if_neg h8).symm.trans hf
      refine G.aload_n 26 0 dX9_left_26 rfl rfl ?_
      refine G.iload_n 27 1 dX9_left_27 rfl rfl ?_
      obtain ⟨q11, e12, hf⟩ := bd_e hf
      refine G.cvI 28 (As := [.int x1]) ck_9 (hs4.k k0_284) (c_X9_leftOf Z hs4 x1 e12) mk_X9_leftOf vk_X9_leftOf rfl wd_1521 hR (by decide +kernel) ⟨rfl, rfl⟩ rfl (Nat.le_of_ble_eq_true rfl) dX9_left_28 (fun hs9 => ?_)
      (have hf9 := Option.some.inj hf; subst hf9)
      exact G.rI 31 hq dX9_left_31 hs9
    · replace hf := (if_pos h8).symm.trans hf
      refine G.ldc 21 (-1000000004 : Int32) wd_1520 dX9_left_21 ?_
      refine G.goto 23 31 dX9_left_23 (by decide) ?_
      (have hf9 := Option.some.inj hf; subst hf9)
      exact G.rI 31 hq dX9_left_31 hs4
  · replace hf := (if_pos h3).symm.trans hf
    refine G.ldc 8 (-1000000001 : Int32) wd_1519 dX9_left_8 ?_
    refine G.goto 10 31 dX9_left_10 (by decide) ?_
    (have hf9 := Option.some.inj hf; subst hf9)
    exact G.rI 31 hq dX9_left_31 hs1
abbrev Y_X9_less : My := (cX9_less, RX9, 2)
def rm_X9_less : Room := { frames := 1, cells := 0, slots := 0, locals := 200 }
theorem dX9_less_0 : decode cX9_less 0 = .ok (.iload_n 0, 1) := by decide +kernel
theorem dX9_less_1 : decode cX9_less 1 = .ok (.iload_n 1, 1) := by decide +kernel
theorem dX9_less_2 : decode cX9_less 2 = .ok (.if_icmp .ge 7, 3) := by decide +kernel
theorem dX9_less_5 : decode cX9_less 5 = .ok (.iload_n 0, 1) := by decide +kernel
theorem dX9_less_6 : decode cX9_less 6 = .ok (.goto 4, 3) := by decide +kernel
theorem dX9_less_9 : decode cX9_less 9 = .ok (.iload_n 1, 1) := by decide +kernel
theorem dX9_less_10 : decode cX9_less 10 = .ok (.ireturn, 1) := by decide +kernel
def f_X9_less (x0 : Int32) (x1 : Int32) : Int32 := if x1 ≤ x0 then x1 else x0
set_option maxRecDepth 100000 in
set_option maxHeartbeats 4000000 in
theorem c_X9_less (Z : Sys) {M : Mem} (hs : St M) (x0 : Int32) (x1 : Int32) {q : Int32} (hf : f_X9_less x0 x1 = q) : Ct Z yX9_less cX9_less 2 (some .int) rm_X9_less [.int x0, .int x1] M False (PostI q M) := by
  refine Ct.of (by decide +kernel) (Nat.le_of_ble_eq_true rfl) (fun X hR hq _ => ?_)
  show G Z X Y_X9_less False 0 0 0 [(0, .int x0), (1, .int x1)] [] M
  replace hq : RetOk Z X (some .int) False (PostI q M) 0 0 := hq
  unfold f_X9_less at hf
  refine G.iload_n 0 0 dX9_less_0 rfl rfl ?_
  refine G.iload_n 1 1 dX9_less_1 rfl rfl ?_
  refine G.icmp_ge 2 9 dX9_less_2 (by decide) (fun h1 => ?_) (fun h1 => ?_)
  · replace hf := (if_pos h1).symm.trans hf
    refine G.iload_n 9 1 dX9_less_9 rfl rfl ?_
    subst hf
    exact G.rI 10 hq dX9_less_10 hs
  · replace hf := (if_neg h1).symm.trans hf
    refine G.iload_n 5 0 dX9_less_5 rfl rfl ?_
    refine G.goto 6 10 dX9_less_6 (by decide) ?_
    subst hf
    exact G.rI 10 hq dX9_less_10 hs
abbrev Y_X9_mark : My := (cX9_mark, RX9, 6)
def rm_X9_mark : Room := { frames := 422, cells := 0, slots := 0, locals := 13044 }
theorem dX9_mark_0 : decode cX9_mark 0 = .ok (.iload_n 1, 1) := by decide +kernel
theorem dX9_mark_1 : decode cX9_mark 1 = .ok (.invokestatic 111, 3) := by decide +kernel
theorem dX9_mark_4 : decode cX9_mark 4 = .ok (.ifCond .ne 5, 3) := by decide +kernel
theorem dX9_mark_7 : decode cX9_mark 7 = .ok (.iconst (-1), 1) := by decide +kernel
theorem dX9_mark_8 : decode cX9_mark 8 = .ok (.ireturn, 1) := by decide +kernel
theorem dX9_mark_9 : decode cX9_mark 9 = .ok (.aload_n 0, 1) := by decide +kernel
theorem dX9_mark_10 : decode cX9_mark 10 = .ok (.getfield 9, 3) := by decide +kernel
theorem dX9_mark_13 : decode cX9_mark 13 = .ok (.sipush 1193, 3) := by decide +kernel
theorem dX9_mark_16 : decode cX9_mark 16 = .ok (.iaload, 1) := by decide +kernel
theorem dX9_mark_17 : decode cX9_mark 17 = .ok (.bipush 10, 2) := by decide +kernel
theorem dX9_mark_19 : decode cX9_mark 19 = .ok (.if_icmp .ne 6, 3) := by decide +kernel
theorem dX9_mark_22 : decode cX9_mark 22 = .ok (.bipush (-2), 2) := by decide +kernel
theorem dX9_mark_24 : decode cX9_mark 24 = .ok (.ireturn, 1) := by decide +kernel
theorem dX9_mark_25 : decode cX9_mark 25 = .ok (.aload_n 0, 1) := by decide +kernel
theorem dX9_mark_26 : decode cX9_mark 26 = .ok (.iload_n 1, 1) := by decide +kernel
theorem dX9_mark_27 : decode cX9_mark 27 = .ok (.iconst 0, 1) := by decide +kernel
theorem dX9_mark_28 : decode cX9_mark 28 = .ok (.invokevirtual 282, 3) := by decide +kernel
theorem dX9_mark_31 : decode cX9_mark 31 = .ok (.istore_n 2, 1) := by decide +kernel
theorem dX9_mark_32 : decode cX9_mark 32 = .ok (.iload_n 2, 1) := by decide +kernel
theorem dX9_mark_33 : decode cX9_mark 33 = .ok (.ifCond .eq 5, 3) := by decide +kernel
theorem dX9_mark_36 : decode cX9_mark 36 = .ok (.iload_n 2, 1) := by decide +kernel
theorem dX9_mark_37 : decode cX9_mark 37 = .ok (.ireturn, 1) := by decide +kernel
theorem dX9_mark_38 : decode cX9_mark 38 = .ok (.aload_n 0, 1) := by decide +kernel
theorem dX9_mark_39 : decode cX9_mark 39 = .ok (.iload_n 1, 1) := by decide +kernel
theorem dX9_mark_40 : decode cX9_mark 40 = .ok (.invokevirtual 285, 3) := by decide +kernel
theorem dX9_mark_43 : decode cX9_mark 43 = .ok (.istore_n 3, 1) := by decide +kernel
theorem dX9_mark_44 : decode cX9_mark 44 = .ok (.iload_n 3, 1) := by decide +kernel
theorem dX9_mark_45 : decode cX9_mark 45 = .ok (.bipush (-4), 2) := by decide +kernel
theorem dX9_mark_47 : decode cX9_mark 47 = .ok (.if_icmp .eq 8, 3) := by decide +kernel
theorem dX9_mark_50 : decode cX9_mark 50 = .ok (.bipush (-100), 2) := by decide +kernel
theorem dX9_mark_52 : decode cX9_mark 52 = .ok (.iload_n 3, 1) := by decide +kernel
theorem dX9_mark_53 : decode cX9_mark 53 = .ok (.isub, 1) := by decide +kernel
theorem dX9_mark_54 : decode cX9_mark 54 = .ok (.ireturn, 1) := by decide +kernel
theorem dX9_mark_55 : decode cX9_mark 55 = .ok (.sipush 382, 3) := by decide +kernel
theorem dX9_mark_58 : decode cX9_mark 58 = .ok (.bipush 81, 2) := by decide +kernel
theorem dX9_mark_60 : decode cX9_mark 60 = .ok (.aload_n 0, 1) := by decide +kernel
theorem dX9_mark_61 : decode cX9_mark 61 = .ok (.getfield 9, 3) := by decide +kernel
theorem dX9_mark_64 : decode cX9_mark 64 = .ok (.sipush 1193, 3) := by decide +kernel
theorem dX9_mark_67 : decode cX9_mark 67 = .ok (.iaload, 1) := by decide +kernel
theorem dX9_mark_68 : decode cX9_mark 68 = .ok (.imul, 1) := by decide +kernel
theorem dX9_mark_69 : decode cX9_mark 69 = .ok (.iadd, 1) := by decide +kernel
theorem dX9_mark_70 : decode cX9_mark 70 = .ok (.istore 4, 2) := by decide +kernel
theorem dX9_mark_72 : decode cX9_mark 72 = .ok (.aload_n 0, 1) := by decide +kernel
theorem dX9_mark_73 : decode cX9_mark 73 = .ok (.getfield 9, 3) := by decide +kernel
theorem dX9_mark_76 : decode cX9_mark 76 = .ok (.iload 4, 2) := by decide +kernel
theorem dX9_mark_78 : decode cX9_mark 78 = .ok (.aload_n 0, 1) := by decide +kernel
theorem dX9_mark_79 : decode cX9_mark 79 = .ok (.getfield 22, 3) := by decide +kernel
theorem dX9_mark_82 : decode cX9_mark 82 = .ok (.iload_n 1, 1) := by decide +kernel
theorem dX9_mark_83 : decode cX9_mark 83 = .ok (.iaload, 1) := by decide +kernel
theorem dX9_mark_84 : decode cX9_mark 84 = .ok (.iastore, 1) := by decide +kernel
theorem dX9_mark_85 : decode cX9_mark 85 = .ok (.iconst 0, 1) := by decide +kernel
theorem dX9_mark_86 : decode cX9_mark 86 = .ok (.istore 5, 2) := by decide +kernel
theorem dX9_mark_88 : decode cX9_mark 88 = .ok (.iload 5, 2) := by decide +kernel
theorem dX9_mark_90 : decode cX9_mark 90 = .ok (.aload_n 0, 1) := by decide +kernel
theorem dX9_mark_91 : decode cX9_mark 91 = .ok (.getfield 22, 3) := by decide +kernel
theorem dX9_mark_94 : decode cX9_mark 94 = .ok (.iload_n 1, 1) := by decide +kernel
theorem dX9_mark_95 : decode cX9_mark 95 = .ok (.iaload, 1) := by decide +kernel
theorem dX9_mark_96 : decode cX9_mark 96 = .ok (.if_icmp .ge 33, 3) := by decide +kernel
theorem dX9_mark_99 : decode cX9_mark 99 = .ok (.aload_n 0, 1) := by decide +kernel
theorem dX9_mark_100 : decode cX9_mark 100 = .ok (.getfield 9, 3) := by decide +kernel
theorem dX9_mark_103 : decode cX9_mark 103 = .ok (.iload 4, 2) := by decide +kernel
theorem dX9_mark_105 : decode cX9_mark 105 = .ok (.iconst 1, 1) := by decide +kernel
theorem dX9_mark_106 : decode cX9_mark 106 = .ok (.iadd, 1) := by decide +kernel
theorem dX9_mark_107 : decode cX9_mark 107 = .ok (.iload 5, 2) := by decide +kernel
theorem dX9_mark_109 : decode cX9_mark 109 = .ok (.iadd, 1) := by decide +kernel
theorem dX9_mark_110 : decode cX9_mark 110 = .ok (.aload_n 0, 1) := by decide +kernel
theorem dX9_mark_111 : decode cX9_mark 111 = .ok (.getfield 25, 3) := by decide +kernel
theorem dX9_mark_114 : decode cX9_mark 114 = .ok (.bipush 80, 2) := by decide +kernel
theorem dX9_mark_116 : decode cX9_mark 116 = .ok (.iload_n 1, 1) := by decide +kernel
theorem dX9_mark_117 : decode cX9_mark 117 = .ok (.imul, 1) := by decide +kernel
theorem dX9_mark_118 : decode cX9_mark 118 = .ok (.iload 5, 2) := by decide +kernel
theorem dX9_mark_120 : decode cX9_mark 120 = .ok (.iadd, 1) := by decide +kernel
theorem dX9_mark_121 : decode cX9_mark 121 = .ok (.iaload, 1) := by decide +kernel
theorem dX9_mark_122 : decode cX9_mark 122 = .ok (.iastore, 1) := by decide +kernel
theorem dX9_mark_123 : decode cX9_mark 123 = .ok (.iinc 5 1, 3) := by decide +kernel
theorem dX9_mark_126 : decode cX9_mark 126 = .ok (.goto (-38), 3) := by decide +kernel
theorem dX9_mark_129 : decode cX9_mark 129 = .ok (.aload_n 0, 1) := by decide +kernel
theorem dX9_mark_130 : decode cX9_mark 130 = .ok (.getfield 9, 3) := by decide +kernel
theorem dX9_mark_133 : decode cX9_mark 133 = .ok (.sipush 1193, 3) := by decide +kernel
theorem dX9_mark_136 : decode cX9_mark 136 = .ok (.dup2, 1) := by decide +kernel
theorem dX9_mark_137 : decode cX9_mark 137 = .ok (.iaload, 1) := by decide +kernel
theorem dX9_mark_138 : decode cX9_mark 138 = .ok (.iconst 1, 1) := by decide +kernel
theorem dX9_mark_139 : decode cX9_mark 139 = .ok (.iadd, 1) := by decide +kernel
theorem dX9_mark_140 : decode cX9_mark 140 = .ok (.iastore, 1) := by decide +kernel
theorem dX9_mark_141 : decode cX9_mark 141 = .ok (.aload_n 0, 1) := by decide +kernel
theorem dX9_mark_142 : decode cX9_mark 142 = .ok (.getfield 9, 3) := by decide +kernel
theorem dX9_mark_145 : decode cX9_mark 145 = .ok (.sipush 1193, 3) := by decide +kernel
theorem dX9_mark_148 : decode cX9_mark 148 = .ok (.iaload, 1) := by decide +kernel
theorem dX9_mark_149 : decode cX9_mark 149 = .ok (.iconst 1, 1) := by decide +kernel
theorem dX9_mark_150 : decode cX9_mark 150 = .ok (.isub, 1) := by decide +kernel
theorem dX9_mark_151 : decode cX9_mark 151 = .ok (.ireturn, 1) := by decide +kernel
def B_X9_mark_129 (M : Mem) : Option (Int32 × Mem) := some (((mI (sI M 285 1193 ((mI M 285 1193) + (1 : Int32))) 285 1193) - (1 : Int32)), (sI M 285 1193 ((mI M 285 1193) + (1 : Int32))))
def L_X9_mark_88 : Nat → Int32 → Int32 → Int32 → Mem → Option (Int32 × Mem)
  | 0, _, _, _, _ => none
  | n + 1, x1, x4, x5, M => gd (inR x1 8) (if (mI M 289 x1.toNatClampNeg) ≤ x5 then B_X9_mark_129 M else gd (inR (((80 : Int32) * x1) + x5) 640) (gd (inR ((x4 + (1 : Int32)) + x5) 1194) (L_X9_mark_88 n x1 x4 (x5 + 1) (sI M 285 ((x4 + (1 : Int32)) + x5).toNatClampNeg (mI M 290 (((80 : Int32) * x1) + x5).toNatClampNeg)))))
def f_X9_mark (x1 : Int32) (M : Mem) : Option (Int32 × Mem) := if (f_X9_isShelf x1) = 0 then some ((-1 : Int32), M) else if (mI M 285 1193) = (10 : Int32) then some ((-2 : Int32), M) else (f_X9_wrongRow x1 (0 : Int32) M).bind fun q7 => if q7 = 0 then (f_X9_faultOf x1 M).bind fun q12 => if q12.1 = (-4 : Int32) then gd (inR x1 8) (gd (inR ((382 : Int32) + ((81 : Int32) * (mI q12.2 285 1193))) 1194) (L_X9_mark_88 FU x1 ((382 : Int32) + ((81 : Int32) * (mI q12.2 285 1193))) (0 : Int32) (sI q12.2 285 ((382 : Int32) + ((81 : Int32) * (mI q12.2 285 1193))).toNatClampNeg (mI q12.2 289 x1.toNatClampNeg)))) else some (((-100 : Int32) - q12.1), q12.2) else some (q7, M)
set_option maxRecDepth 100000 in
set_option maxHeartbeats 4000000 in
theorem b_X9_mark_129 (Z : Sys) (X : Cx) (hR : xR X = rm_X9_mark) {q : Int32 × Mem} (hq : RetOk Z X (some .int) False (PostI q.1 q.2) 0 0) {M : Mem} (hs : St M) (hf : B_X9_mark_129 M = some q) : G Z X Y_X9_mark False 0 0 129 [(0, .ref (zs Z + 284))] [] M := by
  unfold B_X9_mark_129 at hf
  refine G.aload_n 129 0 dX9_mark_129 rfl rfl ?_
  refine G.getp 130 ck_9 0 285 (hs.k k0_284) (pc_9_0 hs) (by decide) (by decide +kernel) wd_1305 dX9_mark_130 ?_
  refine G.sipush 133 (1193 : Int32) dX9_mark_133 (by decide +kernel) ?_
  refine G.dup2 136 dX9_mark_136 rfl rfl ?_
  refine G.ia 137 1193 (hs.k k0_285) (by decide +kernel) (by decide +kernel) dX9_mark_137 ?_
  refine G.iconst 138 (1 : Int32) dX9_mark_138 (by decide +kernel) ?_
  refine G.iadd 139 dX9_mark_139 ?_
  refine G.ist 140 1193 (hs.k k0_285) (by decide +kernel) (by decide +kernel) dX9_mark_140 ?_
  refine G.aload_n 141 0 dX9_mark_141 rfl rfl ?_
  refine G.getp 142 ck_9 0 285 ((St.i hs).k k0_284) (pc_9_0 (St.i hs)) (by decide) (by decide +kernel) wd_1305 dX9_mark_142 ?_
  refine G.sipush 145 (1193 : Int32) dX9_mark_145 (by decide +kernel) ?_
  refine G.ia 148 1193 ((St.i hs).k k0_285) (by decide +kernel) (by decide +kernel) dX9_mark_148 ?_
  refine G.iconst 149 (1 : Int32) dX9_mark_149 (by decide +kernel) ?_
  refine G.isub 150 dX9_mark_150 ?_
  (have hf9 := Option.some.inj hf; subst hf9)
  exact G.rI 151 hq dX9_mark_151 (St.i hs)
set_option maxRecDepth 100000 in
set_option maxHeartbeats 4000000 in
theorem l_X9_mark_88 (Z : Sys) (X : Cx) (hR : xR X = rm_X9_mark) {q : Int32 × Mem} (hq : RetOk Z X (some .int) False (PostI q.1 q.2) 0 0) : ∀ (n : Nat) (x1 : Int32) (x4 : Int32) (x5 : Int32) (M : Mem) (hs : St M) (hf : L_X9_mark_88 n x1 x4 x5 M = some q), G Z X Y_X9_mark False 0 0 88 [(0, .ref (zs Z + 284)), (1, .int x1), (4, .int x4), (5, .int x5)] [] M := by
  intro n
  induction n with
  | zero => intro x1 x4 x5 M hs  hf; cases hf
  | succ n ih =>
    intro x1 x4 x5 M hs  hf
    unfold L_X9_mark_88 at hf
    refine G.iload 88 3 dX9_mark_88 rfl ?_
    refine G.aload_n 90 0 dX9_mark_90 rfl rfl ?_
    refine G.getp 91 ck_9 4 289 (hs.k k0_284) (pc_9_4 hs) (by decide) (by decide +kernel) wd_1309 dX9_mark_91 ?_
    refine G.iload_n 94 1 dX9_mark_94 rfl rfl ?_
    obtain ⟨g17, hf⟩ := gd_e hf
    refine G.ia 95 x1.toNatClampNeg (hs.k k0_289) g17 rfl dX9_mark_95 ?_
    refine G.icmp_ge 96 129 dX9_mark_96 (by decide) (fun h18 => ?_) (fun h18 => ?_)
    · replace hf := (if_pos h18).symm.trans hf
      refine G.locs [0] rfl ?_
      exact b_X9_mark_129 Z X hR hq hs hf
    · replace hf := (if_neg h18).symm.trans hf
      refine G.aload_n 99 0 dX9_mark_99 rfl rfl ?_
      refine G.getp 100 ck_9 0 285 (hs.k k0_284) (pc_9_0 hs) (by decide) (by decide +kernel) wd_1305 dX9_mark_100 ?_
      refine G.iload 103 2 dX9_mark_103 rfl ?_
      refine G.iconst 105 (1 : Int32) dX9_mark_105 (by decide +kernel) ?_
      refine G.iadd 106 dX9_mark_106 ?_
      refine G.iload 107 3 dX9_mark_107 rfl ?_
      refine G.iadd 109 dX9_mark_109 ?_
      refine G.aload_n 110 0 dX9_mark_110 rfl rfl ?_
      refine G.getp 111 ck_9 5 290 (hs.k k0_284) (pc_9_5 hs) (by decide) (by decide +kernel) wd_1310 dX9_mark_111 ?_
      refine G.bipush 114 (80 : Int32) dX9_mark_114 (by decide +kernel) ?_
      refine G.iload_n 116 1 dX9_mark_116 rfl rfl ?_
      refine G.imul 117 dX9_mark_117 ?_
      refine G.iload 118 3 dX9_mark_118 rfl ?_
      refine G.iadd 120 dX9_mark_120 ?_
      obtain ⟨g19, hf⟩ := gd_e hf
      refine G.ia 121 (((80 : Int32) * x1) + x5).toNatClampNeg (hs.k k0_290) g19 rfl dX9_mark_121 ?_
      obtain ⟨g20, hf⟩ := gd_e hf
      refine G.ist 122 ((x4 + (1 : Int32)) + x5).toNatClampNeg (hs.k k0_285) g20 rfl dX9_mark_122 ?_
      refine G.iinc 123 3 (x5 + 1) [(5, .int (x5 + 1)), (0, .ref (zs Z + 284)), (1, .int x1), (4, .int x4)] dX9_mark_123 rfl (congrArg (fun z => x5 + z) (by decide +kernel)) (Nat.le_of_ble_eq_true rfl) rfl ?_
      refine G.goto 126 88 dX9_mark_126 (by decide) ?_
      refine G.locs [1, 2, 3, 0] rfl ?_
      exact ih x1 x4 (x5 + 1) (sI M 285 ((x4 + (1 : Int32)) + x5).toNatClampNeg (mI M 290 (((80 : Int32) * x1) + x5).toNatClampNeg)) (St.i hs) hf
set_option maxRecDepth 100000 in
set_option maxHeartbeats 4000000 in
theorem c_X9_mark (Z : Sys) {M : Mem} (hs : St M) (x1 : Int32) {q : Int32 × Mem} (hf : f_X9_mark x1 M = some q) : Ct Z yX9_mark cX9_mark 6 (some .int) rm_X9_mark [.ref (zs Z + 284), .int x1] M False (PostI q.1 q.2) := by
  refine Ct.of (by decide +kernel) (Nat.le_of_ble_eq_true rfl) (fun X hR hq _ => ?_)
  show G Z X Y_X9_mark False 0 0 0 [(0, .ref (zs Z + 284)), (1, .int x1)] [] M
  replace hq : RetOk Z X (some .int) False (PostI q.1 q.2) 0 0 := hq
  unfold f_X9_mark at hf
  refine G.iload_n 0 1 dX9_mark_0 rfl rfl ?_
  refine G.csZ 1 (As := [.int x1]) (c_X9_isShelf Z hs x1 rfl) mk_X9_isShelf wd_1470 wd_1469 hR (by decide +kernel) ⟨rfl, rfl⟩ rfl (Nat.le_of_ble_eq_true rfl) dX9_mark_1 (fun hs1 z2 => ?_)
  refine G.if_ne 4 9 dX9_mark_4 (by decide) (fun h3 => ?_) (fun h3 => ?_)
  · replace hf := (if_neg h3).symm.trans hf
    refine G.aload_n 9 0 dX9_mark_9 rfl rfl ?_
    refine G.getp 10 ck_9 0 285 (hs1.k k0_284) (pc_9_0 hs1) (by decide) (by decide +kernel) wd_1305 dX9_mark_10 ?_
    refine G.sipush 13 (1193 : Int32) dX9_mark_13 (by decide +kernel) ?_
    refine G.ia 16 1193 (hs1.k k0_285) (by decide +kernel) (by decide +kernel) dX9_mark_16 ?_
    refine G.bipush 17 (10 : Int32) dX9_mark_17 (by decide +kernel) ?_
    refine G.icmp_ne 19 25 dX9_mark_19 (by decide) (fun h4 => ?_) (fun h4 => ?_)
    · replace hf := (if_neg h4).symm.trans hf
      refine G.aload_n 25 0 dX9_mark_25 rfl rfl ?_
      refine G.iload_n 26 1 dX9_mark_26 rfl rfl ?_
      refine G.iconst 27 (0 : Int32) dX9_mark_27 (by decide +kernel) ?_
      obtain ⟨q7, e8, hf⟩ := bd_e hf
      refine G.cvI 28 (As := [.int x1, .int (0 : Int32)]) ck_9 (hs1.k k0_284) (c_X9_wrongRow Z hs1 x1 (0 : Int32) e8) mk_X9_wrongRow vk_X9_wrongRow rfl wd_1661 hR (by decide +kernel) ⟨rfl, rfl⟩ rfl (Nat.le_of_ble_eq_true rfl) dX9_mark_28 (fun hs5 => ?_)
      refine G.istore_n 31 [(2, .int q7), (0, .ref (zs Z + 284)), (1, .int x1)] dX9_mark_31 rfl (Nat.le_of_ble_eq_true rfl) rfl ?_
      refine G.iload_n 32 0 dX9_mark_32 rfl rfl ?_
      refine G.if_eq 33 38 dX9_mark_33 (by decide) (fun h9 => ?_) (fun h9 => ?_)
      · replace hf := (if_pos h9).symm.trans hf
        refine G.aload_n 38 1 dX9_mark_38 rfl rfl ?_
        refine G.iload_n 39 2 dX9_mark_39 rfl rfl ?_
        obtain ⟨q12, e13, hf⟩ := bd_e hf
        refine G.cvI 40 (As := [.int x1]) ck_9 (hs5.k k0_284) (c_X9_faultOf Z hs5 x1 e13) mk_X9_faultOf vk_X9_faultOf rfl wd_1665 hR (by decide +kernel) ⟨rfl, rfl⟩ rfl (Nat.le_of_ble_eq_true rfl) dX9_mark_40 (fun hs10 => ?_)
        refine G.istore_n 43 [(3, .int q12.1), (2, .int q7), (0, .ref (zs Z + 284)), (1, .int x1)] dX9_mark_43 rfl (Nat.le_of_ble_eq_true rfl) rfl ?_
        refine G.iload_n 44 0 dX9_mark_44 rfl rfl ?_
        refine G.bipush 45 (-4 : Int32) dX9_mark_45 (by decide +kernel) ?_
        refine G.icmp_eq 47 55 dX9_mark_47 (by decide) (fun h14 => ?_) (fun h14 => ?_)
        · replace hf := (if_pos h14).symm.trans hf
          refine G.sipush 55 (382 : Int32) dX9_mark_55 (by decide +kernel) ?_
          refine G.bipush 58 (81 : Int32) dX9_mark_58 (by decide +kernel) ?_
          refine G.aload_n 60 2 dX9_mark_60 rfl rfl ?_
          refine G.getp 61 ck_9 0 285 (hs10.k k0_284) (pc_9_0 hs10) (by decide) (by decide +kernel) wd_1305 dX9_mark_61 ?_
          refine G.sipush 64 (1193 : Int32) dX9_mark_64 (by decide +kernel) ?_
          refine G.ia 67 1193 (hs10.k k0_285) (by decide +kernel) (by decide +kernel) dX9_mark_67 ?_
          refine G.imul 68 dX9_mark_68 ?_
          refine G.iadd 69 dX9_mark_69 ?_
          refine G.istore 70 [(4, .int ((382 : Int32) + ((81 : Int32) * (mI q12.2 285 1193)))), (3, .int q12.1), (2, .int q7), (0, .ref (zs Z + 284)), (1, .int x1)] dX9_mark_70 (Nat.le_of_ble_eq_true rfl) rfl ?_
          refine G.aload_n 72 3 dX9_mark_72 rfl rfl ?_
          refine G.getp 73 ck_9 0 285 (hs10.k k0_284) (pc_9_0 hs10) (by decide) (by decide +kernel) wd_1305 dX9_mark_73 ?_
          refine G.iload 76 0 dX9_mark_76 rfl ?_
          refine G.aload_n 78 3 dX9_mark_78 rfl rfl ?_
          refine G.getp 79 ck_9 4 289 (hs10.k k0_284) (pc_9_4 hs10) (by decide) (by decide +kernel) wd_1309 dX9_mark_79 ?_
          refine G.iload_n 82 4 dX9_mark_82 rfl rfl ?_
          obtain ⟨g15, hf⟩ := gd_e hf
          refine G.ia 83 x1.toNatClampNeg (hs10.k k0_289) g15 rfl dX9_mark_83 ?_
          obtain ⟨g16, hf⟩ := gd_e hf
          refine G.ist 84 ((382 : Int32) + ((81 : Int32) * (mI q12.2 285 1193))).toNatClampNeg (hs10.k k0_285) g16 rfl dX9_mark_84 ?_
          refine G.iconst 85 (0 : Int32) dX9_mark_85 (by decide +kernel) ?_
          refine G.istore 86 [(5, .int (0 : Int32)), (4, .int ((382 : Int32) + ((81 : Int32) * (mI q12.2 285 1193)))), (3, .int q12.1), (2, .int q7), (0, .ref (zs Z + 284)), (1, .int x1)] dX9_mark_86 (Nat.le_of_ble_eq_true rfl) rfl ?_
          refine G.locs [4, 5, 1, 0] rfl ?_
          exact l_X9_mark_88 Z X hR hq FU x1 ((382 : Int32) + ((81 : Int32) * (mI q12.2 285 1193))) (0 : Int32) (sI q12.2 285 ((382 : Int32) + ((81 : Int32) * (mI q12.2 285 1193))).toNatClampNeg (mI q12.2 289 x1.toNatClampNeg)) (St.i hs10) hf
        · replace hf := (if_neg h14).symm.trans hf
          refine G.bipush 50 (-100 : Int32) dX9_mark_50 (by decide +kernel) ?_
          refine G.iload_n 52 0 dX9_mark_52 rfl rfl ?_
          refine G.isub 53 dX9_mark_53 ?_
          (have hf9 := Option.some.inj hf; subst hf9)
          exact G.rI 54 hq dX9_mark_54 hs10
      · replace hf := (if_neg h9).symm.trans hf
        refine G.iload_n 36 0 dX9_mark_36 rfl rfl ?_
        (have hf9 := Option.some.inj hf; subst hf9)
        exact G.rI 37 hq dX9_mark_37 hs5
    · replace hf := (if_pos h4).symm.trans hf
      refine G.bipush 22 (-2 : Int32) dX9_mark_22 (by decide +kernel) ?_
      (have hf9 := Option.some.inj hf; subst hf9)
      exact G.rI 24 hq dX9_mark_24 hs1
  · replace hf := (if_pos h3).symm.trans hf
    refine G.iconst 7 (-1 : Int32) dX9_mark_7 (by decide +kernel) ?_
    (have hf9 := Option.some.inj hf; subst hf9)
    exact G.rI 8 hq dX9_mark_8 hs1
abbrev Y_X9_markOf : My := (cX9_markOf, RX9, 3)
def rm_X9_markOf : Room := { frames := 421, cells := 0, slots := 0, locals := 13022 }
theorem dX9_markOf_0 : decode cX9_markOf 0 = .ok (.iconst 0, 1) := by decide +kernel
theorem dX9_markOf_1 : decode cX9_markOf 1 = .ok (.istore_n 2, 1) := by decide +kernel
theorem dX9_markOf_2 : decode cX9_markOf 2 = .ok (.iload_n 2, 1) := by decide +kernel
theorem dX9_markOf_3 : decode cX9_markOf 3 = .ok (.aload_n 0, 1) := by decide +kernel
theorem dX9_markOf_4 : decode cX9_markOf 4 = .ok (.getfield 9, 3) := by decide +kernel
theorem dX9_markOf_7 : decode cX9_markOf 7 = .ok (.sipush 1193, 3) := by decide +kernel
theorem dX9_markOf_10 : decode cX9_markOf 10 = .ok (.iaload, 1) := by decide +kernel
theorem dX9_markOf_11 : decode cX9_markOf 11 = .ok (.if_icmp .ge 66, 3) := by decide +kernel
theorem dX9_markOf_14 : decode cX9_markOf 14 = .ok (.aload_n 0, 1) := by decide +kernel
theorem dX9_markOf_15 : decode cX9_markOf 15 = .ok (.aload_n 0, 1) := by decide +kernel
theorem dX9_markOf_16 : decode cX9_markOf 16 = .ok (.getfield 9, 3) := by decide +kernel
theorem dX9_markOf_19 : decode cX9_markOf 19 = .ok (.sipush 382, 3) := by decide +kernel
theorem dX9_markOf_22 : decode cX9_markOf 22 = .ok (.bipush 81, 2) := by decide +kernel
theorem dX9_markOf_24 : decode cX9_markOf 24 = .ok (.iload_n 2, 1) := by decide +kernel
theorem dX9_markOf_25 : decode cX9_markOf 25 = .ok (.imul, 1) := by decide +kernel
theorem dX9_markOf_26 : decode cX9_markOf 26 = .ok (.iadd, 1) := by decide +kernel
theorem dX9_markOf_27 : decode cX9_markOf 27 = .ok (.iconst 3, 1) := by decide +kernel
theorem dX9_markOf_28 : decode cX9_markOf 28 = .ok (.iadd, 1) := by decide +kernel
theorem dX9_markOf_29 : decode cX9_markOf 29 = .ok (.aload_n 0, 1) := by decide +kernel
theorem dX9_markOf_30 : decode cX9_markOf 30 = .ok (.getfield 9, 3) := by decide +kernel
theorem dX9_markOf_33 : decode cX9_markOf 33 = .ok (.sipush 382, 3) := by decide +kernel
theorem dX9_markOf_36 : decode cX9_markOf 36 = .ok (.bipush 81, 2) := by decide +kernel
theorem dX9_markOf_38 : decode cX9_markOf 38 = .ok (.iload_n 2, 1) := by decide +kernel
theorem dX9_markOf_39 : decode cX9_markOf 39 = .ok (.imul, 1) := by decide +kernel
theorem dX9_markOf_40 : decode cX9_markOf 40 = .ok (.iadd, 1) := by decide +kernel
theorem dX9_markOf_41 : decode cX9_markOf 41 = .ok (.iaload, 1) := by decide +kernel
theorem dX9_markOf_42 : decode cX9_markOf 42 = .ok (.iconst 2, 1) := by decide +kernel
theorem dX9_markOf_43 : decode cX9_markOf 43 = .ok (.isub, 1) := by decide +kernel
theorem dX9_markOf_44 : decode cX9_markOf 44 = .ok (.iload_n 1, 1) := by decide +kernel
theorem dX9_markOf_45 : decode cX9_markOf 45 = .ok (.invokevirtual 274, 3) := by decide +kernel
theorem dX9_markOf_48 : decode cX9_markOf 48 = .ok (.aload_n 0, 1) := by decide +kernel
theorem dX9_markOf_49 : decode cX9_markOf 49 = .ok (.invokevirtual 253, 3) := by decide +kernel
theorem dX9_markOf_52 : decode cX9_markOf 52 = .ok (.ifCond .eq 19, 3) := by decide +kernel
theorem dX9_markOf_55 : decode cX9_markOf 55 = .ok (.aload_n 0, 1) := by decide +kernel
theorem dX9_markOf_56 : decode cX9_markOf 56 = .ok (.getfield 9, 3) := by decide +kernel
theorem dX9_markOf_59 : decode cX9_markOf 59 = .ok (.sipush 382, 3) := by decide +kernel
theorem dX9_markOf_62 : decode cX9_markOf 62 = .ok (.bipush 81, 2) := by decide +kernel
theorem dX9_markOf_64 : decode cX9_markOf 64 = .ok (.iload_n 2, 1) := by decide +kernel
theorem dX9_markOf_65 : decode cX9_markOf 65 = .ok (.imul, 1) := by decide +kernel
theorem dX9_markOf_66 : decode cX9_markOf 66 = .ok (.iadd, 1) := by decide +kernel
theorem dX9_markOf_67 : decode cX9_markOf 67 = .ok (.iconst 1, 1) := by decide +kernel
theorem dX9_markOf_68 : decode cX9_markOf 68 = .ok (.iadd, 1) := by decide +kernel
theorem dX9_markOf_69 : decode cX9_markOf 69 = .ok (.iaload, 1) := by decide +kernel
theorem dX9_markOf_70 : decode cX9_markOf 70 = .ok (.ireturn, 1) := by decide +kernel
theorem dX9_markOf_71 : decode cX9_markOf 71 = .ok (.iinc 2 1, 3) := by decide +kernel
theorem dX9_markOf_74 : decode cX9_markOf 74 = .ok (.goto (-72), 3) := by decide +kernel
theorem dX9_markOf_77 : decode cX9_markOf 77 = .ok (.bipush (-4), 2) := by decide +kernel
theorem dX9_markOf_79 : decode cX9_markOf 79 = .ok (.ireturn, 1) := by decide +kernel
def B_X9_markOf_55 (x2 : Int32) (M : Mem) : Option (Int32 × Mem) := gd (inR (((382 : Int32) + ((81 : Int32) * x2)) + (1 : Int32)) 1194) (some ((mI M 285 (((382 : Int32) + ((81 : Int32) * x2)) + (1 : Int32)).toNatClampNeg), M))
def L_X9_markOf_2 : Nat → Int32 → Int32 → Mem → Option (Int32 × Mem)
  | 0, _, _, _ => none
  | n + 1, x1, x2, M => if (mI M 285 1193) ≤ x2 then some ((-4 : Int32), M) else gd (inR ((382 : Int32) + ((81 : Int32) * x2)) 1194) ((f_X9_begins 285 (((382 : Int32) + ((81 : Int32) * x2)) + (3 : Int32)) ((mI M 285 ((382 : Int32) + ((81 : Int32) * x2)).toNatClampNeg) - (2 : Int32)) x1 M).bind fun q5 => (f_grp DEP 0 q5).bind fun q9 => if q9.1 = 0 then L_X9_markOf_2 n x1 (x2 + 1) q9.2 else B_X9_markOf_55 x2 q9.2)
def f_X9_markOf (x1 : Int32) (M : Mem) : Option (Int32 × Mem) := L_X9_markOf_2 FU x1 (0 : Int32) M
set_option maxRecDepth 100000 in
set_option maxHeartbeats 4000000 in
theorem b_X9_markOf_55 (Z : Sys) (X : Cx) (hR : xR X = rm_X9_markOf) {q : Int32 × Mem} (hq : RetOk Z X (some .int) False (PostI q.1 q.2) 0 0) (x2 : Int32) {M : Mem} (hs : St M) (hf : B_X9_markOf_55 x2 M = some q) : G Z X Y_X9_markOf False 0 0 55 [(0, .ref (zs Z + 284)), (2, .int x2)] [] M := by
  unfold B_X9_markOf_55 at hf
  refine G.aload_n 55 0 dX9_markOf_55 rfl rfl ?_
  refine G.getp 56 ck_9 0 285 (hs.k k0_284) (pc_9_0 hs) (by decide) (by decide +kernel) wd_1305 dX9_markOf_56 ?_
  refine G.sipush 59 (382 : Int32) dX9_markOf_59 (by decide +kernel) ?_
  refine G.bipush 62 (81 : Int32) dX9_markOf_62 (by decide +kernel) ?_
  refine G.iload_n 64 1 dX9_markOf_64 rfl rfl ?_
  refine G.imul 65 dX9_markOf_65 ?_
  refine G.iadd 66 dX9_markOf_66 ?_
  refine G.iconst 67 (1 : Int32) dX9_markOf_67 (by decide +kernel) ?_
  refine G.iadd 68 dX9_markOf_68 ?_
  obtain ⟨g12, hf⟩ := gd_e hf
  refine G.ia 69 (((382 : Int32) + ((81 : Int32) * x2)) + (1 : Int32)).toNatClampNeg (hs.k k0_285) g12 rfl dX9_markOf_69 ?_
  (have hf9 := Option.some.inj hf; subst hf9)
  exact G.rI 70 hq dX9_markOf_70 hs
set_option maxRecDepth 100000 in
set_option maxHeartbeats 4000000 in
theorem l_X9_markOf_2 (Z : Sys) (X : Cx) (hR : xR X = rm_X9_markOf) {q : Int32 × Mem} (hq : RetOk Z X (some .int) False (PostI q.1 q.2) 0 0) : ∀ (n : Nat) (x1 : Int32) (x2 : Int32) (M : Mem) (hs : St M) (hf : L_X9_markOf_2 n x1 x2 M = some q), G Z X Y_X9_markOf False 0 0 2 [(0, .ref (zs Z + 284)), (1, .int x1), (2, .int x2)] [] M := by
  intro n
  induction n with
  | zero => intro x1 x2 M hs  hf; cases hf
  | succ n ih =>
    intro x1 x2 M hs  hf
    unfold L_X9_markOf_2 at hf
    refine G.iload_n 2 2 dX9_markOf_2 rfl rfl ?_
    refine G.aload_n 3 0 dX9_markOf_3 rfl rfl ?_
    refine G.getp 4 ck_9 0 285 (hs.k k0_284) (pc_9_0 hs) (by decide) (by decide +kernel) wd_1305 dX9_markOf_4 ?_
    refine G.sipush 7 (1193 : Int32) dX9_markOf_7 (by decide +kernel) ?_
    refine G.ia 10 1193 (hs.k k0_285) (by decide +kernel) (by decide +kernel) dX9_markOf_10 ?_
    refine G.icmp_ge 11 77 dX9_markOf_11 (by decide) (fun h1 => ?_) (fun h1 => ?_)
    · replace hf := (if_pos h1).symm.trans hf
      refine G.bipush 77 (-4 : Int32) dX9_markOf_77 (by decide +kernel) ?_
      (have hf9 := Option.some.inj hf; subst hf9)
      exact G.rI 79 hq dX9_markOf_79 hs
    · replace hf := (if_neg h1).symm.trans hf
      refine G.aload_n 14 0 dX9_markOf_14 rfl rfl ?_
      refine G.aload_n 15 0 dX9_markOf_15 rfl rfl ?_
      refine G.getp 16 ck_9 0 285 (hs.k k0_284) (pc_9_0 hs) (by decide) (by decide +kernel) wd_1305 dX9_markOf_16 ?_
      refine G.sipush 19 (382 : Int32) dX9_markOf_19 (by decide +kernel) ?_
      refine G.bipush 22 (81 : Int32) dX9_markOf_22 (by decide +kernel) ?_
      refine G.iload_n 24 2 dX9_markOf_24 rfl rfl ?_
      refine G.imul 25 dX9_markOf_25 ?_
      refine G.iadd 26 dX9_markOf_26 ?_
      refine G.iconst 27 (3 : Int32) dX9_markOf_27 (by decide +kernel) ?_
      refine G.iadd 28 dX9_markOf_28 ?_
      refine G.aload_n 29 0 dX9_markOf_29 rfl rfl ?_
      refine G.getp 30 ck_9 0 285 (hs.k k0_284) (pc_9_0 hs) (by decide) (by decide +kernel) wd_1305 dX9_markOf_30 ?_
      refine G.sipush 33 (382 : Int32) dX9_markOf_33 (by decide +kernel) ?_
      refine G.bipush 36 (81 : Int32) dX9_markOf_36 (by decide +kernel) ?_
      refine G.iload_n 38 2 dX9_markOf_38 rfl rfl ?_
      refine G.imul 39 dX9_markOf_39 ?_
      refine G.iadd 40 dX9_markOf_40 ?_
      obtain ⟨g2, hf⟩ := gd_e hf
      refine G.ia 41 ((382 : Int32) + ((81 : Int32) * x2)).toNatClampNeg (hs.k k0_285) g2 rfl dX9_markOf_41 ?_
      refine G.iconst 42 (2 : Int32) dX9_markOf_42 (by decide +kernel) ?_
      refine G.isub 43 dX9_markOf_43 ?_
      refine G.iload_n 44 1 dX9_markOf_44 rfl rfl ?_
      obtain ⟨q5, e6, hf⟩ := bd_e hf
      refine G.cvV 45 (As := [.ref (zs Z + 285), .int (((382 : Int32) + ((81 : Int32) * x2)) + (3 : Int32)), .int ((mI M 285 ((382 : Int32) + ((81 : Int32) * x2)).toNatClampNeg) - (2 : Int32)), .int x1]) ck_9 (hs.k k0_284) (c_X9_begins Z hs 285 (((382 : Int32) + ((81 : Int32) * x2)) + (3 : Int32)) ((mI M 285 ((382 : Int32) + ((81 : Int32) * x2)).toNatClampNeg) - (2 : Int32)) x1 (ln_k k0_285) e6) mk_X9_begins vk_X9_begins rfl wd_1669 hR (by decide +kernel) ⟨rfl, rfl⟩ rfl (Nat.le_of_ble_eq_true rfl) dX9_markOf_45 (fun hs3 => ?_)
      refine G.aload_n 48 0 dX9_markOf_48 rfl rfl ?_
      obtain ⟨q9, e10, hf⟩ := bd_e hf
      refine G.cvZ 49 (As := []) ck_9 (hs3.k k0_284) (c_grp_o Z DEP hs3 e10) mk_X9_or vk_X9_or rfl wd_1683 hR (by decide +kernel) ⟨rfl, rfl⟩ rfl (Nat.le_of_ble_eq_true rfl) dX9_markOf_49 (fun hs7 z8 => ?_)
      refine G.if_eq 52 71 dX9_markOf_52 (by decide) (fun h11 => ?_) (fun h11 => ?_)
      · replace hf := (if_pos h11).symm.trans hf
        refine G.iinc 71 2 (x2 + 1) [(2, .int (x2 + 1)), (0, .ref (zs Z + 284)), (1, .int x1)] dX9_markOf_71 rfl (congrArg (fun z => x2 + z) (by decide +kernel)) (Nat.le_of_ble_eq_true rfl) rfl ?_
        refine G.goto 74 2 dX9_markOf_74 (by decide) ?_
        refine G.locs [1, 2, 0] rfl ?_
        exact ih x1 (x2 + 1) q9.2 hs7 hf
      · replace hf := (if_neg h11).symm.trans hf
        refine G.locs [0, 2] rfl ?_
        exact b_X9_markOf_55 Z X hR hq x2 hs7 hf
set_option maxRecDepth 100000 in
set_option maxHeartbeats 4000000 in
theorem c_X9_markOf (Z : Sys) {M : Mem} (hs : St M) (x1 : Int32) {q : Int32 × Mem} (hf : f_X9_markOf x1 M = some q) : Ct Z yX9_markOf cX9_markOf 3 (some .int) rm_X9_markOf [.ref (zs Z + 284), .int x1] M False (PostI q.1 q.2) := by
  refine Ct.of (by decide +kernel) (Nat.le_of_ble_eq_true rfl) (fun X hR hq _ => ?_)
  show G Z X Y_X9_markOf False 0 0 0 [(0, .ref (zs Z + 284)), (1, .int x1)] [] M
  replace hq : RetOk Z X (some .int) False (PostI q.1 q.2) 0 0 := hq
  unfold f_X9_markOf at hf
  refine G.iconst 0 (0 : Int32) dX9_markOf_0 (by decide +kernel) ?_
  refine G.istore_n 1 [(2, .int (0 : Int32)), (0, .ref (zs Z + 284)), (1, .int x1)] dX9_markOf_1 rfl (Nat.le_of_ble_eq_true rfl) rfl ?_
  refine G.locs [1, 2, 0] rfl ?_
  exact l_X9_markOf_2 Z X hR hq FU x1 (0 : Int32) M hs hf
abbrev Y_X9_marked : My := (cX9_marked, RX9, 2)
def rm_X9_marked : Room := { frames := 422, cells := 0, slots := 0, locals := 13044 }
theorem dX9_marked_0 : decode cX9_marked 0 = .ok (.aload_n 0, 1) := by decide +kernel
theorem dX9_marked_1 : decode cX9_marked 1 = .ok (.iload_n 1, 1) := by decide +kernel
theorem dX9_marked_2 : decode cX9_marked 2 = .ok (.invokevirtual 72, 3) := by decide +kernel
theorem dX9_marked_5 : decode cX9_marked 5 = .ok (.ifCond .ne 7, 3) := by decide +kernel
theorem dX9_marked_8 : decode cX9_marked 8 = .ok (.iconst (-1), 1) := by decide +kernel
theorem dX9_marked_9 : decode cX9_marked 9 = .ok (.goto 21, 3) := by decide +kernel
theorem dX9_marked_12 : decode cX9_marked 12 = .ok (.aload_n 0, 1) := by decide +kernel
theorem dX9_marked_13 : decode cX9_marked 13 = .ok (.iload_n 1, 1) := by decide +kernel
theorem dX9_marked_14 : decode cX9_marked 14 = .ok (.invokevirtual 97, 3) := by decide +kernel
theorem dX9_marked_17 : decode cX9_marked 17 = .ok (.ifCond .eq 11, 3) := by decide +kernel
theorem dX9_marked_20 : decode cX9_marked 20 = .ok (.aload_n 0, 1) := by decide +kernel
theorem dX9_marked_21 : decode cX9_marked 21 = .ok (.iload_n 1, 1) := by decide +kernel
theorem dX9_marked_22 : decode cX9_marked 22 = .ok (.invokevirtual 288, 3) := by decide +kernel
theorem dX9_marked_25 : decode cX9_marked 25 = .ok (.goto 5, 3) := by decide +kernel
theorem dX9_marked_28 : decode cX9_marked 28 = .ok (.bipush (-4), 2) := by decide +kernel
theorem dX9_marked_30 : decode cX9_marked 30 = .ok (.ireturn, 1) := by decide +kernel
def f_X9_marked (x1 : Int32) (M : Mem) : Option (Int32 × Mem) := if (f_X9_isHall x1 M) = 0 then some ((-1 : Int32), M) else (f_X9_has x1 M).bind fun q6 => if q6 = 0 then some ((-4 : Int32), M) else (f_X9_markOf x1 M).bind fun q11 => some (q11.1, q11.2)
set_option maxRecDepth 100000 in
set_option maxHeartbeats 4000000 in
theorem c_X9_marked (Z : Sys) {M : Mem} (hs : St M) (x1 : Int32) {q : Int32 × Mem} (hf : f_X9_marked x1 M = some q) : Ct Z yX9_marked cX9_marked 2 (some .int) rm_X9_marked [.ref (zs Z + 284), .int x1] M False (PostI q.1 q.2) := by
  refine Ct.of (by decide +kernel) (Nat.le_of_ble_eq_true rfl) (fun X hR hq _ => ?_)
  show G Z X Y_X9_marked False 0 0 0 [(0, .ref (zs Z + 284)), (1, .int x1)] [] M
  replace hq : RetOk Z X (some .int) False (PostI q.1 q.2) 0 0 := hq
  unfold f_X9_marked at hf
  refine G.aload_n 0 0 dX9_marked_0 rfl rfl ?_
  refine G.iload_n 1 1 dX9_marked_1 rfl rfl ?_
  refine G.cvZ 2 (As := [.int x1]) ck_9 (hs.k k0_284) (c_X9_isHall Z hs x1 rfl) mk_X9_isHall vk_X9_isHall rfl wd_1407 hR (by decide +kernel) ⟨rfl, rfl⟩ rfl (Nat.le_of_ble_eq_true rfl) dX9_marked_2 (fun hs1 z2 => ?_)
  refine G.if_ne 5 12 dX9_marked_5 (by decide) (fun h3 => ?_) (fun h3 => ?_)
  · replace hf := (if_neg h3).symm.trans hf
    refine G.aload_n 12 0 dX9_marked_12 rfl rfl ?_
    refine G.iload_n 13 1 dX9_marked_13 rfl rfl ?_
    obtain ⟨q6, e7, hf⟩ := bd_e hf
    refine G.cvZ 14 (As := [.int x1]) ck_9 (hs1.k k0_284) (c_X9_has Z hs1 x1 e7) mk_X9_has vk_X9_has rfl wd_1445 hR (by decide +kernel) ⟨rfl, rfl⟩ rfl (Nat.le_of_ble_eq_true rfl) dX9_marked_14 (fun hs4 z5 => ?_)
    refine G.if_eq 17 28 dX9_marked_17 (by decide) (fun h8 => ?_) (fun h8 => ?_)
    · replace hf := (if_pos h8).symm.trans hf
      refine G.bipush 28 (-4 : Int32) dX9_marked_28 (by decide +kernel) ?_
      (have hf9 := Option.some.inj hf; subst hf9)
      exact G.rI 30 hq dX9_marked_30 hs4
    · replace hf := (if_neg h8).symm.trans hf
      refine G.aload_n 20 0 dX9_marked_20 rfl rfl ?_
      refine G.iload_n 21 1 dX9_marked_21 rfl rfl ?_
      obtain ⟨q11, e12, hf⟩ := bd_e hf
      refine G.cvI 22 (As := [.int x1]) ck_9 (hs4.k k0_284) (c_X9_markOf Z hs4 x1 e12) mk_X9_markOf vk_X9_markOf rfl wd_1726 hR (by decide +kernel) ⟨rfl, rfl⟩ rfl (Nat.le_of_ble_eq_true rfl) dX9_marked_22 (fun hs9 => ?_)
      refine G.goto 25 30 dX9_marked_25 (by decide) ?_
      (have hf9 := Option.some.inj hf; subst hf9)
      exact G.rI 30 hq dX9_marked_30 hs9
  · replace hf := (if_pos h3).symm.trans hf
    refine G.iconst 8 (-1 : Int32) dX9_marked_8 (by decide +kernel) ?_
    refine G.goto 9 30 dX9_marked_9 (by decide) ?_
    (have hf9 := Option.some.inj hf; subst hf9)
    exact G.rI 30 hq dX9_marked_30 hs1
abbrev Y_X9_may : My := (cX9_may, RX9, 5)
def rm_X9_may : Room := { frames := 2, cells := 0, slots := 0, locals := 225 }
theorem dX9_may_0 : decode cX9_may 0 = .ok (.iload_n 2, 1) := by decide +kernel
theorem dX9_may_1 : decode cX9_may 1 = .ok (.i2l, 1) := by decide +kernel
theorem dX9_may_2 : decode cX9_may 2 = .ok (.lconst 0, 1) := by decide +kernel
theorem dX9_may_3 : decode cX9_may 3 = .ok (.lconst 1, 1) := by decide +kernel
theorem dX9_may_4 : decode cX9_may 4 = .ok (.invokestatic 62, 3) := by decide +kernel
theorem dX9_may_7 : decode cX9_may 7 = .ok (.ifCond .eq 28, 3) := by decide +kernel
theorem dX9_may_10 : decode cX9_may 10 = .ok (.iload_n 1, 1) := by decide +kernel
theorem dX9_may_11 : decode cX9_may 11 = .ok (.i2l, 1) := by decide +kernel
theorem dX9_may_12 : decode cX9_may 12 = .ok (.iconst 1, 1) := by decide +kernel
theorem dX9_may_13 : decode cX9_may 13 = .ok (.iload_n 2, 1) := by decide +kernel
theorem dX9_may_14 : decode cX9_may 14 = .ok (.isub, 1) := by decide +kernel
theorem dX9_may_15 : decode cX9_may 15 = .ok (.i2l, 1) := by decide +kernel
theorem dX9_may_16 : decode cX9_may 16 = .ok (.iload_n 2, 1) := by decide +kernel
theorem dX9_may_17 : decode cX9_may 17 = .ok (.ifCond .ne 9, 3) := by decide +kernel
theorem dX9_may_20 : decode cX9_may 20 = .ok (.ldc2_w 68, 3) := by decide +kernel
theorem dX9_may_23 : decode cX9_may 23 = .ok (.goto 6, 3) := by decide +kernel
theorem dX9_may_26 : decode cX9_may 26 = .ok (.ldc2_w 70, 3) := by decide +kernel
theorem dX9_may_29 : decode cX9_may 29 = .ok (.invokestatic 62, 3) := by decide +kernel
theorem dX9_may_32 : decode cX9_may 32 = .ok (.ifCond .ne 5, 3) := by decide +kernel
theorem dX9_may_35 : decode cX9_may 35 = .ok (.iconst (-1), 1) := by decide +kernel
theorem dX9_may_36 : decode cX9_may 36 = .ok (.ireturn, 1) := by decide +kernel
theorem dX9_may_37 : decode cX9_may 37 = .ok (.iload_n 2, 1) := by decide +kernel
theorem dX9_may_38 : decode cX9_may 38 = .ok (.istore_n 3, 1) := by decide +kernel
theorem dX9_may_39 : decode cX9_may 39 = .ok (.iload_n 2, 1) := by decide +kernel
theorem dX9_may_40 : decode cX9_may 40 = .ok (.ifCond .ne 37, 3) := by decide +kernel
theorem dX9_may_43 : decode cX9_may 43 = .ok (.iconst 0, 1) := by decide +kernel
theorem dX9_may_44 : decode cX9_may 44 = .ok (.istore 4, 2) := by decide +kernel
theorem dX9_may_46 : decode cX9_may 46 = .ok (.iload 4, 2) := by decide +kernel
theorem dX9_may_48 : decode cX9_may 48 = .ok (.iload_n 1, 1) := by decide +kernel
theorem dX9_may_49 : decode cX9_may 49 = .ok (.if_icmp .gt 26, 3) := by decide +kernel
theorem dX9_may_52 : decode cX9_may 52 = .ok (.iload_n 3, 1) := by decide +kernel
theorem dX9_may_53 : decode cX9_may 53 = .ok (.iload_n 1, 1) := by decide +kernel
theorem dX9_may_54 : decode cX9_may 54 = .ok (.iload 4, 2) := by decide +kernel
theorem dX9_may_56 : decode cX9_may 56 = .ok (.invokestatic 134, 3) := by decide +kernel
theorem dX9_may_59 : decode cX9_may 59 = .ok (.ifCond .eq 7, 3) := by decide +kernel
theorem dX9_may_62 : decode cX9_may 62 = .ok (.iconst 1, 1) := by decide +kernel
theorem dX9_may_63 : decode cX9_may 63 = .ok (.goto 4, 3) := by decide +kernel
theorem dX9_may_66 : decode cX9_may 66 = .ok (.iconst 0, 1) := by decide +kernel
theorem dX9_may_67 : decode cX9_may 67 = .ok (.iadd, 1) := by decide +kernel
theorem dX9_may_68 : decode cX9_may 68 = .ok (.istore_n 3, 1) := by decide +kernel
theorem dX9_may_69 : decode cX9_may 69 = .ok (.iinc 4 1, 3) := by decide +kernel
theorem dX9_may_72 : decode cX9_may 72 = .ok (.goto (-26), 3) := by decide +kernel
theorem dX9_may_75 : decode cX9_may 75 = .ok (.iload_n 3, 1) := by decide +kernel
theorem dX9_may_76 : decode cX9_may 76 = .ok (.ireturn, 1) := by decide +kernel
theorem dX9_may_77 : decode cX9_may 77 = .ok (.iload_n 1, 1) := by decide +kernel
theorem dX9_may_78 : decode cX9_may 78 = .ok (.iload_n 3, 1) := by decide +kernel
theorem dX9_may_79 : decode cX9_may 79 = .ok (.imul, 1) := by decide +kernel
theorem dX9_may_80 : decode cX9_may 80 = .ok (.bipush 100, 2) := by decide +kernel
theorem dX9_may_82 : decode cX9_may 82 = .ok (.irem, 1) := by decide +kernel
theorem dX9_may_83 : decode cX9_may 83 = .ok (.ifCond .eq 9, 3) := by decide +kernel
theorem dX9_may_86 : decode cX9_may 86 = .ok (.iinc 3 1, 3) := by decide +kernel
theorem dX9_may_89 : decode cX9_may 89 = .ok (.goto (-12), 3) := by decide +kernel
theorem dX9_may_92 : decode cX9_may 92 = .ok (.iload_n 3, 1) := by decide +kernel
theorem dX9_may_93 : decode cX9_may 93 = .ok (.ireturn, 1) := by decide +kernel
def L_X9_may_77 : Nat → Int32 → Int32 → Option Int32
  | 0, _, _ => none
  | n + 1, x1, x3 => if (jrem (x1 * x3) (100 : Int32)) = 0 then some x3 else L_X9_may_77 n x1 (x3 + 1)
def L_X9_may_46 : Nat → Int32 → Int32 → Int32 → Option Int32
  | 0, _, _, _ => none
  | n + 1, x1, x3, x4 => if x1 < x4 then some x3 else (f_X9_isRound x1 x4).bind fun q13 => if q13 = 0 then L_X9_may_46 n x1 (x3 + (0 : Int32)) (x4 + 1) else L_X9_may_46 n x1 (x3 + (1 : Int32)) (x4 + 1)
def f_X9_may (x1 : Int32) (x2 : Int32) : Option Int32 := if (f_X9_isIn x2.toInt64 (0 : Int64) (1 : Int64)) = 0 then some (-1 : Int32) else if x2 = 0 then if (f_X9_isIn x1.toInt64 ((1 : Int32) - x2).toInt64 (999 : Int64)) = 0 then some (-1 : Int32) else if x2 = 0 then L_X9_may_46 FU x1 x2 (0 : Int32) else L_X9_may_77 FU x1 x2 else if (f_X9_isIn x1.toInt64 ((1 : Int32) - x2).toInt64 (100 : Int64)) = 0 then some (-1 : Int32) else if x2 = 0 then L_X9_may_46 FU x1 x2 (0 : Int32) else L_X9_may_77 FU x1 x2
set_option maxRecDepth 100000 in
set_option maxHeartbeats 4000000 in
theorem l_X9_may_77 (Z : Sys) (X : Cx) (hR : xR X = rm_X9_may) {q : Int32} {M : Mem} (hq : RetOk Z X (some .int) False (PostI q M) 0 0) : ∀ (n : Nat) (x1 : Int32) (x3 : Int32) (hs : St M) (hf : L_X9_may_77 n x1 x3 = some q), G Z X Y_X9_may False 0 0 77 [(1, .int x1), (3, .int x3)] [] M := by
  intro n
  induction n with
  | zero => intro x1 x3 hs  hf; cases hf
  | succ n ih =>
    intro x1 x3 hs  hf
    unfold L_X9_may_77 at hf
    refine G.iload_n 77 0 dX9_may_77 rfl rfl ?_
    refine G.iload_n 78 1 dX9_may_78 rfl rfl ?_
    refine G.imul 79 dX9_may_79 ?_
    refine G.bipush 80 (100 : Int32) dX9_may_80 (by decide +kernel) ?_
    refine G.iremJ 82 dX9_may_82 (by decide +kernel) ?_
    refine G.if_eq 83 92 dX9_may_83 (by decide) (fun h9 => ?_) (fun h9 => ?_)
    · replace hf := (if_pos h9).symm.trans hf
      refine G.iload_n 92 1 dX9_may_92 rfl rfl ?_
      (have hf9 := Option.some.inj hf; subst hf9)
      exact G.rI 93 hq dX9_may_93 hs
    · replace hf := (if_neg h9).symm.trans hf
      refine G.iinc 86 1 (x3 + 1) [(3, .int (x3 + 1)), (1, .int x1)] dX9_may_86 rfl (congrArg (fun z => x3 + z) (by decide +kernel)) (Nat.le_of_ble_eq_true rfl) rfl ?_
      refine G.goto 89 77 dX9_may_89 (by decide) ?_
      refine G.locs [1, 0] rfl ?_
      exact ih x1 (x3 + 1) hs hf
set_option maxRecDepth 100000 in
set_option maxHeartbeats 4000000 in
theorem l_X9_may_46 (Z : Sys) (X : Cx) (hR : xR X = rm_X9_may) {q : Int32} {M : Mem} (hq : RetOk Z X (some .int) False (PostI q M) 0 0) : ∀ (n : Nat) (x1 : Int32) (x3 : Int32) (x4 : Int32) (hs : St M) (hf : L_X9_may_46 n x1 x3 x4 = some q), G Z X Y_X9_may False 0 0 46 [(1, .int x1), (3, .int x3), (4, .int x4)] [] M := by
  intro n
  induction n with
  | zero => intro x1 x3 x4 hs  hf; cases hf
  | succ n ih =>
    intro x1 x3 x4 hs  hf
    unfold L_X9_may_46 at hf
    refine G.iload 46 2 dX9_may_46 rfl ?_
    refine G.iload_n 48 0 dX9_may_48 rfl rfl ?_
    refine G.icmp_gt 49 75 dX9_may_49 (by decide) (fun h10 => ?_) (fun h10 => ?_)
    · replace hf := (if_pos h10).symm.trans hf
      refine G.iload_n 75 1 dX9_may_75 rfl rfl ?_
      (have hf9 := Option.some.inj hf; subst hf9)
      exact G.rI 76 hq dX9_may_76 hs
    · replace hf := (if_neg h10).symm.trans hf
      refine G.iload_n 52 1 dX9_may_52 rfl rfl ?_
      refine G.iload_n 53 0 dX9_may_53 rfl rfl ?_
      refine G.iload 54 2 dX9_may_54 rfl ?_
      obtain ⟨q13, e14, hf⟩ := bd_e hf
      refine G.csZ 56 (As := [.int x1, .int x4]) (c_X9_isRound Z hs x1 x4 e14) mk_X9_isRound wd_1501 wd_1500 hR (by decide +kernel) ⟨rfl, rfl⟩ rfl (Nat.le_of_ble_eq_true rfl) dX9_may_56 (fun hs11 z12 => ?_)
      refine G.if_eq 59 66 dX9_may_59 (by decide) (fun h15 => ?_) (fun h15 => ?_)
      · replace hf := (if_pos h15).symm.trans hf
        refine G.iconst 66 (0 : Int32) dX9_may_66 (by decide +kernel) ?_
        refine G.iadd 67 dX9_may_67 ?_
        refine G.istore_n 68 [(3, .int (x3 + (0 : Int32))), (1, .int x1), (4, .int x4)] dX9_may_68 rfl (Nat.le_of_ble_eq_true rfl) rfl ?_
        refine G.iinc 69 2 (x4 + 1) [(4, .int (x4 + 1)), (3, .int (x3 + (0 : Int32))), (1, .int x1)] dX9_may_69 rfl (congrArg (fun z => x4 + z) (by decide +kernel)) (Nat.le_of_ble_eq_true rfl) rfl ?_
        refine G.goto 72 46 dX9_may_72 (by decide) ?_
        refine G.locs [2, 1, 0] rfl ?_
        exact ih x1 (x3 + (0 : Int32)) (x4 + 1) hs11 hf
      · replace hf := (if_neg h15).symm.trans hf
        refine G.iconst 62 (1 : Int32) dX9_may_62 (by decide +kernel) ?_
        refine G.goto 63 67 dX9_may_63 (by decide) ?_
        refine G.iadd 67 dX9_may_67 ?_
        refine G.istore_n 68 [(3, .int (x3 + (1 : Int32))), (1, .int x1), (4, .int x4)] dX9_may_68 rfl (Nat.le_of_ble_eq_true rfl) rfl ?_
        refine G.iinc 69 2 (x4 + 1) [(4, .int (x4 + 1)), (3, .int (x3 + (1 : Int32))), (1, .int x1)] dX9_may_69 rfl (congrArg (fun z => x4 + z) (by decide +kernel)) (Nat.le_of_ble_eq_true rfl) rfl ?_
        refine G.goto 72 46 dX9_may_72 (by decide) ?_
        refine G.locs [2, 1, 0] rfl ?_
        exact ih x1 (x3 + (1 : Int32)) (x4 + 1) hs11 hf
set_option maxRecDepth 100000 in
set_option maxHeartbeats 4000000 in
theorem c_X9_may (Z : Sys) {M : Mem} (hs : St M) (x1 : Int32) (x2 : Int32) {q : Int32} (hf : f_X9_may x1 x2 = some q) : Ct Z yX9_may cX9_may 5 (some .int) rm_X9_may [.ref (zs Z + 284), .int x1, .int x2] M False (PostI q M) := by
  refine Ct.of (by decide +kernel) (Nat.le_of_ble_eq_true rfl) (fun X hR hq _ => ?_)
  show G Z X Y_X9_may False 0 0 0 [(0, .ref (zs Z + 284)), (1, .int x1), (2, .int x2)] [] M
  replace hq : RetOk Z X (some .int) False (PostI q M) 0 0 := hq
  unfold f_X9_may at hf
  refine G.iload_n 0 2 dX9_may_0 rfl rfl ?_
  refine G.i2l 1 dX9_may_1 ?_
  refine G.lconst 2 (0 : Int64) dX9_may_2 (by decide +kernel) ?_
  refine G.lconst 3 (1 : Int64) dX9_may_3 (by decide +kernel) ?_
  refine G.csZ 4 (As := [.long x2.toInt64, .long (0 : Int64), .long (1 : Int64)]) (c_X9_isIn Z hs x2.toInt64 (0 : Int64) (1 : Int64) rfl) mk_X9_isIn wd_1400 wd_1399 hR (by decide +kernel) ⟨rfl, rfl⟩ rfl (Nat.le_of_ble_eq_true rfl) dX9_may_4 (fun hs1 z2 => ?_)
  refine G.if_eq 7 35 dX9_may_7 (by decide) (fun h3 => ?_) (fun h3 => ?_)
  · replace hf := (if_pos h3).symm.trans hf
    refine G.iconst 35 (-1 : Int32) dX9_may_35 (by decide +kernel) ?_
    (have hf9 := Option.some.inj hf; subst hf9)
    exact G.rI 36 hq dX9_may_36 hs1
  · replace hf := (if_neg h3).symm.trans hf
    refine G.iload_n 10 1 dX9_may_10 rfl rfl ?_
    refine G.i2l 11 dX9_may_11 ?_
    refine G.iconst 12 (1 : Int32) dX9_may_12 (by decide +kernel) ?_
    refine G.iload_n 13 2 dX9_may_13 rfl rfl ?_
    refine G.isub 14 dX9_may_14 ?_
    refine G.i2l 15 dX9_may_15 ?_
    refine G.iload_n 16 2 dX9_may_16 rfl rfl ?_
    refine G.if_ne 17 26 dX9_may_17 (by decide) (fun h4 => ?_) (fun h4 => ?_)
    · replace hf := (if_neg h4).symm.trans hf
      refine G.ldc2 26 (100 : Int64) wd_1402 dX9_may_26 ?_
      refine G.csZ 29 (As := [.long x1.toInt64, .long ((1 : Int32) - x2).toInt64, .long (100 : Int64)]) (c_X9_isIn Z hs1 x1.toInt64 ((1 : Int32) - x2).toInt64 (100 : Int64) rfl) mk_X9_isIn wd_1400 wd_1399 hR (by decide +kernel) ⟨rfl, rfl⟩ rfl (Nat.le_of_ble_eq_true rfl) dX9_may_29 (fun hs5 z6 => ?_)
      refine G.if_ne 32 37 dX9_may_32 (by decide) (fun h7 => ?_) (fun h7 => ?_)
      · replace hf := (if_neg h7).symm.trans hf
        refine G.iload_n 37 2 dX9_may_37 rfl rfl ?_
        refine G.istore_n 38 [(3, .int x2), (0, .ref (zs Z + 284)), (1, .int x1), (2, .int x2)] dX9_may_38 rfl (Nat.le_of_ble_eq_true rfl) rfl ?_
        refine G.iload_n 39 3 dX9_may_39 rfl rfl ?_
        refine G.if_ne 40 77 dX9_may_40 (by decide) (fun h8 => ?_) (fun h8 => ?_)
        · replace hf := (if_neg h8).symm.trans hf
          refine G.locs [2, 0] rfl ?_
          exact l_X9_may_77 Z X hR hq FU x1 x2 hs5 hf
        · replace hf := (if_pos h8).symm.trans hf
          refine G.iconst 43 (0 : Int32) dX9_may_43 (by decide +kernel) ?_
          refine G.istore 44 [(4, .int (0 : Int32)), (3, .int x2), (0, .ref (zs Z + 284)), (1, .int x1), (2, .int x2)] dX9_may_44 (Nat.le_of_ble_eq_true rfl) rfl ?_
          refine G.locs [3, 1, 0] rfl ?_
          exact l_X9_may_46 Z X hR hq FU x1 x2 (0 : Int32) hs5 hf
      · replace hf := (if_pos h7).symm.trans hf
        refine G.iconst 35 (-1 : Int32) dX9_may_35 (by decide +kernel) ?_
        (have hf9 := Option.some.inj hf; subst hf9)
        exact G.rI 36 hq dX9_may_36 hs5
    · replace hf := (if_pos h4).symm.trans hf
      refine G.ldc2 20 (999 : Int64) wd_1398 dX9_may_20 ?_
      refine G.goto 23 29 dX9_may_23 (by decide) ?_
      refine G.csZ 29 (As := [.long x1.toInt64, .long ((1 : Int32) - x2).toInt64, .long (999 : Int64)]) (c_X9_isIn Z hs1 x1.toInt64 ((1 : Int32) - x2).toInt64 (999 : Int64) rfl) mk_X9_isIn wd_1400 wd_1399 hR (by decide +kernel) ⟨rfl, rfl⟩ rfl (Nat.le_of_ble_eq_true rfl) dX9_may_29 (fun hs16 z17 => ?_)
      refine G.if_ne 32 37 dX9_may_32 (by decide) (fun h18 => ?_) (fun h18 => ?_)
      · replace hf := (if_neg h18).symm.trans hf
        refine G.iload_n 37 2 dX9_may_37 rfl rfl ?_
        refine G.istore_n 38 [(3, .int x2), (0, .ref (zs Z + 284)), (1, .int x1), (2, .int x2)] dX9_may_38 rfl (Nat.le_of_ble_eq_true rfl) rfl ?_
        refine G.iload_n 39 3 dX9_may_39 rfl rfl ?_
        refine G.if_ne 40 77 dX9_may_40 (by decide) (fun h19 => ?_) (fun h19 => ?_)
        · replace hf := (if_neg h19).symm.trans hf
          refine G.locs [2, 0] rfl ?_
          exact l_X9_may_77 Z X hR hq FU x1 x2 hs16 hf
        · replace hf := (if_pos h19).symm.trans hf
          refine G.iconst 43 (0 : Int32) dX9_may_43 (by decide +kernel) ?_
          refine G.istore 44 [(4, .int (0 : Int32)), (3, .int x2), (0, .ref (zs Z + 284)), (1, .int x1), (2, .int x2)] dX9_may_44 (Nat.le_of_ble_eq_true rfl) rfl ?_
          refine G.locs [3, 1, 0] rfl ?_
          exact l_X9_may_46 Z X hR hq FU x1 x2 (0 : Int32) hs16 hf
      · replace hf := (if_pos h18).symm.trans hf
        refine G.iconst 35 (-1 : Int32) dX9_may_35 (by decide +kernel) ?_
        (have hf9 := Option.some.inj hf; subst hf9)
        exact G.rI 36 hq dX9_may_36 hs16
abbrev Y_X9_squares : My := (cX9_squares, RX9, 5)
def rm_X9_squares : Room := { frames := 5, cells := 0, slots := 0, locals := 288 }
theorem dX9_squares_0 : decode cX9_squares 0 = .ok (.aload_n 0, 1) := by decide +kernel
theorem dX9_squares_1 : decode cX9_squares 1 = .ok (.iload_n 1, 1) := by decide +kernel
theorem dX9_squares_2 : decode cX9_squares 2 = .ok (.bipush 30, 2) := by decide +kernel
theorem dX9_squares_4 : decode cX9_squares 4 = .ok (.invokevirtual 128, 3) := by decide +kernel
theorem dX9_squares_7 : decode cX9_squares 7 = .ok (.bipush 10, 2) := by decide +kernel
theorem dX9_squares_9 : decode cX9_squares 9 = .ok (.iload_n 1, 1) := by decide +kernel
theorem dX9_squares_10 : decode cX9_squares 10 = .ok (.isub, 1) := by decide +kernel
theorem dX9_squares_11 : decode cX9_squares 11 = .ok (.istore_n 2, 1) := by decide +kernel
theorem dX9_squares_12 : decode cX9_squares 12 = .ok (.iconst 0, 1) := by decide +kernel
theorem dX9_squares_13 : decode cX9_squares 13 = .ok (.istore_n 3, 1) := by decide +kernel
theorem dX9_squares_14 : decode cX9_squares 14 = .ok (.iload_n 1, 1) := by decide +kernel
theorem dX9_squares_15 : decode cX9_squares 15 = .ok (.istore 4, 2) := by decide +kernel
theorem dX9_squares_17 : decode cX9_squares 17 = .ok (.iload 4, 2) := by decide +kernel
theorem dX9_squares_19 : decode cX9_squares 19 = .ok (.bipush 10, 2) := by decide +kernel
theorem dX9_squares_21 : decode cX9_squares 21 = .ok (.if_icmp .ge 41, 3) := by decide +kernel
theorem dX9_squares_24 : decode cX9_squares 24 = .ok (.iload_n 3, 1) := by decide +kernel
theorem dX9_squares_25 : decode cX9_squares 25 = .ok (.iload_n 2, 1) := by decide +kernel
theorem dX9_squares_26 : decode cX9_squares 26 = .ok (.aload_n 0, 1) := by decide +kernel
theorem dX9_squares_27 : decode cX9_squares 27 = .ok (.getfield 34, 3) := by decide +kernel
theorem dX9_squares_30 : decode cX9_squares 30 = .ok (.iload 4, 2) := by decide +kernel
theorem dX9_squares_32 : decode cX9_squares 32 = .ok (.iaload, 1) := by decide +kernel
theorem dX9_squares_33 : decode cX9_squares 33 = .ok (.imul, 1) := by decide +kernel
theorem dX9_squares_34 : decode cX9_squares 34 = .ok (.aload_n 0, 1) := by decide +kernel
theorem dX9_squares_35 : decode cX9_squares 35 = .ok (.getfield 118, 3) := by decide +kernel
theorem dX9_squares_38 : decode cX9_squares 38 = .ok (.isub, 1) := by decide +kernel
theorem dX9_squares_39 : decode cX9_squares 39 = .ok (.iload_n 2, 1) := by decide +kernel
theorem dX9_squares_40 : decode cX9_squares 40 = .ok (.aload_n 0, 1) := by decide +kernel
theorem dX9_squares_41 : decode cX9_squares 41 = .ok (.getfield 34, 3) := by decide +kernel
theorem dX9_squares_44 : decode cX9_squares 44 = .ok (.iload 4, 2) := by decide +kernel
theorem dX9_squares_46 : decode cX9_squares 46 = .ok (.iaload, 1) := by decide +kernel
theorem dX9_squares_47 : decode cX9_squares 47 = .ok (.imul, 1) := by decide +kernel
theorem dX9_squares_48 : decode cX9_squares 48 = .ok (.aload_n 0, 1) := by decide +kernel
theorem dX9_squares_49 : decode cX9_squares 49 = .ok (.getfield 118, 3) := by decide +kernel
theorem dX9_squares_52 : decode cX9_squares 52 = .ok (.isub, 1) := by decide +kernel
theorem dX9_squares_53 : decode cX9_squares 53 = .ok (.imul, 1) := by decide +kernel
theorem dX9_squares_54 : decode cX9_squares 54 = .ok (.iadd, 1) := by decide +kernel
theorem dX9_squares_55 : decode cX9_squares 55 = .ok (.istore_n 3, 1) := by decide +kernel
theorem dX9_squares_56 : decode cX9_squares 56 = .ok (.iinc 4 1, 3) := by decide +kernel
theorem dX9_squares_59 : decode cX9_squares 59 = .ok (.goto (-42), 3) := by decide +kernel
theorem dX9_squares_62 : decode cX9_squares 62 = .ok (.iload_n 3, 1) := by decide +kernel
theorem dX9_squares_63 : decode cX9_squares 63 = .ok (.ireturn, 1) := by decide +kernel
def L_X9_squares_17 : Nat → Int32 → Int32 → Int32 → Mem → Option (Int32 × Mem)
  | 0, _, _, _, _ => none
  | n + 1, x2, x3, x4, M => if (10 : Int32) ≤ x4 then some (x3, M) else gd (inR x4 10) (L_X9_squares_17 n x2 (x3 + (((x2 * (mI M 293 x4.toNatClampNeg)) - (mI M 284 11)) * ((x2 * (mI M 293 x4.toNatClampNeg)) - (mI M 284 11)))) (x4 + 1) M)
def f_X9_squares (x1 : Int32) (M : Mem) : Option (Int32 × Mem) := (f_X9_counts x1 (30 : Int32) M).bind fun q3 => L_X9_squares_17 FU ((10 : Int32) - x1) (0 : Int32) x1 q3
set_option maxRecDepth 100000 in
set_option maxHeartbeats 4000000 in
theorem l_X9_squares_17 (Z : Sys) (X : Cx) (hR : xR X = rm_X9_squares) {q : Int32 × Mem} (hq : RetOk Z X (some .int) False (PostI q.1 q.2) 0 0) : ∀ (n : Nat) (x2 : Int32) (x3 : Int32) (x4 : Int32) (M : Mem) (hs : St M) (hf : L_X9_squares_17 n x2 x3 x4 M = some q), G Z X Y_X9_squares False 0 0 17 [(0, .ref (zs Z + 284)), (2, .int x2), (3, .int x3), (4, .int x4)] [] M := by
  intro n
  induction n with
  | zero => intro x2 x3 x4 M hs  hf; cases hf
  | succ n ih =>
    intro x2 x3 x4 M hs  hf
    unfold L_X9_squares_17 at hf
    refine G.iload 17 3 dX9_squares_17 rfl ?_
    refine G.bipush 19 (10 : Int32) dX9_squares_19 (by decide +kernel) ?_
    refine G.icmp_ge 21 62 dX9_squares_21 (by decide) (fun h5 => ?_) (fun h5 => ?_)
    · replace hf := (if_pos h5).symm.trans hf
      refine G.iload_n 62 2 dX9_squares_62 rfl rfl ?_
      (have hf9 := Option.some.inj hf; subst hf9)
      exact G.rI 63 hq dX9_squares_63 hs
    · replace hf := (if_neg h5).symm.trans hf
      refine G.iload_n 24 2 dX9_squares_24 rfl rfl ?_
      refine G.iload_n 25 1 dX9_squares_25 rfl rfl ?_
      refine G.aload_n 26 0 dX9_squares_26 rfl rfl ?_
      refine G.getp 27 ck_9 10 293 (hs.k k0_284) (pc_9_10 hs) (by decide) (by decide +kernel) wd_1315 dX9_squares_27 ?_
      refine G.iload 30 3 dX9_squares_30 rfl ?_
      obtain ⟨g6, hf⟩ := gd_e hf
      refine G.ia 32 x4.toNatClampNeg (hs.k k0_293) g6 rfl dX9_squares_32 ?_
      refine G.imul 33 dX9_squares_33 ?_
      refine G.aload_n 34 0 dX9_squares_34 rfl rfl ?_
      refine G.geti 35 ck_9 11 (hs.k k0_284) (by decide) (by decide +kernel) wd_1316 dX9_squares_35 ?_
      refine G.isub 38 dX9_squares_38 ?_
      refine G.iload_n 39 1 dX9_squares_39 rfl rfl ?_
      refine G.aload_n 40 0 dX9_squares_40 rfl rfl ?_
      refine G.getp 41 ck_9 10 293 (hs.k k0_284) (pc_9_10 hs) (by decide) (by decide +kernel) wd_1315 dX9_squares_41 ?_
      refine G.iload 44 3 dX9_squares_44 rfl ?_
      refine G.ia 46 x4.toNatClampNeg (hs.k k0_293) g6 rfl dX9_squares_46 ?_
      refine G.imul 47 dX9_squares_47 ?_
      refine G.aload_n 48 0 dX9_squares_48 rfl rfl ?_
      refine G.geti 49 ck_9 11 (hs.k k0_284) (by decide) (by decide +kernel) wd_1316 dX9_squares_49 ?_
      refine G.isub 52 dX9_squares_52 ?_
      refine G.imul 53 dX9_squares_53 ?_
      refine G.iadd 54 dX9_squares_54 ?_
      refine G.istore_n 55 [(3, .int (x3 + (((x2 * (mI M 293 x4.toNatClampNeg)) - (mI M 284 11)) * ((x2 * (mI M 293 x4.toNatClampNeg)) - (mI M 284 11))))), (0, .ref (zs Z + 284)), (2, .int x2), (4, .int x4)] dX9_squares_55 rfl (Nat.le_of_ble_eq_true rfl) rfl ?_
      refine G.iinc 56 3 (x4 + 1) [(4, .int (x4 + 1)), (3, .int (x3 + (((x2 * (mI M 293 x4.toNatClampNeg)) - (mI M 284 11)) * ((x2 * (mI M 293 x4.toNatClampNeg)) - (mI M 284 11))))), (0, .ref (zs Z + 284)), (2, .int x2)] dX9_squares_56 rfl (congrArg (fun z => x4 + z) (by decide +kernel)) (Nat.le_of_ble_eq_true rfl) rfl ?_
      refine G.goto 59 17 dX9_squares_59 (by decide) ?_
      refine G.locs [2, 3, 1, 0] rfl ?_
      exact ih x2 (x3 + (((x2 * (mI M 293 x4.toNatClampNeg)) - (mI M 284 11)) * ((x2 * (mI M 293 x4.toNatClampNeg)) - (mI M 284 11)))) (x4 + 1) M hs hf
set_option maxRecDepth 100000 in
set_option maxHeartbeats 4000000 in
theorem c_X9_squares (Z : Sys) {M : Mem} (hs : St M) (x1 : Int32) {q : Int32 × Mem} (hf : f_X9_squares x1 M = some q) : Ct Z yX9_squares cX9_squares 5 (some .int) rm_X9_squares [.ref (zs Z + 284), .int x1] M False (PostI q.1 q.2) := by
  refine Ct.of (by decide +kernel) (Nat.le_of_ble_eq_true rfl) (fun X hR hq _ => ?_)
  show G Z X Y_X9_squares False 0 0 0 [(0, .ref (zs Z + 284)), (1, .int x1)] [] M
  replace hq : RetOk Z X (some .int) False (PostI q.1 q.2) 0 0 := hq
  unfold f_X9_squares at hf
  refine G.aload_n 0 0 dX9_squares_0 rfl rfl ?_
  refine G.iload_n 1 1 dX9_squares_1 rfl rfl ?_
  refine G.bipush 2 (30 : Int32) dX9_squares_2 (by decide +kernel) ?_
  obtain ⟨q3, e4, hf⟩ := bd_e hf
  refine G.cvV 4 (As := [.int x1, .int (30 : Int32)]) ck_9 (hs.k k0_284) (c_X9_counts Z hs x1 (30 : Int32) e4) mk_X9_counts vk_X9_counts rfl wd_1480 hR (by decide +kernel) ⟨rfl, rfl⟩ rfl (Nat.le_of_ble_eq_true rfl) dX9_squares_4 (fun hs1 => ?_)
  refine G.bipush 7 (10 : Int32) dX9_squares_7 (by decide +kernel) ?_
  refine G.iload_n 9 1 dX9_squares_9 rfl rfl ?_
  refine G.isub 10 dX9_squares_10 ?_
  refine G.istore_n 11 [(2, .int ((10 : Int32) - x1)), (0, .ref (zs Z + 284)), (1, .int x1)] dX9_squares_11 rfl (Nat.le_of_ble_eq_true rfl) rfl ?_
  refine G.iconst 12 (0 : Int32) dX9_squares_12 (by decide +kernel) ?_
  refine G.istore_n 13 [(3, .int (0 : Int32)), (2, .int ((10 : Int32) - x1)), (0, .ref (zs Z + 284)), (1, .int x1)] dX9_squares_13 rfl (Nat.le_of_ble_eq_true rfl) rfl ?_
  refine G.iload_n 14 3 dX9_squares_14 rfl rfl ?_
  refine G.istore 15 [(4, .int x1), (3, .int (0 : Int32)), (2, .int ((10 : Int32) - x1)), (0, .ref (zs Z + 284)), (1, .int x1)] dX9_squares_15 (Nat.le_of_ble_eq_true rfl) rfl ?_
  refine G.locs [3, 2, 1, 0] rfl ?_
  exact l_X9_squares_17 Z X hR hq FU ((10 : Int32) - x1) (0 : Int32) x1 q3 hs1 hf
abbrev Y_X9_round : My := (cX9_round, RX9, 4)
def rm_X9_round : Room := { frames := 3, cells := 0, slots := 0, locals := 243 }
theorem dX9_round_0 : decode cX9_round 0 = .ok (.iload_n 1, 1) := by decide +kernel
theorem dX9_round_1 : decode cX9_round 1 = .ok (.iconst (-1), 1) := by decide +kernel
theorem dX9_round_2 : decode cX9_round 2 = .ok (.if_icmp .eq 23, 3) := by decide +kernel
theorem dX9_round_5 : decode cX9_round 5 = .ok (.iload_n 1, 1) := by decide +kernel
theorem dX9_round_6 : decode cX9_round 6 = .ok (.i2l, 1) := by decide +kernel
theorem dX9_round_7 : decode cX9_round 7 = .ok (.lconst 0, 1) := by decide +kernel
theorem dX9_round_8 : decode cX9_round 8 = .ok (.ldc2_w 70, 3) := by decide +kernel
theorem dX9_round_11 : decode cX9_round 11 = .ok (.invokestatic 62, 3) := by decide +kernel
theorem dX9_round_14 : decode cX9_round 14 = .ok (.ifCond .eq 9, 3) := by decide +kernel
theorem dX9_round_17 : decode cX9_round 17 = .ok (.iload_n 1, 1) := by decide +kernel
theorem dX9_round_18 : decode cX9_round 18 = .ok (.iconst 5, 1) := by decide +kernel
theorem dX9_round_19 : decode cX9_round 19 = .ok (.irem, 1) := by decide +kernel
theorem dX9_round_20 : decode cX9_round 20 = .ok (.ifCond .eq 5, 3) := by decide +kernel
theorem dX9_round_23 : decode cX9_round 23 = .ok (.iconst (-1), 1) := by decide +kernel
theorem dX9_round_24 : decode cX9_round 24 = .ok (.ireturn, 1) := by decide +kernel
theorem dX9_round_25 : decode cX9_round 25 = .ok (.iconst 0, 1) := by decide +kernel
theorem dX9_round_26 : decode cX9_round 26 = .ok (.istore_n 2, 1) := by decide +kernel
theorem dX9_round_27 : decode cX9_round 27 = .ok (.iconst 0, 1) := by decide +kernel
theorem dX9_round_28 : decode cX9_round 28 = .ok (.istore_n 3, 1) := by decide +kernel
theorem dX9_round_29 : decode cX9_round 29 = .ok (.iload_n 3, 1) := by decide +kernel
theorem dX9_round_30 : decode cX9_round 30 = .ok (.aload_n 0, 1) := by decide +kernel
theorem dX9_round_31 : decode cX9_round 31 = .ok (.getfield 9, 3) := by decide +kernel
theorem dX9_round_34 : decode cX9_round 34 = .ok (.sipush 1192, 3) := by decide +kernel
theorem dX9_round_37 : decode cX9_round 37 = .ok (.iaload, 1) := by decide +kernel
theorem dX9_round_38 : decode cX9_round 38 = .ok (.if_icmp .ge 58, 3) := by decide +kernel
theorem dX9_round_41 : decode cX9_round 41 = .ok (.iload_n 2, 1) := by decide +kernel
theorem dX9_round_42 : decode cX9_round 42 = .ok (.aload_n 0, 1) := by decide +kernel
theorem dX9_round_43 : decode cX9_round 43 = .ok (.iload_n 3, 1) := by decide +kernel
theorem dX9_round_44 : decode cX9_round 44 = .ok (.invokevirtual 97, 3) := by decide +kernel
theorem dX9_round_47 : decode cX9_round 47 = .ok (.ifCond .eq 40, 3) := by decide +kernel
theorem dX9_round_50 : decode cX9_round 50 = .ok (.aload_n 0, 1) := by decide +kernel
theorem dX9_round_51 : decode cX9_round 51 = .ok (.iload_n 3, 1) := by decide +kernel
theorem dX9_round_52 : decode cX9_round 52 = .ok (.bipush 9, 2) := by decide +kernel
theorem dX9_round_54 : decode cX9_round 54 = .ok (.invokevirtual 76, 3) := by decide +kernel
theorem dX9_round_57 : decode cX9_round 57 = .ok (.aload_n 0, 1) := by decide +kernel
theorem dX9_round_58 : decode cX9_round 58 = .ok (.iload_n 3, 1) := by decide +kernel
theorem dX9_round_59 : decode cX9_round 59 = .ok (.bipush 10, 2) := by decide +kernel
theorem dX9_round_61 : decode cX9_round 61 = .ok (.invokevirtual 76, 3) := by decide +kernel
theorem dX9_round_64 : decode cX9_round 64 = .ok (.invokestatic 134, 3) := by decide +kernel
theorem dX9_round_67 : decode cX9_round 67 = .ok (.ifCond .eq 20, 3) := by decide +kernel
theorem dX9_round_70 : decode cX9_round 70 = .ok (.iload_n 1, 1) := by decide +kernel
theorem dX9_round_71 : decode cX9_round 71 = .ok (.ifCond .lt 12, 3) := by decide +kernel
theorem dX9_round_74 : decode cX9_round 74 = .ok (.aload_n 0, 1) := by decide +kernel
theorem dX9_round_75 : decode cX9_round 75 = .ok (.iload_n 3, 1) := by decide +kernel
theorem dX9_round_76 : decode cX9_round 76 = .ok (.invokevirtual 100, 3) := by decide +kernel
theorem dX9_round_79 : decode cX9_round 79 = .ok (.iload_n 1, 1) := by decide +kernel
theorem dX9_round_80 : decode cX9_round 80 = .ok (.if_icmp .ne 7, 3) := by decide +kernel
theorem dX9_round_83 : decode cX9_round 83 = .ok (.iconst 1, 1) := by decide +kernel
theorem dX9_round_84 : decode cX9_round 84 = .ok (.goto 4, 3) := by decide +kernel
theorem dX9_round_87 : decode cX9_round 87 = .ok (.iconst 0, 1) := by decide +kernel
theorem dX9_round_88 : decode cX9_round 88 = .ok (.iadd, 1) := by decide +kernel
theorem dX9_round_89 : decode cX9_round 89 = .ok (.istore_n 2, 1) := by decide +kernel
theorem dX9_round_90 : decode cX9_round 90 = .ok (.iinc 3 1, 3) := by decide +kernel
theorem dX9_round_93 : decode cX9_round 93 = .ok (.goto (-64), 3) := by decide +kernel
theorem dX9_round_96 : decode cX9_round 96 = .ok (.iload_n 2, 1) := by decide +kernel
theorem dX9_round_97 : decode cX9_round 97 = .ok (.ireturn, 1) := by decide +kernel
def L_X9_round_29 : Nat → Int32 → Int32 → Int32 → Mem → Option Int32
  | 0, _, _, _, _ => none
  | n + 1, x1, x2, x3, M => if (mI M 285 1192) ≤ x3 then some x2 else (f_X9_has x3 M).bind fun q5 => if q5 = 0 then L_X9_round_29 n x1 (x2 + (0 : Int32)) (x3 + 1) M else (f_X9_get x3 (9 : Int32) M).bind fun q10 => (f_X9_get x3 (10 : Int32) M).bind fun q14 => (f_X9_isRound q10 q14).bind fun q18 => if q18 = 0 then L_X9_round_29 n x1 (x2 + (0 : Int32)) (x3 + 1) M else if x1 < 0 then L_X9_round_29 n x1 (x2 + (1 : Int32)) (x3 + 1) M else (f_X9_share x3 M).bind fun q24 => if q24 = x1 then L_X9_round_29 n x1 (x2 + (1 : Int32)) (x3 + 1) M else L_X9_round_29 n x1 (x2 + (0 : Int32)) (x3 + 1) M
def B_X9_round_25 (x1 : Int32) (M : Mem) : Option Int32 := L_X9_round_29 FU x1 (0 : Int32) (0 : Int32) M
def f_X9_round (x1 : Int32) (M : Mem) : Option Int32 := if x1 = (-1 : Int32) then B_X9_round_25 x1 M else if (f_X9_isIn x1.toInt64 (0 : Int64) (100 : Int64)) = 0 then some (-1 : Int32) else if (jrem x1 (5 : Int32)) = 0 then B_X9_round_25 x1 M else some (-1 : Int32)
set_option maxRecDepth 100000 in
set_option maxHeartbeats 4000000 in
theorem l_X9_round_29 (Z : Sys) (X : Cx) (hR : xR X = rm_X9_round) {q : Int32} {M : Mem} (hq : RetOk Z X (some .int) False (PostI q M) 0 0) : ∀ (n : Nat) (x1 : Int32) (x2 : Int32) (x3 : Int32) (hs : St M) (hf : L_X9_round_29 n x1 x2 x3 M = some q), G Z X Y_X9_round False 0 0 29 [(0, .ref (zs Z + 284)), (1, .int x1), (2, .int x2), (3, .int x3)] [] M := by
  intro n
  induction n with
  | zero => intro x1 x2 x3 hs  hf; cases hf
  | succ n ih =>
    intro x1 x2 x3 hs  hf
    unfold L_X9_round_29 at hf
    refine G.iload_n 29 3 dX9_round_29 rfl rfl ?_
    refine G.aload_n 30 0 dX9_round_30 rfl rfl ?_
    refine G.getp 31 ck_9 0 285 (hs.k k0_284) (pc_9_0 hs) (by decide) (by decide +kernel) wd_1305 dX9_round_31 ?_
    refine G.sipush 34 (1192 : Int32) dX9_round_34 (by decide +kernel) ?_
    refine G.ia 37 1192 (hs.k k0_285) (by decide +kernel) (by decide +kernel) dX9_round_37 ?_
    refine G.icmp_ge 38 96 dX9_round_38 (by decide) (fun h2 => ?_) (fun h2 => ?_)
    · replace hf := (if_pos h2).symm.trans hf
      refine G.iload_n 96 2 dX9_round_96 rfl rfl ?_
      (have hf9 := Option.some.inj hf; subst hf9)
      exact G.rI 97 hq dX9_round_97 hs
    · replace hf := (if_neg h2).symm.trans hf
      refine G.iload_n 41 2 dX9_round_41 rfl rfl ?_
      refine G.aload_n 42 0 dX9_round_42 rfl rfl ?_
      refine G.iload_n 43 3 dX9_round_43 rfl rfl ?_
      obtain ⟨q5, e6, hf⟩ := bd_e hf
      refine G.cvZ 44 (As := [.int x3]) ck_9 (hs.k k0_284) (c_X9_has Z hs x3 e6) mk_X9_has vk_X9_has rfl wd_1445 hR (by decide +kernel) ⟨rfl, rfl⟩ rfl (Nat.le_of_ble_eq_true rfl) dX9_round_44 (fun hs3 z4 => ?_)
      refine G.if_eq 47 87 dX9_round_47 (by decide) (fun h7 => ?_) (fun h7 => ?_)
      · replace hf := (if_pos h7).symm.trans hf
        refine G.iconst 87 (0 : Int32) dX9_round_87 (by decide +kernel) ?_
        refine G.iadd 88 dX9_round_88 ?_
        refine G.istore_n 89 [(2, .int (x2 + (0 : Int32))), (0, .ref (zs Z + 284)), (1, .int x1), (3, .int x3)] dX9_round_89 rfl (Nat.le_of_ble_eq_true rfl) rfl ?_
        refine G.iinc 90 3 (x3 + 1) [(3, .int (x3 + 1)), (2, .int (x2 + (0 : Int32))), (0, .ref (zs Z + 284)), (1, .int x1)] dX9_round_90 rfl (congrArg (fun z => x3 + z) (by decide +kernel)) (Nat.le_of_ble_eq_true rfl) rfl ?_
        refine G.goto 93 29 dX9_round_93 (by decide) ?_
        refine G.locs [2, 3, 1, 0] rfl ?_
        exact ih x1 (x2 + (0 : Int32)) (x3 + 1) hs3 hf
      · replace hf := (if_neg h7).symm.trans hf
        refine G.aload_n 50 0 dX9_round_50 rfl rfl ?_
        refine G.iload_n 51 3 dX9_round_51 rfl rfl ?_
        refine G.bipush 52 (9 : Int32) dX9_round_52 (by decide +kernel) ?_
        obtain ⟨q10, e11, hf⟩ := bd_e hf
        refine G.cvI 54 (As := [.int x3, .int (9 : Int32)]) ck_9 (hs3.k k0_284) (c_X9_get Z hs3 x3 (9 : Int32) e11) mk_X9_get vk_X9_get rfl wd_1411 hR (by decide +kernel) ⟨rfl, rfl⟩ rfl (Nat.le_of_ble_eq_true rfl) dX9_round_54 (fun hs8 => ?_)
        refine G.aload_n 57 0 dX9_round_57 rfl rfl ?_
        refine G.iload_n 58 3 dX9_round_58 rfl rfl ?_
        refine G.bipush 59 (10 : Int32) dX9_round_59 (by decide +kernel) ?_
        obtain ⟨q14, e15, hf⟩ := bd_e hf
        refine G.cvI 61 (As := [.int x3, .int (10 : Int32)]) ck_9 (hs8.k k0_284) (c_X9_get Z hs8 x3 (10 : Int32) e15) mk_X9_get vk_X9_get rfl wd_1411 hR (by decide +kernel) ⟨rfl, rfl⟩ rfl (Nat.le_of_ble_eq_true rfl) dX9_round_61 (fun hs12 => ?_)
        obtain ⟨q18, e19, hf⟩ := bd_e hf
        refine G.csZ 64 (As := [.int q10, .int q14]) (c_X9_isRound Z hs12 q10 q14 e19) mk_X9_isRound wd_1501 wd_1500 hR (by decide +kernel) ⟨rfl, rfl⟩ rfl (Nat.le_of_ble_eq_true rfl) dX9_round_64 (fun hs16 z17 => ?_)
        refine G.if_eq 67 87 dX9_round_67 (by decide) (fun h20 => ?_) (fun h20 => ?_)
        · replace hf := (if_pos h20).symm.trans hf
          refine G.iconst 87 (0 : Int32) dX9_round_87 (by decide +kernel) ?_
          refine G.iadd 88 dX9_round_88 ?_
          refine G.istore_n 89 [(2, .int (x2 + (0 : Int32))), (0, .ref (zs Z + 284)), (1, .int x1), (3, .int x3)] dX9_round_89 rfl (Nat.le_of_ble_eq_true rfl) rfl ?_
          refine G.iinc 90 3 (x3 + 1) [(3, .int (x3 + 1)), (2, .int (x2 + (0 : Int32))), (0, .ref (zs Z + 284)), (1, .int x1)] dX9_round_90 rfl (congrArg (fun z => x3 + z) (by decide +kernel)) (Nat.le_of_ble_eq_true rfl) rfl ?_
          refine G.goto 93 29 dX9_round_93 (by decide) ?_
          refine G.locs [2, 3, 1, 0] rfl ?_
          exact ih x1 (x2 + (0 : Int32)) (x3 + 1) hs16 hf
        · replace hf := (if_neg h20).symm.trans hf
          refine G.iload_n 70 1 dX9_round_70 rfl rfl ?_
          refine G.if_lt 71 83 dX9_round_71 (by decide) (fun h21 => ?_) (fun h21 => ?_)
          · replace hf := (if_pos h21).symm.trans hf
            refine G.iconst 83 (1 : Int32) dX9_round_83 (by decide +kernel) ?_
            refine G.goto 84 88 dX9_round_84 (by decide) ?_
            refine G.iadd 88 dX9_round_88 ?_
            refine G.istore_n 89 [(2, .int (x2 + (1 : Int32))), (0, .ref (zs Z + 284)), (1, .int x1), (3, .int x3)] dX9_round_89 rfl (Nat.le_of_ble_eq_true rfl) rfl ?_
            refine G.iinc 90 3 (x3 + 1) [(3, .int (x3 + 1)), (2, .int (x2 + (1 : Int32))), (0, .ref (zs Z + 284)), (1, .int x1)] dX9_round_90 rfl (congrArg (fun z => x3 + z) (by decide +kernel)) (Nat.le_of_ble_eq_true rfl) rfl ?_
            refine G.goto 93 29 dX9_round_93 (by decide) ?_
            refine G.locs [2, 3, 1, 0] rfl ?_
            exact ih x1 (x2 + (1 : Int32)) (x3 + 1) hs16 hf
          · replace hf := (if_neg h21).symm.trans hf
            refine G.aload_n 74 0 dX9_round_74 rfl rfl ?_
            refine G.iload_n 75 3 dX9_round_75 rfl rfl ?_
            obtain ⟨q24, e25, hf⟩ := bd_e hf
            refine G.cvI 76 (As := [.int x3]) ck_9 (hs16.k k0_284) (c_X9_share Z hs16 x3 e25) mk_X9_share vk_X9_share rfl wd_1449 hR (by decide +kernel) ⟨rfl, rfl⟩ rfl (Nat.le_of_ble_eq_true rfl) dX9_round_76 (fun hs22 => ?_)
            refine G.iload_n 79 1 dX9_round_79 rfl rfl ?_
            refine G.icmp_ne 80 87 dX9_round_80 (by decide) (fun h26 => ?_) (fun h26 => ?_)
            · replace hf := (if_neg h26).symm.trans hf
              refine G.iconst 87 (0 : Int32) dX9_round_87 (by decide +kernel) ?_
              refine G.iadd 88 dX9_round_88 ?_
              refine G.istore_n 89 [(2, .int (x2 + (0 : Int32))), (0, .ref (zs Z + 284)), (1, .int x1), (3, .int x3)] dX9_round_89 rfl (Nat.le_of_ble_eq_true rfl) rfl ?_
              refine G.iinc 90 3 (x3 + 1) [(3, .int (x3 + 1)), (2, .int (x2 + (0 : Int32))), (0, .ref (zs Z + 284)), (1, .int x1)] dX9_round_90 rfl (congrArg (fun z => x3 + z) (by decide +kernel)) (Nat.le_of_ble_eq_true rfl) rfl ?_
              refine G.goto 93 29 dX9_round_93 (by decide) ?_
              refine G.locs [2, 3, 1, 0] rfl ?_
              exact ih x1 (x2 + (0 : Int32)) (x3 + 1) hs22 hf
            · replace hf := (if_pos h26).symm.trans hf
              refine G.iconst 83 (1 : Int32) dX9_round_83 (by decide +kernel) ?_
              refine G.goto 84 88 dX9_round_84 (by decide) ?_
              refine G.iadd 88 dX9_round_88 ?_
              refine G.istore_n 89 [(2, .int (x2 + (1 : Int32))), (0, .ref (zs Z + 284)), (1, .int x1), (3, .int x3)] dX9_round_89 rfl (Nat.le_of_ble_eq_true rfl) rfl ?_
              refine G.iinc 90 3 (x3 + 1) [(3, .int (x3 + 1)), (2, .int (x2 + (1 : Int32))), (0, .ref (zs Z + 284)), (1, .int x1)] dX9_round_90 rfl (congrArg (fun z => x3 + z) (by decide +kernel)) (Nat.le_of_ble_eq_true rfl) rfl ?_
              refine G.goto 93 29 dX9_round_93 (by decide) ?_
              refine G.locs [2, 3, 1, 0] rfl ?_
              exact ih x1 (x2 + (1 : Int32)) (x3 + 1) hs22 hf
set_option maxRecDepth 100000 in
set_option maxHeartbeats 4000000 in
theorem b_X9_round_25 (Z : Sys) (X : Cx) (hR : xR X = rm_X9_round) {q : Int32} {M : Mem} (hq : RetOk Z X (some .int) False (PostI q M) 0 0) (x1 : Int32) (hs : St M) (hf : B_X9_round_25 x1 M = some q) : G Z X Y_X9_round False 0 0 25 [(0, .ref (zs Z + 284)), (1, .int x1)] [] M := by
  unfold B_X9_round_25 at hf
  refine G.iconst 25 (0 : Int32) dX9_round_25 (by decide +kernel) ?_
  refine G.istore_n 26 [(2, .int (0 : Int32)), (0, .ref (zs Z + 284)), (1, .int x1)] dX9_round_26 rfl (Nat.le_of_ble_eq_true rfl) rfl ?_
  refine G.iconst 27 (0 : Int32) dX9_round_27 (by decide +kernel) ?_
  refine G.istore_n 28 [(3, .int (0 : Int32)), (2, .int (0 : Int32)), (0, .ref (zs Z + 284)), (1, .int x1)] dX9_round_28 rfl (Nat.le_of_ble_eq_true rfl) rfl ?_
  refine G.locs [2, 3, 1, 0] rfl ?_
  exact l_X9_round_29 Z X hR hq FU x1 (0 : Int32) (0 : Int32) hs hf
set_option maxRecDepth 100000 in
set_option maxHeartbeats 4000000 in
theorem c_X9_round (Z : Sys) {M : Mem} (hs : St M) (x1 : Int32) {q : Int32} (hf : f_X9_round x1 M = some q) : Ct Z yX9_round cX9_round 4 (some .int) rm_X9_round [.ref (zs Z + 284), .int x1] M False (PostI q M) := by
  refine Ct.of (by decide +kernel) (Nat.le_of_ble_eq_true rfl) (fun X hR hq _ => ?_)
  show G Z X Y_X9_round False 0 0 0 [(0, .ref (zs Z + 284)), (1, .int x1)] [] M
  replace hq : RetOk Z X (some .int) False (PostI q M) 0 0 := hq
  unfold f_X9_round at hf
  refine G.iload_n 0 1 dX9_round_0 rfl rfl ?_
  refine G.iconst 1 (-1 : Int32) dX9_round_1 (by decide +kernel) ?_
  refine G.icmp_eq 2 25 dX9_round_2 (by decide) (fun h1 => ?_) (fun h1 => ?_)
  · replace hf := (if_pos h1).symm.trans hf
    exact b_X9_round_25 Z X hR hq x1 hs hf
  · replace hf := (if_neg h1).symm.trans hf
    refine G.iload_n 5 1 dX9_round_5 rfl rfl ?_
    refine G.i2l 6 dX9_round_6 ?_
    refine G.lconst 7 (0 : Int64) dX9_round_7 (by decide +kernel) ?_
    refine G.ldc2 8 (100 : Int64) wd_1402 dX9_round_8 ?_
    refine G.csZ 11 (As := [.long x1.toInt64, .long (0 : Int64), .long (100 : Int64)]) (c_X9_isIn Z hs x1.toInt64 (0 : Int64) (100 : Int64) rfl) mk_X9_isIn wd_1400 wd_1399 hR (by decide +kernel) ⟨rfl, rfl⟩ rfl (Nat.le_of_ble_eq_true rfl) dX9_round_11 (fun hs27 z28 => ?_)
    refine G.if_eq 14 23 dX9_round_14 (by decide) (fun h29 => ?_) (fun h29 => ?_)
    · replace hf := (if_pos h29).symm.trans hf
      refine G.iconst 23 (-1 : Int32) dX9_round_23 (by decide +kernel) ?_
      (have hf9 := Option.some.inj hf; subst hf9)
      exact G.rI 24 hq dX9_round_24 hs27
    · replace hf := (if_neg h29).symm.trans hf
      refine G.iload_n 17 1 dX9_round_17 rfl rfl ?_
      refine G.iconst 18 (5 : Int32) dX9_round_18 (by decide +kernel) ?_
      refine G.iremJ 19 dX9_round_19 (by decide +kernel) ?_
      refine G.if_eq 20 25 dX9_round_20 (by decide) (fun h30 => ?_) (fun h30 => ?_)
      · replace hf := (if_pos h30).symm.trans hf
        exact b_X9_round_25 Z X hR hq x1 hs27 hf
      · replace hf := (if_neg h30).symm.trans hf
        refine G.iconst 23 (-1 : Int32) dX9_round_23 (by decide +kernel) ?_
        (have hf9 := Option.some.inj hf; subst hf9)
        exact G.rI 24 hq dX9_round_24 hs27
