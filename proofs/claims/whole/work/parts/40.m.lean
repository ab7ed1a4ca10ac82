abbrev Y_X9_sum : My := (cX9_sum, RX9, 3)
def rm_X9_sum : Room := { frames := 5, cells := 0, slots := 0, locals := 289 }
theorem dX9_sum_0 : decode cX9_sum 0 = .ok (.iload_n 1, 1) := by decide +kernel
theorem dX9_sum_1 : decode cX9_sum 1 = .ok (.i2l, 1) := by decide +kernel
theorem dX9_sum_2 : decode cX9_sum 2 = .ok (.lconst 0, 1) := by decide +kernel
theorem dX9_sum_3 : decode cX9_sum 3 = .ok (.ldc2_w 160, 3) := by decide +kernel
theorem dX9_sum_6 : decode cX9_sum 6 = .ok (.invokestatic 62, 3) := by decide +kernel
theorem dX9_sum_9 : decode cX9_sum 9 = .ok (.ifCond .eq 15, 3) := by decide +kernel
theorem dX9_sum_12 : decode cX9_sum 12 = .ok (.iload_n 2, 1) := by decide +kernel
theorem dX9_sum_13 : decode cX9_sum 13 = .ok (.i2l, 1) := by decide +kernel
theorem dX9_sum_14 : decode cX9_sum 14 = .ok (.lconst 0, 1) := by decide +kernel
theorem dX9_sum_15 : decode cX9_sum 15 = .ok (.ldc2_w 167, 3) := by decide +kernel
theorem dX9_sum_18 : decode cX9_sum 18 = .ok (.invokestatic 62, 3) := by decide +kernel
theorem dX9_sum_21 : decode cX9_sum 21 = .ok (.ifCond .ne 6, 3) := by decide +kernel
theorem dX9_sum_24 : decode cX9_sum 24 = .ok (.ldc 140, 2) := by decide +kernel
theorem dX9_sum_26 : decode cX9_sum 26 = .ok (.ireturn, 1) := by decide +kernel
theorem dX9_sum_27 : decode cX9_sum 27 = .ok (.iload_n 2, 1) := by decide +kernel
theorem dX9_sum_28 : decode cX9_sum 28 = .ok (.iconst 2, 1) := by decide +kernel
theorem dX9_sum_29 : decode cX9_sum 29 = .ok (.if_icmp .ge 12, 3) := by decide +kernel
theorem dX9_sum_32 : decode cX9_sum 32 = .ok (.aload_n 0, 1) := by decide +kernel
theorem dX9_sum_33 : decode cX9_sum 33 = .ok (.iload_n 1, 1) := by decide +kernel
theorem dX9_sum_34 : decode cX9_sum 34 = .ok (.iload_n 2, 1) := by decide +kernel
theorem dX9_sum_35 : decode cX9_sum 35 = .ok (.invokevirtual 164, 3) := by decide +kernel
theorem dX9_sum_38 : decode cX9_sum 38 = .ok (.goto 36, 3) := by decide +kernel
theorem dX9_sum_41 : decode cX9_sum 41 = .ok (.iload_n 2, 1) := by decide +kernel
theorem dX9_sum_42 : decode cX9_sum 42 = .ok (.iconst 4, 1) := by decide +kernel
theorem dX9_sum_43 : decode cX9_sum 43 = .ok (.if_icmp .ge 14, 3) := by decide +kernel
theorem dX9_sum_46 : decode cX9_sum 46 = .ok (.aload_n 0, 1) := by decide +kernel
theorem dX9_sum_47 : decode cX9_sum 47 = .ok (.iload_n 1, 1) := by decide +kernel
theorem dX9_sum_48 : decode cX9_sum 48 = .ok (.iload_n 2, 1) := by decide +kernel
theorem dX9_sum_49 : decode cX9_sum 49 = .ok (.iconst 2, 1) := by decide +kernel
theorem dX9_sum_50 : decode cX9_sum 50 = .ok (.isub, 1) := by decide +kernel
theorem dX9_sum_51 : decode cX9_sum 51 = .ok (.invokevirtual 169, 3) := by decide +kernel
theorem dX9_sum_54 : decode cX9_sum 54 = .ok (.goto 20, 3) := by decide +kernel
theorem dX9_sum_57 : decode cX9_sum 57 = .ok (.aload_n 0, 1) := by decide +kernel
theorem dX9_sum_58 : decode cX9_sum 58 = .ok (.iload_n 1, 1) := by decide +kernel
theorem dX9_sum_59 : decode cX9_sum 59 = .ok (.iload_n 2, 1) := by decide +kernel
theorem dX9_sum_60 : decode cX9_sum 60 = .ok (.iconst 4, 1) := by decide +kernel
theorem dX9_sum_61 : decode cX9_sum 61 = .ok (.isub, 1) := by decide +kernel
theorem dX9_sum_62 : decode cX9_sum 62 = .ok (.invokevirtual 169, 3) := by decide +kernel
theorem dX9_sum_65 : decode cX9_sum 65 = .ok (.aload_n 0, 1) := by decide +kernel
theorem dX9_sum_66 : decode cX9_sum 66 = .ok (.iload_n 1, 1) := by decide +kernel
theorem dX9_sum_67 : decode cX9_sum 67 = .ok (.iload_n 2, 1) := by decide +kernel
theorem dX9_sum_68 : decode cX9_sum 68 = .ok (.iconst 4, 1) := by decide +kernel
theorem dX9_sum_69 : decode cX9_sum 69 = .ok (.isub, 1) := by decide +kernel
theorem dX9_sum_70 : decode cX9_sum 70 = .ok (.invokevirtual 164, 3) := by decide +kernel
theorem dX9_sum_73 : decode cX9_sum 73 = .ok (.isub, 1) := by decide +kernel
theorem dX9_sum_74 : decode cX9_sum 74 = .ok (.ireturn, 1) := by decide +kernel
def f_X9_sum (x1 : Int32) (x2 : Int32) (M : Mem) : Option Int32 := if (f_X9_isIn x1.toInt64 (0 : Int64) (3 : Int64)) = 0 then some (-1000000001 : Int32) else if (f_X9_isIn x2.toInt64 (0 : Int64) (5 : Int64)) = 0 then some (-1000000001 : Int32) else if (2 : Int32) ≤ x2 then if (4 : Int32) ≤ x2 then (f_X9_sentUp x1 (x2 - (4 : Int32)) M).bind fun q11 => (f_X9_written x1 (x2 - (4 : Int32)) M).bind fun q15 => some (q11 - q15) else (f_X9_sentUp x1 (x2 - (2 : Int32)) M).bind fun q19 => some q19 else (f_X9_written x1 x2 M).bind fun q23 => some q23
set_option maxRecDepth 100000 in
set_option maxHeartbeats 4000000 in
theorem c_X9_sum (Z : Sys) {M : Mem} (hs : St M) (x1 : Int32) (x2 : Int32) {q : Int32} (hf : f_X9_sum x1 x2 M = some q) : Ct Z yX9_sum cX9_sum 3 (some .int) rm_X9_sum [.ref (zs Z + 284), .int x1, .int x2] M False (PostI q M) := by
  refine Ct.of (by decide +kernel) (Nat.le_of_ble_eq_true rfl) (fun X hR hq _ => ?_)
  show G Z X Y_X9_sum False 0 0 0 [(0, .ref (zs Z + 284)), (1, .int x1), (2, .int x2)] [] M
  replace hq : RetOk Z X (some .int) False (PostI q M) 0 0 := hq
  unfold f_X9_sum at hf
  refine G.iload_n 0 1 dX9_sum_0 rfl rfl ?_
  refine G.i2l 1 dX9_sum_1 ?_
  refine G.lconst 2 (0 : Int64) dX9_sum_2 (by decide +kernel) ?_
  refine G.ldc2 3 (3 : Int64) wd_1556 dX9_sum_3 ?_
  refine G.csZ 6 (As := [.long x1.toInt64, .long (0 : Int64), .long (3 : Int64)]) (c_X9_isIn Z hs x1.toInt64 (0 : Int64) (3 : Int64) rfl) mk_X9_isIn wd_1400 wd_1399 hR (by decide +kernel) ⟨rfl, rfl⟩ rfl (Nat.le_of_ble_eq_true rfl) dX9_sum_6 (fun hs1 z2 => ?_)
  refine G.if_eq 9 24 dX9_sum_9 (by decide) (fun h3 => ?_) (fun h3 => ?_)
  · replace hf := (if_pos h3).symm.trans hf
    refine G.ldc 24 (-1000000001 : Int32) wd_1519 dX9_sum_24 ?_
    (have hf9 := Option.some.inj hf; subst hf9)
    exact G.rI 26 hq dX9_sum_26 hs1
  · replace hf := (if_neg h3).symm.trans hf
    refine G.iload_n 12 2 dX9_sum_12 rfl rfl ?_
    refine G.i2l 13 dX9_sum_13 ?_
    refine G.lconst 14 (0 : Int64) dX9_sum_14 (by decide +kernel) ?_
    refine G.ldc2 15 (5 : Int64) wd_1566 dX9_sum_15 ?_
    refine G.csZ 18 (As := [.long x2.toInt64, .long (0 : Int64), .long (5 : Int64)]) (c_X9_isIn Z hs1 x2.toInt64 (0 : Int64) (5 : Int64) rfl) mk_X9_isIn wd_1400 wd_1399 hR (by decide +kernel) ⟨rfl, rfl⟩ rfl (Nat.le_of_ble_eq_true rfl) dX9_sum_18 (fun hs4 z5 => ?_)
    refine G.if_ne 21 27 dX9_sum_21 (by decide) (fun h6 => ?_) (fun h6 => ?_)
    · replace hf := (if_neg h6).symm.trans hf
      refine G.iload_n 27 2 dX9_sum_27 rfl rfl ?_
      refine G.iconst 28 (2 : Int32) dX9_sum_28 (by decide +kernel) ?_
      refine G.icmp_ge 29 41 dX9_sum_29 (by decide) (fun h7 => ?_) (fun h7 => ?_)
      · replace hf := (if_pos h7).symm.trans hf
        refine G.iload_n 41 2 dX9_sum_41 rfl rfl ?_
        refine G.iconst 42 (4 : Int32) dX9_sum_42 (by decide +kernel) ?_
        refine G.icmp_ge 43 57 dX9_sum_43 (by decide) (fun h8 => ?_) (fun h8 => ?_)
        · replace hf := (if_pos h8).symm.trans hf
          refine G.aload_n 57 0 dX9_sum_57 rfl rfl ?_
          refine G.iload_n 58 1 dX9_sum_58 rfl rfl ?_
          refine G.iload_n 59 2 dX9_sum_59 rfl rfl ?_
          refine G.iconst 60 (4 : Int32) dX9_sum_60 (by decide +kernel) ?_
          refine G.isub 61 dX9_sum_61 ?_
          obtain ⟨q11, e12, hf⟩ := bd_e hf
          refine G.cvI 62 (As := [.int x1, .int (x2 - (4 : Int32))]) ck_9 (hs4.k k0_284) (c_X9_sentUp Z hs4 x1 (x2 - (4 : Int32)) e12) mk_X9_sentUp vk_X9_sentUp rfl wd_1571 hR (by decide +kernel) ⟨rfl, rfl⟩ rfl (Nat.le_of_ble_eq_true rfl) dX9_sum_62 (fun hs9 => ?_)
          refine G.aload_n 65 0 dX9_sum_65 rfl rfl ?_
          refine G.iload_n 66 1 dX9_sum_66 rfl rfl ?_
          refine G.iload_n 67 2 dX9_sum_67 rfl rfl ?_
          refine G.iconst 68 (4 : Int32) dX9_sum_68 (by decide +kernel) ?_
          refine G.isub 69 dX9_sum_69 ?_
          obtain ⟨q15, e16, hf⟩ := bd_e hf
          refine G.cvI 70 (As := [.int x1, .int (x2 - (4 : Int32))]) ck_9 (hs9.k k0_284) (c_X9_written Z hs9 x1 (x2 - (4 : Int32)) e16) mk_X9_written vk_X9_written rfl wd_1567 hR (by decide +kernel) ⟨rfl, rfl⟩ rfl (Nat.le_of_ble_eq_true rfl) dX9_sum_70 (fun hs13 => ?_)
          refine G.isub 73 dX9_sum_73 ?_
          (have hf9 := Option.some.inj hf; subst hf9)
          exact G.rI 74 hq dX9_sum_74 hs13
        · replace hf := (if_neg h8).symm.trans hf
          refine G.aload_n 46 0 dX9_sum_46 rfl rfl ?_
          refine G.iload_n 47 1 dX9_sum_47 rfl rfl ?_
          refine G.iload_n 48 2 dX9_sum_48 rfl rfl ?_
          refine G.iconst 49 (2 : Int32) dX9_sum_49 (by decide +kernel) ?_
          refine G.isub 50 dX9_sum_50 ?_
          obtain ⟨q19, e20, hf⟩ := bd_e hf
          refine G.cvI 51 (As := [.int x1, .int (x2 - (2 : Int32))]) ck_9 (hs4.k k0_284) (c_X9_sentUp Z hs4 x1 (x2 - (2 : Int32)) e20) mk_X9_sentUp vk_X9_sentUp rfl wd_1571 hR (by decide +kernel) ⟨rfl, rfl⟩ rfl (Nat.le_of_ble_eq_true rfl) dX9_sum_51 (fun hs17 => ?_)
          refine G.goto 54 74 dX9_sum_54 (by decide) ?_
          (have hf9 := Option.some.inj hf; subst hf9)
          exact G.rI 74 hq dX9_sum_74 hs17
      · replace hf := (if_neg h7).symm.trans hf
        refine G.aload_n 32 0 dX9_sum_32 rfl rfl ?_
        refine G.iload_n 33 1 dX9_sum_33 rfl rfl ?_
        refine G.iload_n 34 2 dX9_sum_34 rfl rfl ?_
        obtain ⟨q23, e24, hf⟩ := bd_e hf
        refine G.cvI 35 (As := [.int x1, .int x2]) ck_9 (hs4.k k0_284) (c_X9_written Z hs4 x1 x2 e24) mk_X9_written vk_X9_written rfl wd_1567 hR (by decide +kernel) ⟨rfl, rfl⟩ rfl (Nat.le_of_ble_eq_true rfl) dX9_sum_35 (fun hs21 => ?_)
        refine G.goto 38 74 dX9_sum_38 (by decide) ?_
        (have hf9 := Option.some.inj hf; subst hf9)
        exact G.rI 74 hq dX9_sum_74 hs21
    · replace hf := (if_pos h6).symm.trans hf
      refine G.ldc 24 (-1000000001 : Int32) wd_1519 dX9_sum_24 ?_
      (have hf9 := Option.some.inj hf; subst hf9)
      exact G.rI 26 hq dX9_sum_26 hs4
abbrev Y_X9_thrown : My := (cX9_thrown, RX9, 1)
def rm_X9_thrown : Room := { frames := 1, cells := 0, slots := 0, locals := 200 }
theorem dX9_thrown_0 : decode cX9_thrown 0 = .ok (.aload_n 0, 1) := by decide +kernel
theorem dX9_thrown_1 : decode cX9_thrown 1 = .ok (.getfield 58, 3) := by decide +kernel
theorem dX9_thrown_4 : decode cX9_thrown 4 = .ok (.ireturn, 1) := by decide +kernel
def f_X9_thrown (M : Mem) : Int32 := (mI M 284 9)
set_option maxRecDepth 100000 in
set_option maxHeartbeats 4000000 in
theorem c_X9_thrown (Z : Sys) {M : Mem} (hs : St M) {q : Int32} (hf : f_X9_thrown M = q) : Ct Z yX9_thrown cX9_thrown 1 (some .int) rm_X9_thrown [.ref (zs Z + 284)] M False (PostI q M) := by
  refine Ct.of (by decide +kernel) (Nat.le_of_ble_eq_true rfl) (fun X hR hq _ => ?_)
  show G Z X Y_X9_thrown False 0 0 0 [(0, .ref (zs Z + 284))] [] M
  replace hq : RetOk Z X (some .int) False (PostI q M) 0 0 := hq
  unfold f_X9_thrown at hf
  refine G.aload_n 0 0 dX9_thrown_0 rfl rfl ?_
  refine G.geti 1 ck_9 9 (hs.k k0_284) (by decide) (by decide +kernel) wd_1314 dX9_thrown_1 ?_
  subst hf
  exact G.rI 4 hq dX9_thrown_4 hs
abbrev Y_X9_wrongKept : My := (cX9_wrongKept, RX9, 2)
def rm_X9_wrongKept : Room := { frames := 3, cells := 0, slots := 0, locals := 245 }
theorem dX9_wrongKept_0 : decode cX9_wrongKept 0 = .ok (.iload_n 1, 1) := by decide +kernel
theorem dX9_wrongKept_1 : decode cX9_wrongKept 1 = .ok (.invokestatic 111, 3) := by decide +kernel
theorem dX9_wrongKept_4 : decode cX9_wrongKept 4 = .ok (.ifCond .ne 7, 3) := by decide +kernel
theorem dX9_wrongKept_7 : decode cX9_wrongKept 7 = .ok (.iconst (-1), 1) := by decide +kernel
theorem dX9_wrongKept_8 : decode cX9_wrongKept 8 = .ok (.goto 33, 3) := by decide +kernel
theorem dX9_wrongKept_11 : decode cX9_wrongKept 11 = .ok (.aload_n 0, 1) := by decide +kernel
theorem dX9_wrongKept_12 : decode cX9_wrongKept 12 = .ok (.getfield 16, 3) := by decide +kernel
theorem dX9_wrongKept_15 : decode cX9_wrongKept 15 = .ok (.iload_n 1, 1) := by decide +kernel
theorem dX9_wrongKept_16 : decode cX9_wrongKept 16 = .ok (.iaload, 1) := by decide +kernel
theorem dX9_wrongKept_17 : decode cX9_wrongKept 17 = .ok (.ifCond .ne 8, 3) := by decide +kernel
theorem dX9_wrongKept_20 : decode cX9_wrongKept 20 = .ok (.bipush (-11), 2) := by decide +kernel
theorem dX9_wrongKept_22 : decode cX9_wrongKept 22 = .ok (.goto 19, 3) := by decide +kernel
theorem dX9_wrongKept_25 : decode cX9_wrongKept 25 = .ok (.aload_n 0, 1) := by decide +kernel
theorem dX9_wrongKept_26 : decode cX9_wrongKept 26 = .ok (.getfield 16, 3) := by decide +kernel
theorem dX9_wrongKept_29 : decode cX9_wrongKept 29 = .ok (.iload_n 1, 1) := by decide +kernel
theorem dX9_wrongKept_30 : decode cX9_wrongKept 30 = .ok (.iaload, 1) := by decide +kernel
theorem dX9_wrongKept_31 : decode cX9_wrongKept 31 = .ok (.iconst 1, 1) := by decide +kernel
theorem dX9_wrongKept_32 : decode cX9_wrongKept 32 = .ok (.if_icmp .ne 7, 3) := by decide +kernel
theorem dX9_wrongKept_35 : decode cX9_wrongKept 35 = .ok (.iconst 0, 1) := by decide +kernel
theorem dX9_wrongKept_36 : decode cX9_wrongKept 36 = .ok (.goto 5, 3) := by decide +kernel
theorem dX9_wrongKept_39 : decode cX9_wrongKept 39 = .ok (.bipush (-12), 2) := by decide +kernel
theorem dX9_wrongKept_41 : decode cX9_wrongKept 41 = .ok (.ireturn, 1) := by decide +kernel
def f_X9_wrongKept (x1 : Int32) (M : Mem) : Option Int32 := if (f_X9_isShelf x1) = 0 then some (-1 : Int32) else gd (inR x1 8) (if (mI M 287 x1.toNatClampNeg) = 0 then some (-11 : Int32) else if (mI M 287 x1.toNatClampNeg) = (1 : Int32) then some (0 : Int32) else some (-12 : Int32))
set_option maxRecDepth 100000 in
set_option maxHeartbeats 4000000 in
theorem c_X9_wrongKept (Z : Sys) {M : Mem} (hs : St M) (x1 : Int32) {q : Int32} (hf : f_X9_wrongKept x1 M = some q) : Ct Z yX9_wrongKept cX9_wrongKept 2 (some .int) rm_X9_wrongKept [.ref (zs Z + 284), .int x1] M False (PostI q M) := by
  refine Ct.of (by decide +kernel) (Nat.le_of_ble_eq_true rfl) (fun X hR hq _ => ?_)
  show G Z X Y_X9_wrongKept False 0 0 0 [(0, .ref (zs Z + 284)), (1, .int x1)] [] M
  replace hq : RetOk Z X (some .int) False (PostI q M) 0 0 := hq
  unfold f_X9_wrongKept at hf
  refine G.iload_n 0 1 dX9_wrongKept_0 rfl rfl ?_
  refine G.csZ 1 (As := [.int x1]) (c_X9_isShelf Z hs x1 rfl) mk_X9_isShelf wd_1470 wd_1469 hR (by decide +kernel) ⟨rfl, rfl⟩ rfl (Nat.le_of_ble_eq_true rfl) dX9_wrongKept_1 (fun hs1 z2 => ?_)
  refine G.if_ne 4 11 dX9_wrongKept_4 (by decide) (fun h3 => ?_) (fun h3 => ?_)
  · replace hf := (if_neg h3).symm.trans hf
    refine G.aload_n 11 0 dX9_wrongKept_11 rfl rfl ?_
    refine G.getp 12 ck_9 2 287 (hs1.k k0_284) (pc_9_2 hs1) (by decide) (by decide +kernel) wd_1307 dX9_wrongKept_12 ?_
    refine G.iload_n 15 1 dX9_wrongKept_15 rfl rfl ?_
    obtain ⟨g4, hf⟩ := gd_e hf
    refine G.ia 16 x1.toNatClampNeg (hs1.k k0_287) g4 rfl dX9_wrongKept_16 ?_
    refine G.if_ne 17 25 dX9_wrongKept_17 (by decide) (fun h5 => ?_) (fun h5 => ?_)
    · replace hf := (if_neg h5).symm.trans hf
      refine G.aload_n 25 0 dX9_wrongKept_25 rfl rfl ?_
      refine G.getp 26 ck_9 2 287 (hs1.k k0_284) (pc_9_2 hs1) (by decide) (by decide +kernel) wd_1307 dX9_wrongKept_26 ?_
      refine G.iload_n 29 1 dX9_wrongKept_29 rfl rfl ?_
      refine G.ia 30 x1.toNatClampNeg (hs1.k k0_287) g4 rfl dX9_wrongKept_30 ?_
      refine G.iconst 31 (1 : Int32) dX9_wrongKept_31 (by decide +kernel) ?_
      refine G.icmp_ne 32 39 dX9_wrongKept_32 (by decide) (fun h6 => ?_) (fun h6 => ?_)
      · replace hf := (if_neg h6).symm.trans hf
        refine G.bipush 39 (-12 : Int32) dX9_wrongKept_39 (by decide +kernel) ?_
        (have hf9 := Option.some.inj hf; subst hf9)
        exact G.rI 41 hq dX9_wrongKept_41 hs1
      · replace hf := (if_pos h6).symm.trans hf
        refine G.iconst 35 (0 : Int32) dX9_wrongKept_35 (by decide +kernel) ?_
        refine G.goto 36 41 dX9_wrongKept_36 (by decide) ?_
        (have hf9 := Option.some.inj hf; subst hf9)
        exact G.rI 41 hq dX9_wrongKept_41 hs1
    · replace hf := (if_pos h5).symm.trans hf
      refine G.bipush 20 (-11 : Int32) dX9_wrongKept_20 (by decide +kernel) ?_
      refine G.goto 22 41 dX9_wrongKept_22 (by decide) ?_
      (have hf9 := Option.some.inj hf; subst hf9)
      exact G.rI 41 hq dX9_wrongKept_41 hs1
  · replace hf := (if_pos h3).symm.trans hf
    refine G.iconst 7 (-1 : Int32) dX9_wrongKept_7 (by decide +kernel) ?_
    refine G.goto 8 41 dX9_wrongKept_8 (by decide) ?_
    (have hf9 := Option.some.inj hf; subst hf9)
    exact G.rI 41 hq dX9_wrongKept_41 hs1
abbrev Y_X9_toss : My := (cX9_toss, RX9, 3)
def rm_X9_toss : Room := { frames := 4, cells := 0, slots := 0, locals := 266 }
theorem dX9_toss_0 : decode cX9_toss 0 = .ok (.aload_n 0, 1) := by decide +kernel
theorem dX9_toss_1 : decode cX9_toss 1 = .ok (.iload_n 1, 1) := by decide +kernel
theorem dX9_toss_2 : decode cX9_toss 2 = .ok (.invokevirtual 301, 3) := by decide +kernel
theorem dX9_toss_5 : decode cX9_toss 5 = .ok (.istore_n 2, 1) := by decide +kernel
theorem dX9_toss_6 : decode cX9_toss 6 = .ok (.iload_n 2, 1) := by decide +kernel
theorem dX9_toss_7 : decode cX9_toss 7 = .ok (.ifCond .eq 7, 3) := by decide +kernel
theorem dX9_toss_10 : decode cX9_toss 10 = .ok (.iload_n 2, 1) := by decide +kernel
theorem dX9_toss_11 : decode cX9_toss 11 = .ok (.goto 9, 3) := by decide +kernel
theorem dX9_toss_14 : decode cX9_toss 14 = .ok (.aload_n 0, 1) := by decide +kernel
theorem dX9_toss_15 : decode cX9_toss 15 = .ok (.getfield 31, 3) := by decide +kernel
theorem dX9_toss_18 : decode cX9_toss 18 = .ok (.iload_n 1, 1) := by decide +kernel
theorem dX9_toss_19 : decode cX9_toss 19 = .ok (.iaload, 1) := by decide +kernel
theorem dX9_toss_20 : decode cX9_toss 20 = .ok (.ireturn, 1) := by decide +kernel
def f_X9_toss (x1 : Int32) (M : Mem) : Option Int32 := (f_X9_wrongKept x1 M).bind fun q3 => if q3 = 0 then gd (inR x1 8) (some (mI M 292 x1.toNatClampNeg)) else some q3
set_option maxRecDepth 100000 in
set_option maxHeartbeats 4000000 in
theorem c_X9_toss (Z : Sys) {M : Mem} (hs : St M) (x1 : Int32) {q : Int32} (hf : f_X9_toss x1 M = some q) : Ct Z yX9_toss cX9_toss 3 (some .int) rm_X9_toss [.ref (zs Z + 284), .int x1] M False (PostI q M) := by
  refine Ct.of (by decide +kernel) (Nat.le_of_ble_eq_true rfl) (fun X hR hq _ => ?_)
  show G Z X Y_X9_toss False 0 0 0 [(0, .ref (zs Z + 284)), (1, .int x1)] [] M
  replace hq : RetOk Z X (some .int) False (PostI q M) 0 0 := hq
  unfold f_X9_toss at hf
  refine G.aload_n 0 0 dX9_toss_0 rfl rfl ?_
  refine G.iload_n 1 1 dX9_toss_1 rfl rfl ?_
  obtain ⟨q3, e4, hf⟩ := bd_e hf
  refine G.cvI 2 (As := [.int x1]) ck_9 (hs.k k0_284) (c_X9_wrongKept Z hs x1 e4) mk_X9_wrongKept vk_X9_wrongKept rfl wd_1776 hR (by decide +kernel) ⟨rfl, rfl⟩ rfl (Nat.le_of_ble_eq_true rfl) dX9_toss_2 (fun hs1 => ?_)
  refine G.istore_n 5 [(2, .int q3), (0, .ref (zs Z + 284)), (1, .int x1)] dX9_toss_5 rfl (Nat.le_of_ble_eq_true rfl) rfl ?_
  refine G.iload_n 6 0 dX9_toss_6 rfl rfl ?_
  refine G.if_eq 7 14 dX9_toss_7 (by decide) (fun h5 => ?_) (fun h5 => ?_)
  · replace hf := (if_pos h5).symm.trans hf
    refine G.aload_n 14 1 dX9_toss_14 rfl rfl ?_
    refine G.getp 15 ck_9 7 292 (hs1.k k0_284) (pc_9_7 hs1) (by decide) (by decide +kernel) wd_1312 dX9_toss_15 ?_
    refine G.iload_n 18 2 dX9_toss_18 rfl rfl ?_
    obtain ⟨g6, hf⟩ := gd_e hf
    refine G.ia 19 x1.toNatClampNeg (hs1.k k0_292) g6 rfl dX9_toss_19 ?_
    (have hf9 := Option.some.inj hf; subst hf9)
    exact G.rI 20 hq dX9_toss_20 hs1
  · replace hf := (if_neg h5).symm.trans hf
    refine G.iload_n 10 0 dX9_toss_10 rfl rfl ?_
    refine G.goto 11 20 dX9_toss_11 (by decide) ?_
    (have hf9 := Option.some.inj hf; subst hf9)
    exact G.rI 20 hq dX9_toss_20 hs1
abbrev Y_X9_truly : My := (cX9_truly, RX9, 4)
def rm_X9_truly : Room := { frames := 3, cells := 0, slots := 0, locals := 246 }
theorem dX9_truly_0 : decode cX9_truly 0 = .ok (.aload_n 0, 1) := by decide +kernel
theorem dX9_truly_1 : decode cX9_truly 1 = .ok (.iload_n 1, 1) := by decide +kernel
theorem dX9_truly_2 : decode cX9_truly 2 = .ok (.invokevirtual 72, 3) := by decide +kernel
theorem dX9_truly_5 : decode cX9_truly 5 = .ok (.ifCond .eq 30, 3) := by decide +kernel
theorem dX9_truly_8 : decode cX9_truly 8 = .ok (.iload_n 2, 1) := by decide +kernel
theorem dX9_truly_9 : decode cX9_truly 9 = .ok (.i2l, 1) := by decide +kernel
theorem dX9_truly_10 : decode cX9_truly 10 = .ok (.lconst 0, 1) := by decide +kernel
theorem dX9_truly_11 : decode cX9_truly 11 = .ok (.aload_n 0, 1) := by decide +kernel
theorem dX9_truly_12 : decode cX9_truly 12 = .ok (.iload_n 1, 1) := by decide +kernel
theorem dX9_truly_13 : decode cX9_truly 13 = .ok (.iconst 0, 1) := by decide +kernel
theorem dX9_truly_14 : decode cX9_truly 14 = .ok (.invokevirtual 76, 3) := by decide +kernel
theorem dX9_truly_17 : decode cX9_truly 17 = .ok (.i2l, 1) := by decide +kernel
theorem dX9_truly_18 : decode cX9_truly 18 = .ok (.invokestatic 62, 3) := by decide +kernel
theorem dX9_truly_21 : decode cX9_truly 21 = .ok (.ifCond .eq 14, 3) := by decide +kernel
theorem dX9_truly_24 : decode cX9_truly 24 = .ok (.iload_n 3, 1) := by decide +kernel
theorem dX9_truly_25 : decode cX9_truly 25 = .ok (.i2l, 1) := by decide +kernel
theorem dX9_truly_26 : decode cX9_truly 26 = .ok (.lconst 0, 1) := by decide +kernel
theorem dX9_truly_27 : decode cX9_truly 27 = .ok (.iload_n 2, 1) := by decide +kernel
theorem dX9_truly_28 : decode cX9_truly 28 = .ok (.i2l, 1) := by decide +kernel
theorem dX9_truly_29 : decode cX9_truly 29 = .ok (.invokestatic 62, 3) := by decide +kernel
theorem dX9_truly_32 : decode cX9_truly 32 = .ok (.ifCond .ne 5, 3) := by decide +kernel
theorem dX9_truly_35 : decode cX9_truly 35 = .ok (.iconst (-1), 1) := by decide +kernel
theorem dX9_truly_36 : decode cX9_truly 36 = .ok (.ireturn, 1) := by decide +kernel
theorem dX9_truly_37 : decode cX9_truly 37 = .ok (.aload_n 0, 1) := by decide +kernel
theorem dX9_truly_38 : decode cX9_truly 38 = .ok (.getfield 9, 3) := by decide +kernel
theorem dX9_truly_41 : decode cX9_truly 41 = .ok (.bipush 12, 2) := by decide +kernel
theorem dX9_truly_43 : decode cX9_truly 43 = .ok (.iload_n 1, 1) := by decide +kernel
theorem dX9_truly_44 : decode cX9_truly 44 = .ok (.imul, 1) := by decide +kernel
theorem dX9_truly_45 : decode cX9_truly 45 = .ok (.bipush 6, 2) := by decide +kernel
theorem dX9_truly_47 : decode cX9_truly 47 = .ok (.iadd, 1) := by decide +kernel
theorem dX9_truly_48 : decode cX9_truly 48 = .ok (.iload_n 3, 1) := by decide +kernel
theorem dX9_truly_49 : decode cX9_truly 49 = .ok (.iastore, 1) := by decide +kernel
theorem dX9_truly_50 : decode cX9_truly 50 = .ok (.aload_n 0, 1) := by decide +kernel
theorem dX9_truly_51 : decode cX9_truly 51 = .ok (.bipush 12, 2) := by decide +kernel
theorem dX9_truly_53 : decode cX9_truly 53 = .ok (.iload_n 1, 1) := by decide +kernel
theorem dX9_truly_54 : decode cX9_truly 54 = .ok (.imul, 1) := by decide +kernel
theorem dX9_truly_55 : decode cX9_truly 55 = .ok (.iconst 5, 1) := by decide +kernel
theorem dX9_truly_56 : decode cX9_truly 56 = .ok (.iadd, 1) := by decide +kernel
theorem dX9_truly_57 : decode cX9_truly 57 = .ok (.iload_n 2, 1) := by decide +kernel
theorem dX9_truly_58 : decode cX9_truly 58 = .ok (.invokevirtual 80, 3) := by decide +kernel
theorem dX9_truly_61 : decode cX9_truly 61 = .ok (.ireturn, 1) := by decide +kernel
def f_X9_truly (x1 : Int32) (x2 : Int32) (x3 : Int32) (M : Mem) : Option (Int32 × Mem) := if (f_X9_isHall x1 M) = 0 then some ((-1 : Int32), M) else (f_X9_get x1 (0 : Int32) M).bind fun q6 => if (f_X9_isIn x2.toInt64 (0 : Int64) q6.toInt64) = 0 then some ((-1 : Int32), M) else if (f_X9_isIn x3.toInt64 (0 : Int64) x2.toInt64) = 0 then some ((-1 : Int32), M) else gd (inR (((12 : Int32) * x1) + (6 : Int32)) 1194) ((f_X9_becomes (((12 : Int32) * x1) + (5 : Int32)) x2 (sI M 285 (((12 : Int32) * x1) + (6 : Int32)).toNatClampNeg x3)).bind fun q17 => some (q17.1, q17.2))
set_option maxRecDepth 100000 in
set_option maxHeartbeats 4000000 in
theorem c_X9_truly (Z : Sys) {M : Mem} (hs : St M) (x1 : Int32) (x2 : Int32) (x3 : Int32) {q : Int32 × Mem} (hf : f_X9_truly x1 x2 x3 M = some q) : Ct Z yX9_truly cX9_truly 4 (some .int) rm_X9_truly [.ref (zs Z + 284), .int x1, .int x2, .int x3] M False (PostI q.1 q.2) := by
  refine Ct.of (by decide +kernel) (Nat.le_of_ble_eq_true rfl) (fun X hR hq _ => ?_)
  show G Z X Y_X9_truly False 0 0 0 [(0, .ref (zs Z + 284)), (1, .int x1), (2, .int x2), (3, .int x3)] [] M
  replace hq : RetOk Z X (some .int) False (PostI q.1 q.2) 0 0 := hq
  unfold f_X9_truly at hf
  refine G.aload_n 0 0 dX9_truly_0 rfl rfl ?_
  refine G.iload_n 1 1 dX9_truly_1 rfl rfl ?_
  refine G.cvZ 2 (As := [.int x1]) ck_9 (hs.k k0_284) (c_X9_isHall Z hs x1 rfl) mk_X9_isHall vk_X9_isHall rfl wd_1407 hR (by decide +kernel) ⟨rfl, rfl⟩ rfl (Nat.le_of_ble_eq_true rfl) dX9_truly_2 (fun hs1 z2 => ?_)
  refine G.if_eq 5 35 dX9_truly_5 (by decide) (fun h3 => ?_) (fun h3 => ?_)
  · replace hf := (if_pos h3).symm.trans hf
    refine G.iconst 35 (-1 : Int32) dX9_truly_35 (by decide +kernel) ?_
    (have hf9 := Option.some.inj hf; subst hf9)
    exact G.rI 36 hq dX9_truly_36 hs1
  · replace hf := (if_neg h3).symm.trans hf
    refine G.iload_n 8 2 dX9_truly_8 rfl rfl ?_
    refine G.i2l 9 dX9_truly_9 ?_
    refine G.lconst 10 (0 : Int64) dX9_truly_10 (by decide +kernel) ?_
    refine G.aload_n 11 0 dX9_truly_11 rfl rfl ?_
    refine G.iload_n 12 1 dX9_truly_12 rfl rfl ?_
    refine G.iconst 13 (0 : Int32) dX9_truly_13 (by decide +kernel) ?_
    obtain ⟨q6, e7, hf⟩ := bd_e hf
    refine G.cvI 14 (As := [.int x1, .int (0 : Int32)]) ck_9 (hs1.k k0_284) (c_X9_get Z hs1 x1 (0 : Int32) e7) mk_X9_get vk_X9_get rfl wd_1411 hR (by decide +kernel) ⟨rfl, rfl⟩ rfl (Nat.le_of_ble_eq_true rfl) dX9_truly_14 (fun hs4 => ?_)
    refine G.i2l 17 dX9_truly_17 ?_
    refine G.csZ 18 (As := [.long x2.toInt64, .long (0 : Int64), .long q6.toInt64]) (c_X9_isIn Z hs4 x2.toInt64 (0 : Int64) q6.toInt64 rfl) mk_X9_isIn wd_1400 wd_1399 hR (by decide +kernel) ⟨rfl, rfl⟩ rfl (Nat.le_of_ble_eq_true rfl) dX9_truly_18 (fun hs8 z9 => ?_)
    refine G.if_eq 21 35 dX9_truly_21 (by decide) (fun h10 => ?_) (fun h10 => ?_)
    · replace hf := (if_pos h10).symm.trans hf
      refine G.iconst 35 (-1 : Int32) dX9_truly_35 (by decide +kernel) ?_
      (have hf9 := Option.some.inj hf; subst hf9)
      exact G.rI 36 hq dX9_truly_36 hs8
    · replace hf := (if_neg h10).symm.trans hf
      refine G.iload_n 24 3 dX9_truly_24 rfl rfl ?_
      refine G.i2l 25 dX9_truly_25 ?_
      refine G.lconst 26 (0 : Int64) dX9_truly_26 (by decide +kernel) ?_
      refine G.iload_n 27 2 dX9_truly_27 rfl rfl ?_
      refine G.i2l 28 dX9_truly_28 ?_
      refine G.csZ 29 (As := [.long x3.toInt64, .long (0 : Int64), .long x2.toInt64]) (c_X9_isIn Z hs8 x3.toInt64 (0 : Int64) x2.toInt64 rfl) mk_X9_isIn wd_1400 wd_1399 hR (by decide +kernel) ⟨rfl, rfl⟩ rfl (Nat.le_of_ble_eq_true rfl) dX9_truly_29 (fun hs11 z12 => ?_)
      refine G.if_ne 32 37 dX9_truly_32 (by decide) (fun h13 => ?_) (fun h13 => ?_)
      · replace hf := (if_neg h13).symm.trans hf
        refine G.aload_n 37 0 dX9_truly_37 rfl rfl ?_
        refine G.getp 38 ck_9 0 285 (hs11.k k0_284) (pc_9_0 hs11) (by decide) (by decide +kernel) wd_1305 dX9_truly_38 ?_
        refine G.bipush 41 (12 : Int32) dX9_truly_41 (by decide +kernel) ?_
        refine G.iload_n 43 1 dX9_truly_43 rfl rfl ?_
        refine G.imul 44 dX9_truly_44 ?_
        refine G.bipush 45 (6 : Int32) dX9_truly_45 (by decide +kernel) ?_
        refine G.iadd 47 dX9_truly_47 ?_
        refine G.iload_n 48 3 dX9_truly_48 rfl rfl ?_
        obtain ⟨g14, hf⟩ := gd_e hf
        refine G.ist 49 (((12 : Int32) * x1) + (6 : Int32)).toNatClampNeg (hs11.k k0_285) g14 rfl dX9_truly_49 ?_
        refine G.aload_n 50 0 dX9_truly_50 rfl rfl ?_
        refine G.bipush 51 (12 : Int32) dX9_truly_51 (by decide +kernel) ?_
        refine G.iload_n 53 1 dX9_truly_53 rfl rfl ?_
        refine G.imul 54 dX9_truly_54 ?_
        refine G.iconst 55 (5 : Int32) dX9_truly_55 (by decide +kernel) ?_
        refine G.iadd 56 dX9_truly_56 ?_
        refine G.iload_n 57 2 dX9_truly_57 rfl rfl ?_
        obtain ⟨q17, e18, hf⟩ := bd_e hf
        refine G.cvI 58 (As := [.int (((12 : Int32) * x1) + (5 : Int32)), .int x2]) ck_9 ((St.i hs11).k k0_284) (c_X9_becomes Z (St.i hs11) (((12 : Int32) * x1) + (5 : Int32)) x2 e18) mk_X9_becomes vk_X9_becomes rfl wd_1415 hR (by decide +kernel) ⟨rfl, rfl⟩ rfl (Nat.le_of_ble_eq_true rfl) dX9_truly_58 (fun hs15 => ?_)
        (have hf9 := Option.some.inj hf; subst hf9)
        exact G.rI 61 hq dX9_truly_61 hs15
      · replace hf := (if_pos h13).symm.trans hf
        refine G.iconst 35 (-1 : Int32) dX9_truly_35 (by decide +kernel) ?_
        (have hf9 := Option.some.inj hf; subst hf9)
        exact G.rI 36 hq dX9_truly_36 hs11
abbrev Y_X9_trulyAll : My := (cX9_trulyAll, RX9, 4)
def rm_X9_trulyAll : Room := { frames := 3, cells := 0, slots := 0, locals := 246 }
theorem dX9_trulyAll_0 : decode cX9_trulyAll 0 = .ok (.aload_n 0, 1) := by decide +kernel
theorem dX9_trulyAll_1 : decode cX9_trulyAll 1 = .ok (.iload_n 1, 1) := by decide +kernel
theorem dX9_trulyAll_2 : decode cX9_trulyAll 2 = .ok (.invokevirtual 72, 3) := by decide +kernel
theorem dX9_trulyAll_5 : decode cX9_trulyAll 5 = .ok (.ifCond .ne 5, 3) := by decide +kernel
theorem dX9_trulyAll_8 : decode cX9_trulyAll 8 = .ok (.iconst (-1), 1) := by decide +kernel
theorem dX9_trulyAll_9 : decode cX9_trulyAll 9 = .ok (.ireturn, 1) := by decide +kernel
theorem dX9_trulyAll_10 : decode cX9_trulyAll 10 = .ok (.aload_n 0, 1) := by decide +kernel
theorem dX9_trulyAll_11 : decode cX9_trulyAll 11 = .ok (.iload_n 1, 1) := by decide +kernel
theorem dX9_trulyAll_12 : decode cX9_trulyAll 12 = .ok (.bipush 9, 2) := by decide +kernel
theorem dX9_trulyAll_14 : decode cX9_trulyAll 14 = .ok (.invokevirtual 76, 3) := by decide +kernel
theorem dX9_trulyAll_17 : decode cX9_trulyAll 17 = .ok (.aload_n 0, 1) := by decide +kernel
theorem dX9_trulyAll_18 : decode cX9_trulyAll 18 = .ok (.iload_n 1, 1) := by decide +kernel
theorem dX9_trulyAll_19 : decode cX9_trulyAll 19 = .ok (.iconst 0, 1) := by decide +kernel
theorem dX9_trulyAll_20 : decode cX9_trulyAll 20 = .ok (.invokevirtual 76, 3) := by decide +kernel
theorem dX9_trulyAll_23 : decode cX9_trulyAll 23 = .ok (.if_icmp .ne 19, 3) := by decide +kernel
theorem dX9_trulyAll_26 : decode cX9_trulyAll 26 = .ok (.aload_n 0, 1) := by decide +kernel
theorem dX9_trulyAll_27 : decode cX9_trulyAll 27 = .ok (.iload_n 1, 1) := by decide +kernel
theorem dX9_trulyAll_28 : decode cX9_trulyAll 28 = .ok (.bipush 10, 2) := by decide +kernel
theorem dX9_trulyAll_30 : decode cX9_trulyAll 30 = .ok (.invokevirtual 76, 3) := by decide +kernel
theorem dX9_trulyAll_33 : decode cX9_trulyAll 33 = .ok (.aload_n 0, 1) := by decide +kernel
theorem dX9_trulyAll_34 : decode cX9_trulyAll 34 = .ok (.iload_n 1, 1) := by decide +kernel
theorem dX9_trulyAll_35 : decode cX9_trulyAll 35 = .ok (.iconst 0, 1) := by decide +kernel
theorem dX9_trulyAll_36 : decode cX9_trulyAll 36 = .ok (.invokevirtual 76, 3) := by decide +kernel
theorem dX9_trulyAll_39 : decode cX9_trulyAll 39 = .ok (.if_icmp .eq 6, 3) := by decide +kernel
theorem dX9_trulyAll_42 : decode cX9_trulyAll 42 = .ok (.bipush (-4), 2) := by decide +kernel
theorem dX9_trulyAll_44 : decode cX9_trulyAll 44 = .ok (.ireturn, 1) := by decide +kernel
theorem dX9_trulyAll_45 : decode cX9_trulyAll 45 = .ok (.iconst 0, 1) := by decide +kernel
theorem dX9_trulyAll_46 : decode cX9_trulyAll 46 = .ok (.istore_n 2, 1) := by decide +kernel
theorem dX9_trulyAll_47 : decode cX9_trulyAll 47 = .ok (.iconst 0, 1) := by decide +kernel
theorem dX9_trulyAll_48 : decode cX9_trulyAll 48 = .ok (.istore_n 3, 1) := by decide +kernel
theorem dX9_trulyAll_49 : decode cX9_trulyAll 49 = .ok (.iload_n 3, 1) := by decide +kernel
theorem dX9_trulyAll_50 : decode cX9_trulyAll 50 = .ok (.aload_n 0, 1) := by decide +kernel
theorem dX9_trulyAll_51 : decode cX9_trulyAll 51 = .ok (.getfield 9, 3) := by decide +kernel
theorem dX9_trulyAll_54 : decode cX9_trulyAll 54 = .ok (.sipush 1192, 3) := by decide +kernel
theorem dX9_trulyAll_57 : decode cX9_trulyAll 57 = .ok (.iaload, 1) := by decide +kernel
theorem dX9_trulyAll_58 : decode cX9_trulyAll 58 = .ok (.if_icmp .ge 57, 3) := by decide +kernel
theorem dX9_trulyAll_61 : decode cX9_trulyAll 61 = .ok (.iload_n 2, 1) := by decide +kernel
theorem dX9_trulyAll_62 : decode cX9_trulyAll 62 = .ok (.ifCond .ne 41, 3) := by decide +kernel
theorem dX9_trulyAll_65 : decode cX9_trulyAll 65 = .ok (.iload_n 3, 1) := by decide +kernel
theorem dX9_trulyAll_66 : decode cX9_trulyAll 66 = .ok (.iload_n 1, 1) := by decide +kernel
theorem dX9_trulyAll_67 : decode cX9_trulyAll 67 = .ok (.if_icmp .eq 40, 3) := by decide +kernel
theorem dX9_trulyAll_70 : decode cX9_trulyAll 70 = .ok (.aload_n 0, 1) := by decide +kernel
theorem dX9_trulyAll_71 : decode cX9_trulyAll 71 = .ok (.iload_n 3, 1) := by decide +kernel
theorem dX9_trulyAll_72 : decode cX9_trulyAll 72 = .ok (.invokevirtual 97, 3) := by decide +kernel
theorem dX9_trulyAll_75 : decode cX9_trulyAll 75 = .ok (.ifCond .eq 32, 3) := by decide +kernel
theorem dX9_trulyAll_78 : decode cX9_trulyAll 78 = .ok (.aload_n 0, 1) := by decide +kernel
theorem dX9_trulyAll_79 : decode cX9_trulyAll 79 = .ok (.iload_n 3, 1) := by decide +kernel
theorem dX9_trulyAll_80 : decode cX9_trulyAll 80 = .ok (.iconst 2, 1) := by decide +kernel
theorem dX9_trulyAll_81 : decode cX9_trulyAll 81 = .ok (.invokevirtual 76, 3) := by decide +kernel
theorem dX9_trulyAll_84 : decode cX9_trulyAll 84 = .ok (.aload_n 0, 1) := by decide +kernel
theorem dX9_trulyAll_85 : decode cX9_trulyAll 85 = .ok (.iload_n 1, 1) := by decide +kernel
theorem dX9_trulyAll_86 : decode cX9_trulyAll 86 = .ok (.iconst 2, 1) := by decide +kernel
theorem dX9_trulyAll_87 : decode cX9_trulyAll 87 = .ok (.invokevirtual 76, 3) := by decide +kernel
theorem dX9_trulyAll_90 : decode cX9_trulyAll 90 = .ok (.if_icmp .ne 17, 3) := by decide +kernel
theorem dX9_trulyAll_93 : decode cX9_trulyAll 93 = .ok (.aload_n 0, 1) := by decide +kernel
theorem dX9_trulyAll_94 : decode cX9_trulyAll 94 = .ok (.iload_n 3, 1) := by decide +kernel
theorem dX9_trulyAll_95 : decode cX9_trulyAll 95 = .ok (.invokevirtual 100, 3) := by decide +kernel
theorem dX9_trulyAll_98 : decode cX9_trulyAll 98 = .ok (.bipush 95, 2) := by decide +kernel
theorem dX9_trulyAll_100 : decode cX9_trulyAll 100 = .ok (.if_icmp .lt 7, 3) := by decide +kernel
theorem dX9_trulyAll_103 : decode cX9_trulyAll 103 = .ok (.iconst 1, 1) := by decide +kernel
theorem dX9_trulyAll_104 : decode cX9_trulyAll 104 = .ok (.goto 4, 3) := by decide +kernel
theorem dX9_trulyAll_107 : decode cX9_trulyAll 107 = .ok (.iconst 0, 1) := by decide +kernel
theorem dX9_trulyAll_108 : decode cX9_trulyAll 108 = .ok (.istore_n 2, 1) := by decide +kernel
theorem dX9_trulyAll_109 : decode cX9_trulyAll 109 = .ok (.iinc 3 1, 3) := by decide +kernel
theorem dX9_trulyAll_112 : decode cX9_trulyAll 112 = .ok (.goto (-63), 3) := by decide +kernel
theorem dX9_trulyAll_115 : decode cX9_trulyAll 115 = .ok (.aload_n 0, 1) := by decide +kernel
theorem dX9_trulyAll_116 : decode cX9_trulyAll 116 = .ok (.iload_n 1, 1) := by decide +kernel
theorem dX9_trulyAll_117 : decode cX9_trulyAll 117 = .ok (.iconst 4, 1) := by decide +kernel
theorem dX9_trulyAll_118 : decode cX9_trulyAll 118 = .ok (.invokevirtual 76, 3) := by decide +kernel
theorem dX9_trulyAll_121 : decode cX9_trulyAll 121 = .ok (.bipush 95, 2) := by decide +kernel
theorem dX9_trulyAll_123 : decode cX9_trulyAll 123 = .ok (.if_icmp .lt 7, 3) := by decide +kernel
theorem dX9_trulyAll_126 : decode cX9_trulyAll 126 = .ok (.iconst 1, 1) := by decide +kernel
theorem dX9_trulyAll_127 : decode cX9_trulyAll 127 = .ok (.goto 4, 3) := by decide +kernel
theorem dX9_trulyAll_130 : decode cX9_trulyAll 130 = .ok (.iconst 0, 1) := by decide +kernel
theorem dX9_trulyAll_131 : decode cX9_trulyAll 131 = .ok (.iload_n 2, 1) := by decide +kernel
theorem dX9_trulyAll_132 : decode cX9_trulyAll 132 = .ok (.ifCond .eq 7, 3) := by decide +kernel
theorem dX9_trulyAll_135 : decode cX9_trulyAll 135 = .ok (.iconst 1, 1) := by decide +kernel
theorem dX9_trulyAll_136 : decode cX9_trulyAll 136 = .ok (.goto 4, 3) := by decide +kernel
theorem dX9_trulyAll_139 : decode cX9_trulyAll 139 = .ok (.iconst 0, 1) := by decide +kernel
theorem dX9_trulyAll_140 : decode cX9_trulyAll 140 = .ok (.iadd, 1) := by decide +kernel
theorem dX9_trulyAll_141 : decode cX9_trulyAll 141 = .ok (.ireturn, 1) := by decide +kernel
def B_X9_trulyAll_115 (x1 : Int32) (x2 : Int32) (M : Mem) : Option Int32 := (f_X9_get x1 (4 : Int32) M).bind fun q25 => if q25 < (95 : Int32) then if x2 = 0 then some ((0 : Int32) + (0 : Int32)) else some ((0 : Int32) + (1 : Int32)) else if x2 = 0 then some ((1 : Int32) + (0 : Int32)) else some ((1 : Int32) + (1 : Int32))
def B_X9_trulyAll_103 (rc_49 : Int32 → Int32 → Int32 → Mem → Option Int32) (x1 : Int32) (x3 : Int32) (M : Mem) : Option Int32 := rc_49 x1 (1 : Int32) (x3 + 1) M
def B_X9_trulyAll_107 (rc_49 : Int32 → Int32 → Int32 → Mem → Option Int32) (x1 : Int32) (x3 : Int32) (M : Mem) : Option Int32 := rc_49 x1 (0 : Int32) (x3 + 1) M
def L_X9_trulyAll_49 : Nat → Int32 → Int32 → Int32 → Mem → Option Int32
  | 0, _, _, _, _ => none
  | n + 1, x1, x2, x3, M => if (mI M 285 1192) ≤ x3 then B_X9_trulyAll_115 x1 x2 M else if x2 = 0 then if x3 = x1 then B_X9_trulyAll_107 (L_X9_trulyAll_49 n) x1 x3 M else (f_X9_has x3 M).bind fun q34 => if q34 = 0 then B_X9_trulyAll_107 (L_X9_trulyAll_49 n) x1 x3 M else (f_X9_get x3 (2 : Int32) M).bind fun q39 => (f_X9_get x1 (2 : Int32) M).bind fun q43 => if q39 = q43 then (f_X9_share x3 M).bind fun q48 => if q48 < (95 : Int32) then B_X9_trulyAll_107 (L_X9_trulyAll_49 n) x1 x3 M else B_X9_trulyAll_103 (L_X9_trulyAll_49 n) x1 x3 M else B_X9_trulyAll_107 (L_X9_trulyAll_49 n) x1 x3 M else B_X9_trulyAll_103 (L_X9_trulyAll_49 n) x1 x3 M
def f_X9_trulyAll (x1 : Int32) (M : Mem) : Option Int32 := if (f_X9_isHall x1 M) = 0 then some (-1 : Int32) else (f_X9_get x1 (9 : Int32) M).bind fun q6 => (f_X9_get x1 (0 : Int32) M).bind fun q10 => if q6 = q10 then (f_X9_get x1 (10 : Int32) M).bind fun q15 => (f_X9_get x1 (0 : Int32) M).bind fun q19 => if q15 = q19 then L_X9_trulyAll_49 FU x1 (0 : Int32) (0 : Int32) M else some (-4 : Int32) else some (-4 : Int32)
set_option maxRecDepth 100000 in
set_option maxHeartbeats 4000000 in
theorem b_X9_trulyAll_115 (Z : Sys) (X : Cx) (hR : xR X = rm_X9_trulyAll) {q : Int32} {M : Mem} (hq : RetOk Z X (some .int) False (PostI q M) 0 0) (x1 : Int32) (x2 : Int32) (hs : St M) (hf : B_X9_trulyAll_115 x1 x2 M = some q) : G Z X Y_X9_trulyAll False 0 0 115 [(0, .ref (zs Z + 284)), (1, .int x1), (2, .int x2)] [] M := by
  unfold B_X9_trulyAll_115 at hf
  refine G.aload_n 115 0 dX9_trulyAll_115 rfl rfl ?_
  refine G.iload_n 116 1 dX9_trulyAll_116 rfl rfl ?_
  refine G.iconst 117 (4 : Int32) dX9_trulyAll_117 (by decide +kernel) ?_
  obtain ⟨q25, e26, hf⟩ := bd_e hf
  refine G.cvI 118 (As := [.int x1, .int (4 : Int32)]) ck_9 (hs.k k0_284) (c_X9_get Z hs x1 (4 : Int32) e26) mk_X9_get vk_X9_get rfl wd_1411 hR (by decide +kernel) ⟨rfl, rfl⟩ rfl (Nat.le_of_ble_eq_true rfl) dX9_trulyAll_118 (fun hs23 => ?_)
  refine G.bipush 121 (95 : Int32) dX9_trulyAll_121 (by decide +kernel) ?_
  refine G.icmp_lt 123 130 dX9_trulyAll_123 (by decide) (fun h27 => ?_) (fun h27 => ?_)
  · replace hf := (if_pos h27).symm.trans hf
    refine G.iconst 130 (0 : Int32) dX9_trulyAll_130 (by decide +kernel) ?_
    refine G.iload_n 131 2 dX9_trulyAll_131 rfl rfl ?_
    refine G.if_eq 132 139 dX9_trulyAll_132 (by decide) (fun h28 => ?_) (fun h28 => ?_)
    · replace hf := (if_pos h28).symm.trans hf
      refine G.iconst 139 (0 : Int32) dX9_trulyAll_139 (by decide +kernel) ?_
      refine G.iadd 140 dX9_trulyAll_140 ?_
      (have hf9 := Option.some.inj hf; subst hf9)
      exact G.rI 141 hq dX9_trulyAll_141 hs23
    · replace hf := (if_neg h28).symm.trans hf
      refine G.iconst 135 (1 : Int32) dX9_trulyAll_135 (by decide +kernel) ?_
      refine G.goto 136 140 dX9_trulyAll_136 (by decide) ?_
      refine G.iadd 140 dX9_trulyAll_140 ?_
      (have hf9 := Option.some.inj hf; subst hf9)
      exact G.rI 141 hq dX9_trulyAll_141 hs23
  · replace hf := (if_neg h27).symm.trans hf
    refine G.iconst 126 (1 : Int32) dX9_trulyAll_126 (by decide +kernel) ?_
    refine G.goto 127 131 dX9_trulyAll_127 (by decide) ?_
    refine G.iload_n 131 2 dX9_trulyAll_131 rfl rfl ?_
    refine G.if_eq 132 139 dX9_trulyAll_132 (by decide) (fun h29 => ?_) (fun h29 => ?_)
    · replace hf := (if_pos h29).symm.trans hf
      refine G.iconst 139 (0 : Int32) dX9_trulyAll_139 (by decide +kernel) ?_
      refine G.iadd 140 dX9_trulyAll_140 ?_
      (have hf9 := Option.some.inj hf; subst hf9)
      exact G.rI 141 hq dX9_trulyAll_141 hs23
    · replace hf := (if_neg h29).symm.trans hf
      refine G.iconst 135 (1 : Int32) dX9_trulyAll_135 (by decide +kernel) ?_
      refine G.goto 136 140 dX9_trulyAll_136 (by decide) ?_
      refine G.iadd 140 dX9_trulyAll_140 ?_
      (have hf9 := Option.some.inj hf; subst hf9)
      exact G.rI 141 hq dX9_trulyAll_141 hs23
set_option maxRecDepth 100000 in
set_option maxHeartbeats 4000000 in
theorem b_X9_trulyAll_103 (Z : Sys) (X : Cx) (hR : xR X = rm_X9_trulyAll) {q : Int32} {M : Mem} (hq : RetOk Z X (some .int) False (PostI q M) 0 0) (rc_49 : Int32 → Int32 → Int32 → Mem → Option Int32) (hrc_49 : ∀ (x1 : Int32) (x2 : Int32) (x3 : Int32), St M → rc_49 x1 x2 x3 M = some q → G Z X Y_X9_trulyAll False 0 0 49 [(0, .ref (zs Z + 284)), (1, .int x1), (2, .int x2), (3, .int x3)] [] M) (x1 : Int32) (x3 : Int32) (hs : St M) (hf : B_X9_trulyAll_103 rc_49 x1 x3 M = some q) : G Z X Y_X9_trulyAll False 0 0 103 [(0, .ref (zs Z + 284)), (1, .int x1), (3, .int x3)] [] M := by
  unfold B_X9_trulyAll_103 at hf
  refine G.iconst 103 (1 : Int32) dX9_trulyAll_103 (by decide +kernel) ?_
  refine G.goto 104 108 dX9_trulyAll_104 (by decide) ?_
  refine G.istore_n 108 [(2, .int (1 : Int32)), (0, .ref (zs Z + 284)), (1, .int x1), (3, .int x3)] dX9_trulyAll_108 rfl (Nat.le_of_ble_eq_true rfl) rfl ?_
  refine G.iinc 109 3 (x3 + 1) [(3, .int (x3 + 1)), (2, .int (1 : Int32)), (0, .ref (zs Z + 284)), (1, .int x1)] dX9_trulyAll_109 rfl (congrArg (fun z => x3 + z) (by decide +kernel)) (Nat.le_of_ble_eq_true rfl) rfl ?_
  refine G.goto 112 49 dX9_trulyAll_112 (by decide) ?_
  refine G.locs [2, 3, 1, 0] rfl ?_
  exact hrc_49 x1 (1 : Int32) (x3 + 1) hs hf
set_option maxRecDepth 100000 in
set_option maxHeartbeats 4000000 in
theorem b_X9_trulyAll_107 (Z : Sys) (X : Cx) (hR : xR X = rm_X9_trulyAll) {q : Int32} {M : Mem} (hq : RetOk Z X (some .int) False (PostI q M) 0 0) (rc_49 : Int32 → Int32 → Int32 → Mem → Option Int32) (hrc_49 : ∀ (x1 : Int32) (x2 : Int32) (x3 : Int32), St M → rc_49 x1 x2 x3 M = some q → G Z X Y_X9_trulyAll False 0 0 49 [(0, .ref (zs Z + 284)), (1, .int x1), (2, .int x2), (3, .int x3)] [] M) (x1 : Int32) (x3 : Int32) (hs : St M) (hf : B_X9_trulyAll_107 rc_49 x1 x3 M = some q) : G Z X Y_X9_trulyAll False 0 0 107 [(0, .ref (zs Z + 284)), (1, .int x1), (3, .int x3)] [] M := by
  unfold B_X9_trulyAll_107 at hf
  refine G.iconst 107 (0 : Int32) dX9_trulyAll_107 (by decide +kernel) ?_
  refine G.istore_n 108 [(2, .int (0 : Int32)), (0, .ref (zs Z + 284)), (1, .int x1), (3, .int x3)] dX9_trulyAll_108 rfl (Nat.le_of_ble_eq_true rfl) rfl ?_
  refine G.iinc 109 3 (x3 + 1) [(3, .int (x3 + 1)), (2, .int (0 : Int32)), (0, .ref (zs Z + 284)), (1, .int x1)] dX9_trulyAll_109 rfl (congrArg (fun z => x3 + z) (by decide +kernel)) (Nat.le_of_ble_eq_true rfl) rfl ?_
  refine G.goto 112 49 dX9_trulyAll_112 (by decide) ?_
  refine G.locs [2, 3, 1, 0] rfl ?_
  exact hrc_49 x1 (0 : Int32) (x3 + 1) hs hf
set_option maxRecDepth 100000 in
set_option maxHeartbeats 4000000 in
theorem l_X9_trulyAll_49 (Z : Sys) (X : Cx) (hR : xR X = rm_X9_trulyAll) {q : Int32} {M : Mem} (hq : RetOk Z X (some .int) False (PostI q M) 0 0) : ∀ (n : Nat) (x1 : Int32) (x2 : Int32) (x3 : Int32) (hs : St M) (hf : L_X9_trulyAll_49 n x1 x2 x3 M = some q), G Z X Y_X9_trulyAll False 0 0 49 [(0, .ref (zs Z + 284)), (1, .int x1), (2, .int x2), (3, .int x3)] [] M := by
  intro n
  induction n with
  | zero => intro x1 x2 x3 hs  hf; cases hf
  | succ n ih =>
    intro x1 x2 x3 hs  hf
    unfold L_X9_trulyAll_49 at hf
    refine G.iload_n 49 3 dX9_trulyAll_49 rfl rfl ?_
    refine G.aload_n 50 0 dX9_trulyAll_50 rfl rfl ?_
    refine G.getp 51 ck_9 0 285 (hs.k k0_284) (pc_9_0 hs) (by decide) (by decide +kernel) wd_1305 dX9_trulyAll_51 ?_
    refine G.sipush 54 (1192 : Int32) dX9_trulyAll_54 (by decide +kernel) ?_
    refine G.ia 57 1192 (hs.k k0_285) (by decide +kernel) (by decide +kernel) dX9_trulyAll_57 ?_
    refine G.icmp_ge 58 115 dX9_trulyAll_58 (by decide) (fun h22 => ?_) (fun h22 => ?_)
    · replace hf := (if_pos h22).symm.trans hf
      refine G.locs [0, 1, 2] rfl ?_
      exact b_X9_trulyAll_115 Z X hR hq x1 x2 hs hf
    · replace hf := (if_neg h22).symm.trans hf
      refine G.iload_n 61 2 dX9_trulyAll_61 rfl rfl ?_
      refine G.if_ne 62 103 dX9_trulyAll_62 (by decide) (fun h30 => ?_) (fun h30 => ?_)
      · replace hf := (if_neg h30).symm.trans hf
        refine G.locs [0, 1, 3] rfl ?_
        exact b_X9_trulyAll_103 Z X hR hq (L_X9_trulyAll_49 n) ih x1 x3 hs hf
      · replace hf := (if_pos h30).symm.trans hf
        refine G.iload_n 65 3 dX9_trulyAll_65 rfl rfl ?_
        refine G.iload_n 66 1 dX9_trulyAll_66 rfl rfl ?_
        refine G.icmp_eq 67 107 dX9_trulyAll_67 (by decide) (fun h31 => ?_) (fun h31 => ?_)
        · replace hf := (if_pos h31).symm.trans hf
          refine G.locs [0, 1, 3] rfl ?_
          exact b_X9_trulyAll_107 Z X hR hq (L_X9_trulyAll_49 n) ih x1 x3 hs hf
        · replace hf := (if_neg h31).symm.trans hf
          refine G.aload_n 70 0 dX9_trulyAll_70 rfl rfl ?_
          refine G.iload_n 71 3 dX9_trulyAll_71 rfl rfl ?_
          obtain ⟨q34, e35, hf⟩ := bd_e hf
          refine G.cvZ 72 (As := [.int x3]) ck_9 (hs.k k0_284) (c_X9_has Z hs x3 e35) mk_X9_has vk_X9_has rfl wd_1445 hR (by decide +kernel) ⟨rfl, rfl⟩ rfl (Nat.le_of_ble_eq_true rfl) dX9_trulyAll_72 (fun hs32 z33 => ?_)
          refine G.if_eq 75 107 dX9_trulyAll_75 (by decide) (fun h36 => ?_) (fun h36 => ?_)
          · replace hf := (if_pos h36).symm.trans hf
            refine G.locs [0, 1, 3] rfl ?_
            exact b_X9_trulyAll_107 Z X hR hq (L_X9_trulyAll_49 n) ih x1 x3 hs32 hf
          · replace hf := (if_neg h36).symm.trans hf
            refine G.aload_n 78 0 dX9_trulyAll_78 rfl rfl ?_
            refine G.iload_n 79 3 dX9_trulyAll_79 rfl rfl ?_
            refine G.iconst 80 (2 : Int32) dX9_trulyAll_80 (by decide +kernel) ?_
            obtain ⟨q39, e40, hf⟩ := bd_e hf
            refine G.cvI 81 (As := [.int x3, .int (2 : Int32)]) ck_9 (hs32.k k0_284) (c_X9_get Z hs32 x3 (2 : Int32) e40) mk_X9_get vk_X9_get rfl wd_1411 hR (by decide +kernel) ⟨rfl, rfl⟩ rfl (Nat.le_of_ble_eq_true rfl) dX9_trulyAll_81 (fun hs37 => ?_)
            refine G.aload_n 84 0 dX9_trulyAll_84 rfl rfl ?_
            refine G.iload_n 85 1 dX9_trulyAll_85 rfl rfl ?_
            refine G.iconst 86 (2 : Int32) dX9_trulyAll_86 (by decide +kernel) ?_
            obtain ⟨q43, e44, hf⟩ := bd_e hf
            refine G.cvI 87 (As := [.int x1, .int (2 : Int32)]) ck_9 (hs37.k k0_284) (c_X9_get Z hs37 x1 (2 : Int32) e44) mk_X9_get vk_X9_get rfl wd_1411 hR (by decide +kernel) ⟨rfl, rfl⟩ rfl (Nat.le_of_ble_eq_true rfl) dX9_trulyAll_87 (fun hs41 => ?_)
            refine G.icmp_ne 90 107 dX9_trulyAll_90 (by decide) (fun h45 => ?_) (fun h45 => ?_)
            · replace hf := (if_neg h45).symm.trans hf
              refine G.locs [0, 1, 3] rfl ?_
              exact b_X9_trulyAll_107 Z X hR hq (L_X9_trulyAll_49 n) ih x1 x3 hs41 hf
            · replace hf := (if_pos h45).symm.trans hf
              refine G.aload_n 93 0 dX9_trulyAll_93 rfl rfl ?_
              refine G.iload_n 94 3 dX9_trulyAll_94 rfl rfl ?_
              obtain ⟨q48, e49, hf⟩ := bd_e hf
              refine G.cvI 95 (As := [.int x3]) ck_9 (hs41.k k0_284) (c_X9_share Z hs41 x3 e49) mk_X9_share vk_X9_share rfl wd_1449 hR (by decide +kernel) ⟨rfl, rfl⟩ rfl (Nat.le_of_ble_eq_true rfl) dX9_trulyAll_95 (fun hs46 => ?_)
              refine G.bipush 98 (95 : Int32) dX9_trulyAll_98 (by decide +kernel) ?_
              refine G.icmp_lt 100 107 dX9_trulyAll_100 (by decide) (fun h50 => ?_) (fun h50 => ?_)
              · replace hf := (if_pos h50).symm.trans hf
                refine G.locs [0, 1, 3] rfl ?_
                exact b_X9_trulyAll_107 Z X hR hq (L_X9_trulyAll_49 n) ih x1 x3 hs46 hf
              · replace hf := (if_neg h50).symm.trans hf
                refine G.locs [0, 1, 3] rfl ?_
                exact b_X9_trulyAll_103 Z X hR hq (L_X9_trulyAll_49 n) ih x1 x3 hs46 hf
set_option maxRecDepth 100000 in
set_option maxHeartbeats 4000000 in
theorem c_X9_trulyAll (Z : Sys) {M : Mem} (hs : St M) (x1 : Int32) {q : Int32} (hf : f_X9_trulyAll x1 M = some q) : Ct Z yX9_trulyAll cX9_trulyAll 4 (some .int) rm_X9_trulyAll [.ref (zs Z + 284), .int x1] M False (PostI q M) := by
  refine Ct.of (by decide +kernel) (Nat.le_of_ble_eq_true rfl) (fun X hR hq _ => ?_)
  show G Z X Y_X9_trulyAll False 0 0 0 [(0, .ref (zs Z + 284)), (1, .int x1)] [] M
  replace hq : RetOk Z X (some .int) False (PostI q M) 0 0 := hq
  unfold f_X9_trulyAll at hf
  refine G.aload_n 0 0 dX9_trulyAll_0 rfl rfl ?_
  refine G.iload_n 1 1 dX9_trulyAll_1 rfl rfl ?_
  refine G.cvZ 2 (As := [.int x1]) ck_9 (hs.k k0_284) (c_X9_isHall Z hs x1 rfl) mk_X9_isHall vk_X9_isHall rfl wd_1407 hR (by decide +kernel) ⟨rfl, rfl⟩ rfl (Nat.le_of_ble_eq_true rfl) dX9_trulyAll_2 (fun hs1 z2 => ?_)
  refine G.if_ne 5 10 dX9_trulyAll_5 (by decide) (fun h3 => ?_) (fun h3 => ?_)
  · replace hf := (if_neg h3).symm.trans hf
    refine G.aload_n 10 0 dX9_trulyAll_10 rfl rfl ?_
    refine G.iload_n 11 1 dX9_trulyAll_11 rfl rfl ?_
    refine G.bipush 12 (9 : Int32) dX9_trulyAll_12 (by decide +kernel) ?_
    obtain ⟨q6, e7, hf⟩ := bd_e hf
    refine G.cvI 14 (As := [.int x1, .int (9 : Int32)]) ck_9 (hs1.k k0_284) (c_X9_get Z hs1 x1 (9 : Int32) e7) mk_X9_get vk_X9_get rfl wd_1411 hR (by decide +kernel) ⟨rfl, rfl⟩ rfl (Nat.le_of_ble_eq_true rfl) dX9_trulyAll_14 (fun hs4 => ?_)
    refine G.aload_n 17 0 dX9_trulyAll_17 rfl rfl ?_
    refine G.iload_n 18 1 dX9_trulyAll_18 rfl rfl ?_
    refine G.iconst 19 (0 : Int32) dX9_trulyAll_19 (by decide +kernel) ?_
    obtain ⟨q10, e11, hf⟩ := bd_e hf
    refine G.cvI 20 (As := [.int x1, .int (0 : Int32)]) ck_9 (hs4.k k0_284) (c_X9_get Z hs4 x1 (0 : Int32) e11) mk_X9_get vk_X9_get rfl wd_1411 hR (by decide +kernel) ⟨rfl, rfl⟩ rfl (Nat.le_of_ble_eq_true rfl) dX9_trulyAll_20 (fun hs8 => ?_)
    refine G.icmp_ne 23 42 dX9_trulyAll_23 (by decide) (fun h12 => ?_) (fun h12 => ?_)
    · replace hf := (if_neg h12).symm.trans hf
      refine G.bipush 42 (-4 : Int32) dX9_trulyAll_42 (by decide +kernel) ?_
      (have hf9 := Option.some.inj hf; subst hf9)
      exact G.rI 44 hq dX9_trulyAll_44 hs8
    · replace hf := (if_pos h12).symm.trans hf
      refine G.aload_n 26 0 dX9_trulyAll_26 rfl rfl ?_
      refine G.iload_n 27 1 dX9_trulyAll_27 rfl rfl ?_
      refine G.bipush 28 (10 : Int32) dX9_trulyAll_28 (by decide +kernel) ?_
      obtain ⟨q15, e16, hf⟩ := bd_e hf
      refine G.cvI 30 (As := [.int x1, .int (10 : Int32)]) ck_9 (hs8.k k0_284) (c_X9_get Z hs8 x1 (10 : Int32) e16) mk_X9_get vk_X9_get rfl wd_1411 hR (by decide +kernel) ⟨rfl, rfl⟩ rfl (Nat.le_of_ble_eq_true rfl) dX9_trulyAll_30 (fun hs13 => ?_)
      refine G.aload_n 33 0 dX9_trulyAll_33 rfl rfl ?_
      refine G.iload_n 34 1 dX9_trulyAll_34 rfl rfl ?_
      refine G.iconst 35 (0 : Int32) dX9_trulyAll_35 (by decide +kernel) ?_
      obtain ⟨q19, e20, hf⟩ := bd_e hf
      refine G.cvI 36 (As := [.int x1, .int (0 : Int32)]) ck_9 (hs13.k k0_284) (c_X9_get Z hs13 x1 (0 : Int32) e20) mk_X9_get vk_X9_get rfl wd_1411 hR (by decide +kernel) ⟨rfl, rfl⟩ rfl (Nat.le_of_ble_eq_true rfl) dX9_trulyAll_36 (fun hs17 => ?_)
      refine G.icmp_eq 39 45 dX9_trulyAll_39 (by decide) (fun h21 => ?_) (fun h21 => ?_)
      · replace hf := (if_pos h21).symm.trans hf
        refine G.iconst 45 (0 : Int32) dX9_trulyAll_45 (by decide +kernel) ?_
        refine G.istore_n 46 [(2, .int (0 : Int32)), (0, .ref (zs Z + 284)), (1, .int x1)] dX9_trulyAll_46 rfl (Nat.le_of_ble_eq_true rfl) rfl ?_
        refine G.iconst 47 (0 : Int32) dX9_trulyAll_47 (by decide +kernel) ?_
        refine G.istore_n 48 [(3, .int (0 : Int32)), (2, .int (0 : Int32)), (0, .ref (zs Z + 284)), (1, .int x1)] dX9_trulyAll_48 rfl (Nat.le_of_ble_eq_true rfl) rfl ?_
        refine G.locs [2, 3, 1, 0] rfl ?_
        exact l_X9_trulyAll_49 Z X hR hq FU x1 (0 : Int32) (0 : Int32) hs17 hf
      · replace hf := (if_neg h21).symm.trans hf
        refine G.bipush 42 (-4 : Int32) dX9_trulyAll_42 (by decide +kernel) ?_
        (have hf9 := Option.some.inj hf; subst hf9)
        exact G.rI 44 hq dX9_trulyAll_44 hs17
  · replace hf := (if_pos h3).symm.trans hf
    refine G.iconst 8 (-1 : Int32) dX9_trulyAll_8 (by decide +kernel) ?_
    (have hf9 := Option.some.inj hf; subst hf9)
    exact G.rI 9 hq dX9_trulyAll_9 hs1
abbrev Y_X9_turn : My := (cX9_turn, RX9, 6)
def rm_X9_turn : Room := { frames := 3, cells := 0, slots := 0, locals := 243 }
theorem dX9_turn_0 : decode cX9_turn 0 = .ok (.iconst 0, 1) := by decide +kernel
theorem dX9_turn_1 : decode cX9_turn 1 = .ok (.istore_n 1, 1) := by decide +kernel
theorem dX9_turn_2 : decode cX9_turn 2 = .ok (.iconst 0, 1) := by decide +kernel
theorem dX9_turn_3 : decode cX9_turn 3 = .ok (.istore_n 2, 1) := by decide +kernel
theorem dX9_turn_4 : decode cX9_turn 4 = .ok (.iload_n 2, 1) := by decide +kernel
theorem dX9_turn_5 : decode cX9_turn 5 = .ok (.aload_n 0, 1) := by decide +kernel
theorem dX9_turn_6 : decode cX9_turn 6 = .ok (.getfield 9, 3) := by decide +kernel
theorem dX9_turn_9 : decode cX9_turn 9 = .ok (.sipush 1192, 3) := by decide +kernel
theorem dX9_turn_12 : decode cX9_turn 12 = .ok (.iaload, 1) := by decide +kernel
theorem dX9_turn_13 : decode cX9_turn 13 = .ok (.if_icmp .ge 41, 3) := by decide +kernel
theorem dX9_turn_16 : decode cX9_turn 16 = .ok (.iload_n 1, 1) := by decide +kernel
theorem dX9_turn_17 : decode cX9_turn 17 = .ok (.aload_n 0, 1) := by decide +kernel
theorem dX9_turn_18 : decode cX9_turn 18 = .ok (.iload_n 2, 1) := by decide +kernel
theorem dX9_turn_19 : decode cX9_turn 19 = .ok (.invokevirtual 97, 3) := by decide +kernel
theorem dX9_turn_22 : decode cX9_turn 22 = .ok (.ifCond .eq 23, 3) := by decide +kernel
theorem dX9_turn_25 : decode cX9_turn 25 = .ok (.iconst 2, 1) := by decide +kernel
theorem dX9_turn_26 : decode cX9_turn 26 = .ok (.aload_n 0, 1) := by decide +kernel
theorem dX9_turn_27 : decode cX9_turn 27 = .ok (.iload_n 2, 1) := by decide +kernel
theorem dX9_turn_28 : decode cX9_turn 28 = .ok (.bipush 10, 2) := by decide +kernel
theorem dX9_turn_30 : decode cX9_turn 30 = .ok (.invokevirtual 76, 3) := by decide +kernel
theorem dX9_turn_33 : decode cX9_turn 33 = .ok (.imul, 1) := by decide +kernel
theorem dX9_turn_34 : decode cX9_turn 34 = .ok (.aload_n 0, 1) := by decide +kernel
theorem dX9_turn_35 : decode cX9_turn 35 = .ok (.iload_n 2, 1) := by decide +kernel
theorem dX9_turn_36 : decode cX9_turn 36 = .ok (.bipush 9, 2) := by decide +kernel
theorem dX9_turn_38 : decode cX9_turn 38 = .ok (.invokevirtual 76, 3) := by decide +kernel
theorem dX9_turn_41 : decode cX9_turn 41 = .ok (.isub, 1) := by decide +kernel
theorem dX9_turn_42 : decode cX9_turn 42 = .ok (.goto 4, 3) := by decide +kernel
theorem dX9_turn_45 : decode cX9_turn 45 = .ok (.iconst 0, 1) := by decide +kernel
theorem dX9_turn_46 : decode cX9_turn 46 = .ok (.iadd, 1) := by decide +kernel
theorem dX9_turn_47 : decode cX9_turn 47 = .ok (.istore_n 1, 1) := by decide +kernel
theorem dX9_turn_48 : decode cX9_turn 48 = .ok (.iinc 2 1, 3) := by decide +kernel
theorem dX9_turn_51 : decode cX9_turn 51 = .ok (.goto (-47), 3) := by decide +kernel
theorem dX9_turn_54 : decode cX9_turn 54 = .ok (.iconst 0, 1) := by decide +kernel
theorem dX9_turn_55 : decode cX9_turn 55 = .ok (.istore_n 2, 1) := by decide +kernel
theorem dX9_turn_56 : decode cX9_turn 56 = .ok (.iconst 0, 1) := by decide +kernel
theorem dX9_turn_57 : decode cX9_turn 57 = .ok (.istore_n 3, 1) := by decide +kernel
theorem dX9_turn_58 : decode cX9_turn 58 = .ok (.iload_n 1, 1) := by decide +kernel
theorem dX9_turn_59 : decode cX9_turn 59 = .ok (.ifCond .gt 5, 3) := by decide +kernel
theorem dX9_turn_62 : decode cX9_turn 62 = .ok (.iload_n 3, 1) := by decide +kernel
theorem dX9_turn_63 : decode cX9_turn 63 = .ok (.ireturn, 1) := by decide +kernel
theorem dX9_turn_64 : decode cX9_turn 64 = .ok (.iconst (-1), 1) := by decide +kernel
theorem dX9_turn_65 : decode cX9_turn 65 = .ok (.istore 4, 2) := by decide +kernel
theorem dX9_turn_67 : decode cX9_turn 67 = .ok (.iconst 0, 1) := by decide +kernel
theorem dX9_turn_68 : decode cX9_turn 68 = .ok (.istore 5, 2) := by decide +kernel
theorem dX9_turn_70 : decode cX9_turn 70 = .ok (.iload 5, 2) := by decide +kernel
theorem dX9_turn_72 : decode cX9_turn 72 = .ok (.aload_n 0, 1) := by decide +kernel
theorem dX9_turn_73 : decode cX9_turn 73 = .ok (.getfield 9, 3) := by decide +kernel
theorem dX9_turn_76 : decode cX9_turn 76 = .ok (.sipush 1192, 3) := by decide +kernel
theorem dX9_turn_79 : decode cX9_turn 79 = .ok (.iaload, 1) := by decide +kernel
theorem dX9_turn_80 : decode cX9_turn 80 = .ok (.if_icmp .ge 51, 3) := by decide +kernel
theorem dX9_turn_83 : decode cX9_turn 83 = .ok (.aload_n 0, 1) := by decide +kernel
theorem dX9_turn_84 : decode cX9_turn 84 = .ok (.iload 5, 2) := by decide +kernel
theorem dX9_turn_86 : decode cX9_turn 86 = .ok (.invokevirtual 97, 3) := by decide +kernel
theorem dX9_turn_89 : decode cX9_turn 89 = .ok (.ifCond .eq 36, 3) := by decide +kernel
theorem dX9_turn_92 : decode cX9_turn 92 = .ok (.iload_n 2, 1) := by decide +kernel
theorem dX9_turn_93 : decode cX9_turn 93 = .ok (.iload 5, 2) := by decide +kernel
theorem dX9_turn_95 : decode cX9_turn 95 = .ok (.ishr, 1) := by decide +kernel
theorem dX9_turn_96 : decode cX9_turn 96 = .ok (.iconst 1, 1) := by decide +kernel
theorem dX9_turn_97 : decode cX9_turn 97 = .ok (.iand, 1) := by decide +kernel
theorem dX9_turn_98 : decode cX9_turn 98 = .ok (.ifCond .ne 27, 3) := by decide +kernel
theorem dX9_turn_101 : decode cX9_turn 101 = .ok (.iload 4, 2) := by decide +kernel
theorem dX9_turn_103 : decode cX9_turn 103 = .ok (.ifCond .lt 18, 3) := by decide +kernel
theorem dX9_turn_106 : decode cX9_turn 106 = .ok (.aload_n 0, 1) := by decide +kernel
theorem dX9_turn_107 : decode cX9_turn 107 = .ok (.iload 5, 2) := by decide +kernel
theorem dX9_turn_109 : decode cX9_turn 109 = .ok (.invokevirtual 181, 3) := by decide +kernel
theorem dX9_turn_112 : decode cX9_turn 112 = .ok (.aload_n 0, 1) := by decide +kernel
theorem dX9_turn_113 : decode cX9_turn 113 = .ok (.iload 4, 2) := by decide +kernel
theorem dX9_turn_115 : decode cX9_turn 115 = .ok (.invokevirtual 181, 3) := by decide +kernel
theorem dX9_turn_118 : decode cX9_turn 118 = .ok (.if_icmp .le 7, 3) := by decide +kernel
theorem dX9_turn_121 : decode cX9_turn 121 = .ok (.iload 5, 2) := by decide +kernel
theorem dX9_turn_123 : decode cX9_turn 123 = .ok (.istore 4, 2) := by decide +kernel
theorem dX9_turn_125 : decode cX9_turn 125 = .ok (.iinc 5 1, 3) := by decide +kernel
theorem dX9_turn_128 : decode cX9_turn 128 = .ok (.goto (-58), 3) := by decide +kernel
theorem dX9_turn_131 : decode cX9_turn 131 = .ok (.iload 4, 2) := by decide +kernel
theorem dX9_turn_133 : decode cX9_turn 133 = .ok (.ifCond .lt 12, 3) := by decide +kernel
theorem dX9_turn_136 : decode cX9_turn 136 = .ok (.aload_n 0, 1) := by decide +kernel
theorem dX9_turn_137 : decode cX9_turn 137 = .ok (.iload 4, 2) := by decide +kernel
theorem dX9_turn_139 : decode cX9_turn 139 = .ok (.invokevirtual 181, 3) := by decide +kernel
theorem dX9_turn_142 : decode cX9_turn 142 = .ok (.ifCond .gt 6, 3) := by decide +kernel
theorem dX9_turn_145 : decode cX9_turn 145 = .ok (.bipush (-4), 2) := by decide +kernel
theorem dX9_turn_147 : decode cX9_turn 147 = .ok (.ireturn, 1) := by decide +kernel
theorem dX9_turn_148 : decode cX9_turn 148 = .ok (.iload_n 2, 1) := by decide +kernel
theorem dX9_turn_149 : decode cX9_turn 149 = .ok (.iconst 1, 1) := by decide +kernel
theorem dX9_turn_150 : decode cX9_turn 150 = .ok (.iload 4, 2) := by decide +kernel
theorem dX9_turn_152 : decode cX9_turn 152 = .ok (.ishl, 1) := by decide +kernel
theorem dX9_turn_153 : decode cX9_turn 153 = .ok (.ior, 1) := by decide +kernel
theorem dX9_turn_154 : decode cX9_turn 154 = .ok (.istore_n 2, 1) := by decide +kernel
theorem dX9_turn_155 : decode cX9_turn 155 = .ok (.iload_n 1, 1) := by decide +kernel
theorem dX9_turn_156 : decode cX9_turn 156 = .ok (.aload_n 0, 1) := by decide +kernel
theorem dX9_turn_157 : decode cX9_turn 157 = .ok (.iload 4, 2) := by decide +kernel
theorem dX9_turn_159 : decode cX9_turn 159 = .ok (.invokevirtual 181, 3) := by decide +kernel
theorem dX9_turn_162 : decode cX9_turn 162 = .ok (.isub, 1) := by decide +kernel
theorem dX9_turn_163 : decode cX9_turn 163 = .ok (.istore_n 1, 1) := by decide +kernel
theorem dX9_turn_164 : decode cX9_turn 164 = .ok (.iinc 3 1, 3) := by decide +kernel
theorem dX9_turn_167 : decode cX9_turn 167 = .ok (.goto (-109), 3) := by decide +kernel
def B_X9_turn_131 (rc_58 : Int32 → Int32 → Int32 → Mem → Option Int32) (x1 : Int32) (x2 : Int32) (x3 : Int32) (x4 : Int32) (M : Mem) : Option Int32 := if x4 < 0 then some (-4 : Int32) else (f_X9_falls x4 M).bind fun q7 => if 0 < q7 then (f_X9_falls x4 M).bind fun q12 => rc_58 (x1 - q12) (x2 ||| ((1 : Int32) <<< (x4 &&& 31))) (x3 + 1) M else some (-4 : Int32)
def B_X9_turn_125 (rc_58 : Int32 → Int32 → Int32 → Mem → Option Int32) (rc_70 : Int32 → Int32 → Int32 → Int32 → Int32 → Mem → Option Int32) (x1 : Int32) (x2 : Int32) (x3 : Int32) (x4 : Int32) (x5 : Int32) (M : Mem) : Option Int32 := rc_70 x1 x2 x3 x4 (x5 + 1) M
def B_X9_turn_121 (rc_58 : Int32 → Int32 → Int32 → Mem → Option Int32) (rc_70 : Int32 → Int32 → Int32 → Int32 → Int32 → Mem → Option Int32) (x1 : Int32) (x2 : Int32) (x3 : Int32) (x5 : Int32) (M : Mem) : Option Int32 := B_X9_turn_125 rc_58 rc_70 x1 x2 x3 x5 x5 M
def L_X9_turn_70 (rc_58 : Int32 → Int32 → Int32 → Mem → Option Int32) : Nat → Int32 → Int32 → Int32 → Int32 → Int32 → Mem → Option Int32
  | 0, _, _, _, _, _, _ => none
  | n + 1, x1, x2, x3, x4, x5, M => if (mI M 285 1192) ≤ x5 then B_X9_turn_131 rc_58 x1 x2 x3 x4 M else (f_X9_has x5 M).bind fun q16 => if q16 = 0 then B_X9_turn_125 rc_58 (L_X9_turn_70 rc_58 n) x1 x2 x3 x4 x5 M else if ((x2 >>> (x5 &&& 31)) &&& (1 : Int32)) = 0 then if x4 < 0 then B_X9_turn_121 rc_58 (L_X9_turn_70 rc_58 n) x1 x2 x3 x5 M else (f_X9_falls x5 M).bind fun q23 => (f_X9_falls x4 M).bind fun q27 => if q23 ≤ q27 then B_X9_turn_125 rc_58 (L_X9_turn_70 rc_58 n) x1 x2 x3 x4 x5 M else B_X9_turn_121 rc_58 (L_X9_turn_70 rc_58 n) x1 x2 x3 x5 M else B_X9_turn_125 rc_58 (L_X9_turn_70 rc_58 n) x1 x2 x3 x4 x5 M
def L_X9_turn_58 : Nat → Int32 → Int32 → Int32 → Mem → Option Int32
  | 0, _, _, _, _ => none
  | n + 1, x1, x2, x3, M => if 0 < x1 then L_X9_turn_70 (L_X9_turn_58 n) FU x1 x2 x3 (-1 : Int32) (0 : Int32) M else some x3
def B_X9_turn_54 (x1 : Int32) (M : Mem) : Option Int32 := L_X9_turn_58 FU x1 (0 : Int32) (0 : Int32) M
def L_X9_turn_4 : Nat → Int32 → Int32 → Mem → Option Int32
  | 0, _, _, _ => none
  | n + 1, x1, x2, M => if (mI M 285 1192) ≤ x2 then B_X9_turn_54 x1 M else (f_X9_has x2 M).bind fun q32 => if q32 = 0 then L_X9_turn_4 n (x1 + (0 : Int32)) (x2 + 1) M else (f_X9_get x2 (10 : Int32) M).bind fun q37 => (f_X9_get x2 (9 : Int32) M).bind fun q41 => L_X9_turn_4 n (x1 + (((2 : Int32) * q37) - q41)) (x2 + 1) M
def f_X9_turn (M : Mem) : Option Int32 := L_X9_turn_4 FU (0 : Int32) (0 : Int32) M
set_option maxRecDepth 100000 in
set_option maxHeartbeats 4000000 in
theorem b_X9_turn_131 (Z : Sys) (X : Cx) (hR : xR X = rm_X9_turn) {q : Int32} {M : Mem} (hq : RetOk Z X (some .int) False (PostI q M) 0 0) (rc_58 : Int32 → Int32 → Int32 → Mem → Option Int32) (hrc_58 : ∀ (x1 : Int32) (x2 : Int32) (x3 : Int32), St M → rc_58 x1 x2 x3 M = some q → G Z X Y_X9_turn False 0 0 58 [(0, .ref (zs Z + 284)), (1, .int x1), (2, .int x2), (3, .int x3)] [] M) (x1 : Int32) (x2 : Int32) (x3 : Int32) (x4 : Int32) (hs : St M) (hf : B_X9_turn_131 rc_58 x1 x2 x3 x4 M = some q) : G Z X Y_X9_turn False 0 0 131 [(0, .ref (zs Z + 284)), (1, .int x1), (2, .int x2), (3, .int x3), (4, .int x4)] [] M := by
  unfold B_X9_turn_131 at hf
  refine G.iload 131 4 dX9_turn_131 rfl ?_
  refine G.if_lt 133 145 dX9_turn_133 (by decide) (fun h4 => ?_) (fun h4 => ?_)
  · replace hf := (if_pos h4).symm.trans hf
    refine G.bipush 145 (-4 : Int32) dX9_turn_145 (by decide +kernel) ?_
    (have hf9 := Option.some.inj hf; subst hf9)
    exact G.rI 147 hq dX9_turn_147 hs
  · replace hf := (if_neg h4).symm.trans hf
    refine G.aload_n 136 0 dX9_turn_136 rfl rfl ?_
    refine G.iload 137 4 dX9_turn_137 rfl ?_
    obtain ⟨q7, e8, hf⟩ := bd_e hf
    refine G.cvI 139 (As := [.int x4]) ck_9 (hs.k k0_284) (c_X9_falls Z hs x4 e8) mk_X9_falls vk_X9_falls rfl wd_1602 hR (by decide +kernel) ⟨rfl, rfl⟩ rfl (Nat.le_of_ble_eq_true rfl) dX9_turn_139 (fun hs5 => ?_)
    refine G.if_gt 142 148 dX9_turn_142 (by decide) (fun h9 => ?_) (fun h9 => ?_)
    · replace hf := (if_pos h9).symm.trans hf
      refine G.iload_n 148 2 dX9_turn_148 rfl rfl ?_
      refine G.iconst 149 (1 : Int32) dX9_turn_149 (by decide +kernel) ?_
      refine G.iload 150 4 dX9_turn_150 rfl ?_
      refine G.ishl 152 dX9_turn_152 ?_
      refine G.ior 153 dX9_turn_153 ?_
      refine G.istore_n 154 [(2, .int (x2 ||| ((1 : Int32) <<< (x4 &&& 31)))), (0, .ref (zs Z + 284)), (1, .int x1), (3, .int x3), (4, .int x4)] dX9_turn_154 rfl (Nat.le_of_ble_eq_true rfl) rfl ?_
      refine G.iload_n 155 2 dX9_turn_155 rfl rfl ?_
      refine G.aload_n 156 1 dX9_turn_156 rfl rfl ?_
      refine G.iload 157 4 dX9_turn_157 rfl ?_
      obtain ⟨q12, e13, hf⟩ := bd_e hf
      refine G.cvI 159 (As := [.int x4]) ck_9 (hs5.k k0_284) (c_X9_falls Z hs5 x4 e13) mk_X9_falls vk_X9_falls rfl wd_1602 hR (by decide +kernel) ⟨rfl, rfl⟩ rfl (Nat.le_of_ble_eq_true rfl) dX9_turn_159 (fun hs10 => ?_)
      refine G.isub 162 dX9_turn_162 ?_
      refine G.istore_n 163 [(1, .int (x1 - q12)), (2, .int (x2 ||| ((1 : Int32) <<< (x4 &&& 31)))), (0, .ref (zs Z + 284)), (3, .int x3), (4, .int x4)] dX9_turn_163 rfl (Nat.le_of_ble_eq_true rfl) rfl ?_
      refine G.iinc 164 3 (x3 + 1) [(3, .int (x3 + 1)), (1, .int (x1 - q12)), (2, .int (x2 ||| ((1 : Int32) <<< (x4 &&& 31)))), (0, .ref (zs Z + 284)), (4, .int x4)] dX9_turn_164 rfl (congrArg (fun z => x3 + z) (by decide +kernel)) (Nat.le_of_ble_eq_true rfl) rfl ?_
      refine G.goto 167 58 dX9_turn_167 (by decide) ?_
      refine G.locs [3, 1, 2, 0] rfl ?_
      exact hrc_58 (x1 - q12) (x2 ||| ((1 : Int32) <<< (x4 &&& 31))) (x3 + 1) hs10 hf
    · replace hf := (if_neg h9).symm.trans hf
      refine G.bipush 145 (-4 : Int32) dX9_turn_145 (by decide +kernel) ?_
      (have hf9 := Option.some.inj hf; subst hf9)
      exact G.rI 147 hq dX9_turn_147 hs5
set_option maxRecDepth 100000 in
set_option maxHeartbeats 4000000 in
theorem b_X9_turn_125 (Z : Sys) (X : Cx) (hR : xR X = rm_X9_turn) {q : Int32} {M : Mem} (hq : RetOk Z X (some .int) False (PostI q M) 0 0) (rc_58 : Int32 → Int32 → Int32 → Mem → Option Int32) (hrc_58 : ∀ (x1 : Int32) (x2 : Int32) (x3 : Int32), St M → rc_58 x1 x2 x3 M = some q → G Z X Y_X9_turn False 0 0 58 [(0, .ref (zs Z + 284)), (1, .int x1), (2, .int x2), (3, .int x3)] [] M) (rc_70 : Int32 → Int32 → Int32 → Int32 → Int32 → Mem → Option Int32) (hrc_70 : ∀ (x1 : Int32) (x2 : Int32) (x3 : Int32) (x4 : Int32) (x5 : Int32), St M → rc_70 x1 x2 x3 x4 x5 M = some q → G Z X Y_X9_turn False 0 0 70 [(0, .ref (zs Z + 284)), (1, .int x1), (2, .int x2), (3, .int x3), (4, .int x4), (5, .int x5)] [] M) (x1 : Int32) (x2 : Int32) (x3 : Int32) (x4 : Int32) (x5 : Int32) (hs : St M) (hf : B_X9_turn_125 rc_58 rc_70 x1 x2 x3 x4 x5 M = some q) : G Z X Y_X9_turn False 0 0 125 [(0, .ref (zs Z + 284)), (1, .int x1), (2, .int x2), (3, .int x3), (4, .int x4), (5, .int x5)] [] M := by
  unfold B_X9_turn_125 at hf
  refine G.iinc 125 5 (x5 + 1) [(5, .int (x5 + 1)), (0, .ref (zs Z + 284)), (1, .int x1), (2, .int x2), (3, .int x3), (4, .int x4)] dX9_turn_125 rfl (congrArg (fun z => x5 + z) (by decide +kernel)) (Nat.le_of_ble_eq_true rfl) rfl ?_
  refine G.goto 128 70 dX9_turn_128 (by decide) ?_
  refine G.locs [1, 2, 3, 4, 5, 0] rfl ?_
  exact hrc_70 x1 x2 x3 x4 (x5 + 1) hs hf
set_option maxRecDepth 100000 in
set_option maxHeartbeats 4000000 in
theorem b_X9_turn_121 (Z : Sys) (X : Cx) (hR : xR X = rm_X9_turn) {q : Int32} {M : Mem} (hq : RetOk Z X (some .int) False (PostI q M) 0 0) (rc_58 : Int32 → Int32 → Int32 → Mem → Option Int32) (hrc_58 : ∀ (x1 : Int32) (x2 : Int32) (x3 : Int32), St M → rc_58 x1 x2 x3 M = some q → G Z X Y_X9_turn False 0 0 58 [(0, .ref (zs Z + 284)), (1, .int x1), (2, .int x2), (3, .int x3)] [] M) (rc_70 : Int32 → Int32 → Int32 → Int32 → Int32 → Mem → Option Int32) (hrc_70 : ∀ (x1 : Int32) (x2 : Int32) (x3 : Int32) (x4 : Int32) (x5 : Int32), St M → rc_70 x1 x2 x3 x4 x5 M = some q → G Z X Y_X9_turn False 0 0 70 [(0, .ref (zs Z + 284)), (1, .int x1), (2, .int x2), (3, .int x3), (4, .int x4), (5, .int x5)] [] M) (x1 : Int32) (x2 : Int32) (x3 : Int32) (x5 : Int32) (hs : St M) (hf : B_X9_turn_121 rc_58 rc_70 x1 x2 x3 x5 M = some q) : G Z X Y_X9_turn False 0 0 121 [(0, .ref (zs Z + 284)), (1, .int x1), (2, .int x2), (3, .int x3), (5, .int x5)] [] M := by
  unfold B_X9_turn_121 at hf
  refine G.iload 121 4 dX9_turn_121 rfl ?_
  refine G.istore 123 [(4, .int x5), (0, .ref (zs Z + 284)), (1, .int x1), (2, .int x2), (3, .int x3), (5, .int x5)] dX9_turn_123 (Nat.le_of_ble_eq_true rfl) rfl ?_
  refine G.locs [1, 2, 3, 4, 0, 5] rfl ?_
  exact b_X9_turn_125 Z X hR hq rc_58 hrc_58 rc_70 hrc_70 x1 x2 x3 x5 x5 hs hf
set_option maxRecDepth 100000 in
set_option maxHeartbeats 4000000 in
theorem l_X9_turn_70 (Z : Sys) (X : Cx) (hR : xR X = rm_X9_turn) {q : Int32} {M : Mem} (hq : RetOk Z X (some .int) False (PostI q M) 0 0) (rc_58 : Int32 → Int32 → Int32 → Mem → Option Int32) (hrc_58 : ∀ (x1 : Int32) (x2 : Int32) (x3 : Int32), St M → rc_58 x1 x2 x3 M = some q → G Z X Y_X9_turn False 0 0 58 [(0, .ref (zs Z + 284)), (1, .int x1), (2, .int x2), (3, .int x3)] [] M) : ∀ (n : Nat) (x1 : Int32) (x2 : Int32) (x3 : Int32) (x4 : Int32) (x5 : Int32) (hs : St M) (hf : L_X9_turn_70 rc_58 n x1 x2 x3 x4 x5 M = some q), G Z X Y_X9_turn False 0 0 70 [(0, .ref (zs Z + 284)), (1, .int x1), (2, .int x2), (3, .int x3), (4, .int x4), (5, .int x5)] [] M := by
  intro n
  induction n with
  | zero => intro x1 x2 x3 x4 x5 hs  hf; cases hf
  | succ n ih =>
    intro x1 x2 x3 x4 x5 hs  hf
    unfold L_X9_turn_70 at hf
    refine G.iload 70 5 dX9_turn_70 rfl ?_
    refine G.aload_n 72 0 dX9_turn_72 rfl rfl ?_
    refine G.getp 73 ck_9 0 285 (hs.k k0_284) (pc_9_0 hs) (by decide) (by decide +kernel) wd_1305 dX9_turn_73 ?_
    refine G.sipush 76 (1192 : Int32) dX9_turn_76 (by decide +kernel) ?_
    refine G.ia 79 1192 (hs.k k0_285) (by decide +kernel) (by decide +kernel) dX9_turn_79 ?_
    refine G.icmp_ge 80 131 dX9_turn_80 (by decide) (fun h3 => ?_) (fun h3 => ?_)
    · replace hf := (if_pos h3).symm.trans hf
      refine G.locs [0, 1, 2, 3, 4] rfl ?_
      exact b_X9_turn_131 Z X hR hq rc_58 hrc_58 x1 x2 x3 x4 hs hf
    · replace hf := (if_neg h3).symm.trans hf
      refine G.aload_n 83 0 dX9_turn_83 rfl rfl ?_
      refine G.iload 84 5 dX9_turn_84 rfl ?_
      obtain ⟨q16, e17, hf⟩ := bd_e hf
      refine G.cvZ 86 (As := [.int x5]) ck_9 (hs.k k0_284) (c_X9_has Z hs x5 e17) mk_X9_has vk_X9_has rfl wd_1445 hR (by decide +kernel) ⟨rfl, rfl⟩ rfl (Nat.le_of_ble_eq_true rfl) dX9_turn_86 (fun hs14 z15 => ?_)
      refine G.if_eq 89 125 dX9_turn_89 (by decide) (fun h18 => ?_) (fun h18 => ?_)
      · replace hf := (if_pos h18).symm.trans hf
        exact b_X9_turn_125 Z X hR hq rc_58 hrc_58 (L_X9_turn_70 rc_58 n) ih x1 x2 x3 x4 x5 hs14 hf
      · replace hf := (if_neg h18).symm.trans hf
        refine G.iload_n 92 2 dX9_turn_92 rfl rfl ?_
        refine G.iload 93 5 dX9_turn_93 rfl ?_
        refine G.ishr 95 dX9_turn_95 ?_
        refine G.iconst 96 (1 : Int32) dX9_turn_96 (by decide +kernel) ?_
        refine G.iand 97 dX9_turn_97 ?_
        refine G.if_ne 98 125 dX9_turn_98 (by decide) (fun h19 => ?_) (fun h19 => ?_)
        · replace hf := (if_neg h19).symm.trans hf
          exact b_X9_turn_125 Z X hR hq rc_58 hrc_58 (L_X9_turn_70 rc_58 n) ih x1 x2 x3 x4 x5 hs14 hf
        · replace hf := (if_pos h19).symm.trans hf
          refine G.iload 101 4 dX9_turn_101 rfl ?_
          refine G.if_lt 103 121 dX9_turn_103 (by decide) (fun h20 => ?_) (fun h20 => ?_)
          · replace hf := (if_pos h20).symm.trans hf
            refine G.locs [0, 1, 2, 3, 5] rfl ?_
            exact b_X9_turn_121 Z X hR hq rc_58 hrc_58 (L_X9_turn_70 rc_58 n) ih x1 x2 x3 x5 hs14 hf
          · replace hf := (if_neg h20).symm.trans hf
            refine G.aload_n 106 0 dX9_turn_106 rfl rfl ?_
            refine G.iload 107 5 dX9_turn_107 rfl ?_
            obtain ⟨q23, e24, hf⟩ := bd_e hf
            refine G.cvI 109 (As := [.int x5]) ck_9 (hs14.k k0_284) (c_X9_falls Z hs14 x5 e24) mk_X9_falls vk_X9_falls rfl wd_1602 hR (by decide +kernel) ⟨rfl, rfl⟩ rfl (Nat.le_of_ble_eq_true rfl) dX9_turn_109 (fun hs21 => ?_)
            refine G.aload_n 112 0 dX9_turn_112 rfl rfl ?_
            refine G.iload 113 4 dX9_turn_113 rfl ?_
            obtain ⟨q27, e28, hf⟩ := bd_e hf
            refine G.cvI 115 (As := [.int x4]) ck_9 (hs21.k k0_284) (c_X9_falls Z hs21 x4 e28) mk_X9_falls vk_X9_falls rfl wd_1602 hR (by decide +kernel) ⟨rfl, rfl⟩ rfl (Nat.le_of_ble_eq_true rfl) dX9_turn_115 (fun hs25 => ?_)
            refine G.icmp_le 118 125 dX9_turn_118 (by decide) (fun h29 => ?_) (fun h29 => ?_)
            · replace hf := (if_pos h29).symm.trans hf
              exact b_X9_turn_125 Z X hR hq rc_58 hrc_58 (L_X9_turn_70 rc_58 n) ih x1 x2 x3 x4 x5 hs25 hf
            · replace hf := (if_neg h29).symm.trans hf
              refine G.locs [0, 1, 2, 3, 5] rfl ?_
              exact b_X9_turn_121 Z X hR hq rc_58 hrc_58 (L_X9_turn_70 rc_58 n) ih x1 x2 x3 x5 hs25 hf
set_option maxRecDepth 100000 in
set_option maxHeartbeats 4000000 in
theorem l_X9_turn_58 (Z : Sys) (X : Cx) (hR : xR X = rm_X9_turn) {q : Int32} {M : Mem} (hq : RetOk Z X (some .int) False (PostI q M) 0 0) : ∀ (n : Nat) (x1 : Int32) (x2 : Int32) (x3 : Int32) (hs : St M) (hf : L_X9_turn_58 n x1 x2 x3 M = some q), G Z X Y_X9_turn False 0 0 58 [(0, .ref (zs Z + 284)), (1, .int x1), (2, .int x2), (3, .int x3)] [] M := by
  intro n
  induction n with
  | zero => intro x1 x2 x3 hs  hf; cases hf
  | succ n ih =>
    intro x1 x2 x3 hs  hf
    unfold L_X9_turn_58 at hf
    refine G.iload_n 58 1 dX9_turn_58 rfl rfl ?_
    refine G.if_gt 59 64 dX9_turn_59 (by decide) (fun h2 => ?_) (fun h2 => ?_)
    · replace hf := (if_pos h2).symm.trans hf
      refine G.iconst 64 (-1 : Int32) dX9_turn_64 (by decide +kernel) ?_
      refine G.istore 65 [(4, .int (-1 : Int32)), (0, .ref (zs Z + 284)), (1, .int x1), (2, .int x2), (3, .int x3)] dX9_turn_65 (Nat.le_of_ble_eq_true rfl) rfl ?_
      refine G.iconst 67 (0 : Int32) dX9_turn_67 (by decide +kernel) ?_
      refine G.istore 68 [(5, .int (0 : Int32)), (4, .int (-1 : Int32)), (0, .ref (zs Z + 284)), (1, .int x1), (2, .int x2), (3, .int x3)] dX9_turn_68 (Nat.le_of_ble_eq_true rfl) rfl ?_
      refine G.locs [2, 3, 4, 5, 1, 0] rfl ?_
      exact l_X9_turn_70 Z X hR hq (L_X9_turn_58 n) ih FU x1 x2 x3 (-1 : Int32) (0 : Int32) hs hf
    · replace hf := (if_neg h2).symm.trans hf
      refine G.iload_n 62 3 dX9_turn_62 rfl rfl ?_
      (have hf9 := Option.some.inj hf; subst hf9)
      exact G.rI 63 hq dX9_turn_63 hs
set_option maxRecDepth 100000 in
set_option maxHeartbeats 4000000 in
theorem b_X9_turn_54 (Z : Sys) (X : Cx) (hR : xR X = rm_X9_turn) {q : Int32} {M : Mem} (hq : RetOk Z X (some .int) False (PostI q M) 0 0) (x1 : Int32) (hs : St M) (hf : B_X9_turn_54 x1 M = some q) : G Z X Y_X9_turn False 0 0 54 [(0, .ref (zs Z + 284)), (1, .int x1)] [] M := by
  unfold B_X9_turn_54 at hf
  refine G.iconst 54 (0 : Int32) dX9_turn_54 (by decide +kernel) ?_
  refine G.istore_n 55 [(2, .int (0 : Int32)), (0, .ref (zs Z + 284)), (1, .int x1)] dX9_turn_55 rfl (Nat.le_of_ble_eq_true rfl) rfl ?_
  refine G.iconst 56 (0 : Int32) dX9_turn_56 (by decide +kernel) ?_
  refine G.istore_n 57 [(3, .int (0 : Int32)), (2, .int (0 : Int32)), (0, .ref (zs Z + 284)), (1, .int x1)] dX9_turn_57 rfl (Nat.le_of_ble_eq_true rfl) rfl ?_
  refine G.locs [2, 3, 1, 0] rfl ?_
  exact l_X9_turn_58 Z X hR hq FU x1 (0 : Int32) (0 : Int32) hs hf
set_option maxRecDepth 100000 in
set_option maxHeartbeats 4000000 in
theorem l_X9_turn_4 (Z : Sys) (X : Cx) (hR : xR X = rm_X9_turn) {q : Int32} {M : Mem} (hq : RetOk Z X (some .int) False (PostI q M) 0 0) : ∀ (n : Nat) (x1 : Int32) (x2 : Int32) (hs : St M) (hf : L_X9_turn_4 n x1 x2 M = some q), G Z X Y_X9_turn False 0 0 4 [(0, .ref (zs Z + 284)), (1, .int x1), (2, .int x2)] [] M := by
  intro n
  induction n with
  | zero => intro x1 x2 hs  hf; cases hf
  | succ n ih =>
    intro x1 x2 hs  hf
    unfold L_X9_turn_4 at hf
    refine G.iload_n 4 2 dX9_turn_4 rfl rfl ?_
    refine G.aload_n 5 0 dX9_turn_5 rfl rfl ?_
    refine G.getp 6 ck_9 0 285 (hs.k k0_284) (pc_9_0 hs) (by decide) (by decide +kernel) wd_1305 dX9_turn_6 ?_
    refine G.sipush 9 (1192 : Int32) dX9_turn_9 (by decide +kernel) ?_
    refine G.ia 12 1192 (hs.k k0_285) (by decide +kernel) (by decide +kernel) dX9_turn_12 ?_
    refine G.icmp_ge 13 54 dX9_turn_13 (by decide) (fun h1 => ?_) (fun h1 => ?_)
    · replace hf := (if_pos h1).symm.trans hf
      refine G.locs [0, 1] rfl ?_
      exact b_X9_turn_54 Z X hR hq x1 hs hf
    · replace hf := (if_neg h1).symm.trans hf
      refine G.iload_n 16 1 dX9_turn_16 rfl rfl ?_
      refine G.aload_n 17 0 dX9_turn_17 rfl rfl ?_
      refine G.iload_n 18 2 dX9_turn_18 rfl rfl ?_
      obtain ⟨q32, e33, hf⟩ := bd_e hf
      refine G.cvZ 19 (As := [.int x2]) ck_9 (hs.k k0_284) (c_X9_has Z hs x2 e33) mk_X9_has vk_X9_has rfl wd_1445 hR (by decide +kernel) ⟨rfl, rfl⟩ rfl (Nat.le_of_ble_eq_true rfl) dX9_turn_19 (fun hs30 z31 => ?_)
      refine G.if_eq 22 45 dX9_turn_22 (by decide) (fun h34 => ?_) (fun h34 => ?_)
      · replace hf := (if_pos h34).symm.trans hf
        refine G.iconst 45 (0 : Int32) dX9_turn_45 (by decide +kernel) ?_
        refine G.iadd 46 dX9_turn_46 ?_
        refine G.istore_n 47 [(1, .int (x1 + (0 : Int32))), (0, .ref (zs Z + 284)), (2, .int x2)] dX9_turn_47 rfl (Nat.le_of_ble_eq_true rfl) rfl ?_
        refine G.iinc 48 2 (x2 + 1) [(2, .int (x2 + 1)), (1, .int (x1 + (0 : Int32))), (0, .ref (zs Z + 284))] dX9_turn_48 rfl (congrArg (fun z => x2 + z) (by decide +kernel)) (Nat.le_of_ble_eq_true rfl) rfl ?_
        refine G.goto 51 4 dX9_turn_51 (by decide) ?_
        refine G.locs [2, 1, 0] rfl ?_
        exact ih (x1 + (0 : Int32)) (x2 + 1) hs30 hf
      · replace hf := (if_neg h34).symm.trans hf
        refine G.iconst 25 (2 : Int32) dX9_turn_25 (by decide +kernel) ?_
        refine G.aload_n 26 0 dX9_turn_26 rfl rfl ?_
        refine G.iload_n 27 2 dX9_turn_27 rfl rfl ?_
        refine G.bipush 28 (10 : Int32) dX9_turn_28 (by decide +kernel) ?_
        obtain ⟨q37, e38, hf⟩ := bd_e hf
        refine G.cvI 30 (As := [.int x2, .int (10 : Int32)]) ck_9 (hs30.k k0_284) (c_X9_get Z hs30 x2 (10 : Int32) e38) mk_X9_get vk_X9_get rfl wd_1411 hR (by decide +kernel) ⟨rfl, rfl⟩ rfl (Nat.le_of_ble_eq_true rfl) dX9_turn_30 (fun hs35 => ?_)
        refine G.imul 33 dX9_turn_33 ?_
        refine G.aload_n 34 0 dX9_turn_34 rfl rfl ?_
        refine G.iload_n 35 2 dX9_turn_35 rfl rfl ?_
        refine G.bipush 36 (9 : Int32) dX9_turn_36 (by decide +kernel) ?_
        obtain ⟨q41, e42, hf⟩ := bd_e hf
        refine G.cvI 38 (As := [.int x2, .int (9 : Int32)]) ck_9 (hs35.k k0_284) (c_X9_get Z hs35 x2 (9 : Int32) e42) mk_X9_get vk_X9_get rfl wd_1411 hR (by decide +kernel) ⟨rfl, rfl⟩ rfl (Nat.le_of_ble_eq_true rfl) dX9_turn_38 (fun hs39 => ?_)
        refine G.isub 41 dX9_turn_41 ?_
        refine G.goto 42 46 dX9_turn_42 (by decide) ?_
        refine G.iadd 46 dX9_turn_46 ?_
        refine G.istore_n 47 [(1, .int (x1 + (((2 : Int32) * q37) - q41))), (0, .ref (zs Z + 284)), (2, .int x2)] dX9_turn_47 rfl (Nat.le_of_ble_eq_true rfl) rfl ?_
        refine G.iinc 48 2 (x2 + 1) [(2, .int (x2 + 1)), (1, .int (x1 + (((2 : Int32) * q37) - q41))), (0, .ref (zs Z + 284))] dX9_turn_48 rfl (congrArg (fun z => x2 + z) (by decide +kernel)) (Nat.le_of_ble_eq_true rfl) rfl ?_
        refine G.goto 51 4 dX9_turn_51 (by decide) ?_
        refine G.locs [2, 1, 0] rfl ?_
        exact ih (x1 + (((2 : Int32) * q37) - q41)) (x2 + 1) hs39 hf
set_option maxRecDepth 100000 in
set_option maxHeartbeats 4000000 in
theorem c_X9_turn (Z : Sys) {M : Mem} (hs : St M) {q : Int32} (hf : f_X9_turn M = some q) : Ct Z yX9_turn cX9_turn 6 (some .int) rm_X9_turn [.ref (zs Z + 284)] M False (PostI q M) := by
  refine Ct.of (by decide +kernel) (Nat.le_of_ble_eq_true rfl) (fun X hR hq _ => ?_)
  show G Z X Y_X9_turn False 0 0 0 [(0, .ref (zs Z + 284))] [] M
  replace hq : RetOk Z X (some .int) False (PostI q M) 0 0 := hq
  unfold f_X9_turn at hf
  refine G.iconst 0 (0 : Int32) dX9_turn_0 (by decide +kernel) ?_
  refine G.istore_n 1 [(1, .int (0 : Int32)), (0, .ref (zs Z + 284))] dX9_turn_1 rfl (Nat.le_of_ble_eq_true rfl) rfl ?_
  refine G.iconst 2 (0 : Int32) dX9_turn_2 (by decide +kernel) ?_
  refine G.istore_n 3 [(2, .int (0 : Int32)), (1, .int (0 : Int32)), (0, .ref (zs Z + 284))] dX9_turn_3 rfl (Nat.le_of_ble_eq_true rfl) rfl ?_
  refine G.locs [2, 1, 0] rfl ?_
  exact l_X9_turn_4 Z X hR hq FU (0 : Int32) (0 : Int32) hs hf
abbrev Y_X9_untrue : My := (cX9_untrue, RX9, 3)
def rm_X9_untrue : Room := { frames := 4, cells := 0, slots := 0, locals := 269 }
theorem dX9_untrue_0 : decode cX9_untrue 0 = .ok (.iload_n 2, 1) := by decide +kernel
theorem dX9_untrue_1 : decode cX9_untrue 1 = .ok (.i2l, 1) := by decide +kernel
theorem dX9_untrue_2 : decode cX9_untrue 2 = .ok (.lconst 0, 1) := by decide +kernel
theorem dX9_untrue_3 : decode cX9_untrue 3 = .ok (.lconst 1, 1) := by decide +kernel
theorem dX9_untrue_4 : decode cX9_untrue 4 = .ok (.invokestatic 62, 3) := by decide +kernel
theorem dX9_untrue_7 : decode cX9_untrue 7 = .ok (.ifCond .eq 16, 3) := by decide +kernel
theorem dX9_untrue_10 : decode cX9_untrue 10 = .ok (.iload_n 1, 1) := by decide +kernel
theorem dX9_untrue_11 : decode cX9_untrue 11 = .ok (.iconst (-1), 1) := by decide +kernel
theorem dX9_untrue_12 : decode cX9_untrue 12 = .ok (.if_icmp .eq 13, 3) := by decide +kernel
theorem dX9_untrue_15 : decode cX9_untrue 15 = .ok (.aload_n 0, 1) := by decide +kernel
theorem dX9_untrue_16 : decode cX9_untrue 16 = .ok (.iload_n 1, 1) := by decide +kernel
theorem dX9_untrue_17 : decode cX9_untrue 17 = .ok (.invokevirtual 72, 3) := by decide +kernel
theorem dX9_untrue_20 : decode cX9_untrue 20 = .ok (.ifCond .ne 5, 3) := by decide +kernel
theorem dX9_untrue_23 : decode cX9_untrue 23 = .ok (.iconst (-1), 1) := by decide +kernel
theorem dX9_untrue_24 : decode cX9_untrue 24 = .ok (.ireturn, 1) := by decide +kernel
theorem dX9_untrue_25 : decode cX9_untrue 25 = .ok (.iload_n 1, 1) := by decide +kernel
theorem dX9_untrue_26 : decode cX9_untrue 26 = .ok (.ifCond .ge 11, 3) := by decide +kernel
theorem dX9_untrue_29 : decode cX9_untrue 29 = .ok (.aload_n 0, 1) := by decide +kernel
theorem dX9_untrue_30 : decode cX9_untrue 30 = .ok (.iload_n 2, 1) := by decide +kernel
theorem dX9_untrue_31 : decode cX9_untrue 31 = .ok (.invokevirtual 178, 3) := by decide +kernel
theorem dX9_untrue_34 : decode cX9_untrue 34 = .ok (.goto 22, 3) := by decide +kernel
theorem dX9_untrue_37 : decode cX9_untrue 37 = .ok (.aload_n 0, 1) := by decide +kernel
theorem dX9_untrue_38 : decode cX9_untrue 38 = .ok (.iload_n 1, 1) := by decide +kernel
theorem dX9_untrue_39 : decode cX9_untrue 39 = .ok (.invokevirtual 97, 3) := by decide +kernel
theorem dX9_untrue_42 : decode cX9_untrue 42 = .ok (.ifCond .eq 12, 3) := by decide +kernel
theorem dX9_untrue_45 : decode cX9_untrue 45 = .ok (.aload_n 0, 1) := by decide +kernel
theorem dX9_untrue_46 : decode cX9_untrue 46 = .ok (.iload_n 1, 1) := by decide +kernel
theorem dX9_untrue_47 : decode cX9_untrue 47 = .ok (.iload_n 2, 1) := by decide +kernel
theorem dX9_untrue_48 : decode cX9_untrue 48 = .ok (.invokevirtual 175, 3) := by decide +kernel
theorem dX9_untrue_51 : decode cX9_untrue 51 = .ok (.goto 5, 3) := by decide +kernel
theorem dX9_untrue_54 : decode cX9_untrue 54 = .ok (.bipush (-4), 2) := by decide +kernel
theorem dX9_untrue_56 : decode cX9_untrue 56 = .ok (.ireturn, 1) := by decide +kernel
def B_X9_untrue_25 (x1 : Int32) (x2 : Int32) (M : Mem) : Option Int32 := if 0 ≤ x1 then (f_X9_has x1 M).bind fun q8 => if q8 = 0 then some (-4 : Int32) else (f_X9_untrueOf x1 x2 M).bind fun q13 => some q13 else (f_X9_untrueAll x2 M).bind fun q17 => some q17
def f_X9_untrue (x1 : Int32) (x2 : Int32) (M : Mem) : Option Int32 := if (f_X9_isIn x2.toInt64 (0 : Int64) (1 : Int64)) = 0 then some (-1 : Int32) else if x1 = (-1 : Int32) then B_X9_untrue_25 x1 x2 M else if (f_X9_isHall x1 M) = 0 then some (-1 : Int32) else B_X9_untrue_25 x1 x2 M
set_option maxRecDepth 100000 in
set_option maxHeartbeats 4000000 in
theorem b_X9_untrue_25 (Z : Sys) (X : Cx) (hR : xR X = rm_X9_untrue) {q : Int32} {M : Mem} (hq : RetOk Z X (some .int) False (PostI q M) 0 0) (x1 : Int32) (x2 : Int32) (hs : St M) (hf : B_X9_untrue_25 x1 x2 M = some q) : G Z X Y_X9_untrue False 0 0 25 [(0, .ref (zs Z + 284)), (1, .int x1), (2, .int x2)] [] M := by
  unfold B_X9_untrue_25 at hf
  refine G.iload_n 25 1 dX9_untrue_25 rfl rfl ?_
  refine G.if_ge 26 37 dX9_untrue_26 (by decide) (fun h5 => ?_) (fun h5 => ?_)
  · replace hf := (if_pos h5).symm.trans hf
    refine G.aload_n 37 0 dX9_untrue_37 rfl rfl ?_
    refine G.iload_n 38 1 dX9_untrue_38 rfl rfl ?_
    obtain ⟨q8, e9, hf⟩ := bd_e hf
    refine G.cvZ 39 (As := [.int x1]) ck_9 (hs.k k0_284) (c_X9_has Z hs x1 e9) mk_X9_has vk_X9_has rfl wd_1445 hR (by decide +kernel) ⟨rfl, rfl⟩ rfl (Nat.le_of_ble_eq_true rfl) dX9_untrue_39 (fun hs6 z7 => ?_)
    refine G.if_eq 42 54 dX9_untrue_42 (by decide) (fun h10 => ?_) (fun h10 => ?_)
    · replace hf := (if_pos h10).symm.trans hf
      refine G.bipush 54 (-4 : Int32) dX9_untrue_54 (by decide +kernel) ?_
      (have hf9 := Option.some.inj hf; subst hf9)
      exact G.rI 56 hq dX9_untrue_56 hs6
    · replace hf := (if_neg h10).symm.trans hf
      refine G.aload_n 45 0 dX9_untrue_45 rfl rfl ?_
      refine G.iload_n 46 1 dX9_untrue_46 rfl rfl ?_
      refine G.iload_n 47 2 dX9_untrue_47 rfl rfl ?_
      obtain ⟨q13, e14, hf⟩ := bd_e hf
      refine G.cvI 48 (As := [.int x1, .int x2]) ck_9 (hs6.k k0_284) (c_X9_untrueOf Z hs6 x1 x2 e14) mk_X9_untrueOf vk_X9_untrueOf rfl wd_1591 hR (by decide +kernel) ⟨rfl, rfl⟩ rfl (Nat.le_of_ble_eq_true rfl) dX9_untrue_48 (fun hs11 => ?_)
      refine G.goto 51 56 dX9_untrue_51 (by decide) ?_
      (have hf9 := Option.some.inj hf; subst hf9)
      exact G.rI 56 hq dX9_untrue_56 hs11
  · replace hf := (if_neg h5).symm.trans hf
    refine G.aload_n 29 0 dX9_untrue_29 rfl rfl ?_
    refine G.iload_n 30 2 dX9_untrue_30 rfl rfl ?_
    obtain ⟨q17, e18, hf⟩ := bd_e hf
    refine G.cvI 31 (As := [.int x2]) ck_9 (hs.k k0_284) (c_X9_untrueAll Z hs x2 e18) mk_X9_untrueAll vk_X9_untrueAll rfl wd_1587 hR (by decide +kernel) ⟨rfl, rfl⟩ rfl (Nat.le_of_ble_eq_true rfl) dX9_untrue_31 (fun hs15 => ?_)
    refine G.goto 34 56 dX9_untrue_34 (by decide) ?_
    (have hf9 := Option.some.inj hf; subst hf9)
    exact G.rI 56 hq dX9_untrue_56 hs15
set_option maxRecDepth 100000 in
set_option maxHeartbeats 4000000 in
theorem c_X9_untrue (Z : Sys) {M : Mem} (hs : St M) (x1 : Int32) (x2 : Int32) {q : Int32} (hf : f_X9_untrue x1 x2 M = some q) : Ct Z yX9_untrue cX9_untrue 3 (some .int) rm_X9_untrue [.ref (zs Z + 284), .int x1, .int x2] M False (PostI q M) := by
  refine Ct.of (by decide +kernel) (Nat.le_of_ble_eq_true rfl) (fun X hR hq _ => ?_)
  show G Z X Y_X9_untrue False 0 0 0 [(0, .ref (zs Z + 284)), (1, .int x1), (2, .int x2)] [] M
  replace hq : RetOk Z X (some .int) False (PostI q M) 0 0 := hq
  unfold f_X9_untrue at hf
  refine G.iload_n 0 2 dX9_untrue_0 rfl rfl ?_
  refine G.i2l 1 dX9_untrue_1 ?_
  refine G.lconst 2 (0 : Int64) dX9_untrue_2 (by decide +kernel) ?_
  refine G.lconst 3 (1 : Int64) dX9_untrue_3 (by decide +kernel) ?_
  refine G.csZ 4 (As := [.long x2.toInt64, .long (0 : Int64), .long (1 : Int64)]) (c_X9_isIn Z hs x2.toInt64 (0 : Int64) (1 : Int64) rfl) mk_X9_isIn wd_1400 wd_1399 hR (by decide +kernel) ⟨rfl, rfl⟩ rfl (Nat.le_of_ble_eq_true rfl) dX9_untrue_4 (fun hs1 z2 => ?_)
  refine G.if_eq 7 23 dX9_untrue_7 (by decide) (fun h3 => ?_) (fun h3 => ?_)
  · replace hf := (if_pos h3).symm.trans hf
    refine G.iconst 23 (-1 : Int32) dX9_untrue_23 (by decide +kernel) ?_
    (have hf9 := Option.some.inj hf; subst hf9)
    exact G.rI 24 hq dX9_untrue_24 hs1
  · replace hf := (if_neg h3).symm.trans hf
    refine G.iload_n 10 1 dX9_untrue_10 rfl rfl ?_
    refine G.iconst 11 (-1 : Int32) dX9_untrue_11 (by decide +kernel) ?_
    refine G.icmp_eq 12 25 dX9_untrue_12 (by decide) (fun h4 => ?_) (fun h4 => ?_)
    · replace hf := (if_pos h4).symm.trans hf
      exact b_X9_untrue_25 Z X hR hq x1 x2 hs1 hf
    · replace hf := (if_neg h4).symm.trans hf
      refine G.aload_n 15 0 dX9_untrue_15 rfl rfl ?_
      refine G.iload_n 16 1 dX9_untrue_16 rfl rfl ?_
      refine G.cvZ 17 (As := [.int x1]) ck_9 (hs1.k k0_284) (c_X9_isHall Z hs1 x1 rfl) mk_X9_isHall vk_X9_isHall rfl wd_1407 hR (by decide +kernel) ⟨rfl, rfl⟩ rfl (Nat.le_of_ble_eq_true rfl) dX9_untrue_17 (fun hs19 z20 => ?_)
      refine G.if_ne 20 25 dX9_untrue_20 (by decide) (fun h21 => ?_) (fun h21 => ?_)
      · replace hf := (if_neg h21).symm.trans hf
        exact b_X9_untrue_25 Z X hR hq x1 x2 hs19 hf
      · replace hf := (if_pos h21).symm.trans hf
        refine G.iconst 23 (-1 : Int32) dX9_untrue_23 (by decide +kernel) ?_
        (have hf9 := Option.some.inj hf; subst hf9)
        exact G.rI 24 hq dX9_untrue_24 hs19
