abbrev Y_X9_up : My := (cX9_up, RX9, 4)
def rm_X9_up : Room := { frames := 2, cells := 0, slots := 0, locals := 225 }
theorem dX9_up_0 : decode cX9_up 0 = .ok (.iload_n 1, 1) := by decide +kernel
theorem dX9_up_1 : decode cX9_up 1 = .ok (.i2l, 1) := by decide +kernel
theorem dX9_up_2 : decode cX9_up 2 = .ok (.lconst 0, 1) := by decide +kernel
theorem dX9_up_3 : decode cX9_up 3 = .ok (.ldc2_w 160, 3) := by decide +kernel
theorem dX9_up_6 : decode cX9_up 6 = .ok (.invokestatic 62, 3) := by decide +kernel
theorem dX9_up_9 : decode cX9_up 9 = .ok (.ifCond .eq 27, 3) := by decide +kernel
theorem dX9_up_12 : decode cX9_up 12 = .ok (.iload_n 2, 1) := by decide +kernel
theorem dX9_up_13 : decode cX9_up 13 = .ok (.i2l, 1) := by decide +kernel
theorem dX9_up_14 : decode cX9_up 14 = .ok (.lconst 0, 1) := by decide +kernel
theorem dX9_up_15 : decode cX9_up 15 = .ok (.ldc2_w 162, 3) := by decide +kernel
theorem dX9_up_18 : decode cX9_up 18 = .ok (.invokestatic 62, 3) := by decide +kernel
theorem dX9_up_21 : decode cX9_up 21 = .ok (.ifCond .eq 15, 3) := by decide +kernel
theorem dX9_up_24 : decode cX9_up 24 = .ok (.iload_n 3, 1) := by decide +kernel
theorem dX9_up_25 : decode cX9_up 25 = .ok (.i2l, 1) := by decide +kernel
theorem dX9_up_26 : decode cX9_up 26 = .ok (.lconst 0, 1) := by decide +kernel
theorem dX9_up_27 : decode cX9_up 27 = .ok (.ldc2_w 162, 3) := by decide +kernel
theorem dX9_up_30 : decode cX9_up 30 = .ok (.invokestatic 62, 3) := by decide +kernel
theorem dX9_up_33 : decode cX9_up 33 = .ok (.ifCond .ne 5, 3) := by decide +kernel
theorem dX9_up_36 : decode cX9_up 36 = .ok (.iconst (-1), 1) := by decide +kernel
theorem dX9_up_37 : decode cX9_up 37 = .ok (.ireturn, 1) := by decide +kernel
theorem dX9_up_38 : decode cX9_up 38 = .ok (.aload_n 0, 1) := by decide +kernel
theorem dX9_up_39 : decode cX9_up 39 = .ok (.getfield 9, 3) := by decide +kernel
theorem dX9_up_42 : decode cX9_up 42 = .ok (.sipush 370, 3) := by decide +kernel
theorem dX9_up_45 : decode cX9_up 45 = .ok (.iconst 3, 1) := by decide +kernel
theorem dX9_up_46 : decode cX9_up 46 = .ok (.iload_n 1, 1) := by decide +kernel
theorem dX9_up_47 : decode cX9_up 47 = .ok (.imul, 1) := by decide +kernel
theorem dX9_up_48 : decode cX9_up 48 = .ok (.iadd, 1) := by decide +kernel
theorem dX9_up_49 : decode cX9_up 49 = .ok (.iconst 1, 1) := by decide +kernel
theorem dX9_up_50 : decode cX9_up 50 = .ok (.iadd, 1) := by decide +kernel
theorem dX9_up_51 : decode cX9_up 51 = .ok (.iload_n 2, 1) := by decide +kernel
theorem dX9_up_52 : decode cX9_up 52 = .ok (.iastore, 1) := by decide +kernel
theorem dX9_up_53 : decode cX9_up 53 = .ok (.aload_n 0, 1) := by decide +kernel
theorem dX9_up_54 : decode cX9_up 54 = .ok (.getfield 9, 3) := by decide +kernel
theorem dX9_up_57 : decode cX9_up 57 = .ok (.sipush 370, 3) := by decide +kernel
theorem dX9_up_60 : decode cX9_up 60 = .ok (.iconst 3, 1) := by decide +kernel
theorem dX9_up_61 : decode cX9_up 61 = .ok (.iload_n 1, 1) := by decide +kernel
theorem dX9_up_62 : decode cX9_up 62 = .ok (.imul, 1) := by decide +kernel
theorem dX9_up_63 : decode cX9_up 63 = .ok (.iadd, 1) := by decide +kernel
theorem dX9_up_64 : decode cX9_up 64 = .ok (.iconst 2, 1) := by decide +kernel
theorem dX9_up_65 : decode cX9_up 65 = .ok (.iadd, 1) := by decide +kernel
theorem dX9_up_66 : decode cX9_up 66 = .ok (.iload_n 3, 1) := by decide +kernel
theorem dX9_up_67 : decode cX9_up 67 = .ok (.iastore, 1) := by decide +kernel
theorem dX9_up_68 : decode cX9_up 68 = .ok (.aload_n 0, 1) := by decide +kernel
theorem dX9_up_69 : decode cX9_up 69 = .ok (.sipush 370, 3) := by decide +kernel
theorem dX9_up_72 : decode cX9_up 72 = .ok (.iconst 3, 1) := by decide +kernel
theorem dX9_up_73 : decode cX9_up 73 = .ok (.iload_n 1, 1) := by decide +kernel
theorem dX9_up_74 : decode cX9_up 74 = .ok (.imul, 1) := by decide +kernel
theorem dX9_up_75 : decode cX9_up 75 = .ok (.iadd, 1) := by decide +kernel
theorem dX9_up_76 : decode cX9_up 76 = .ok (.iconst 1, 1) := by decide +kernel
theorem dX9_up_77 : decode cX9_up 77 = .ok (.invokevirtual 80, 3) := by decide +kernel
theorem dX9_up_80 : decode cX9_up 80 = .ok (.iconst 1, 1) := by decide +kernel
theorem dX9_up_81 : decode cX9_up 81 = .ok (.if_icmp .ne 7, 3) := by decide +kernel
theorem dX9_up_84 : decode cX9_up 84 = .ok (.iconst 0, 1) := by decide +kernel
theorem dX9_up_85 : decode cX9_up 85 = .ok (.goto 4, 3) := by decide +kernel
theorem dX9_up_88 : decode cX9_up 88 = .ok (.iconst 1, 1) := by decide +kernel
theorem dX9_up_89 : decode cX9_up 89 = .ok (.ireturn, 1) := by decide +kernel
def f_X9_up (x1 : Int32) (x2 : Int32) (x3 : Int32) (M : Mem) : Option (Int32 × Mem) := if (f_X9_isIn x1.toInt64 (0 : Int64) (3 : Int64)) = 0 then some ((-1 : Int32), M) else if (f_X9_isIn x2.toInt64 (0 : Int64) (99999 : Int64)) = 0 then some ((-1 : Int32), M) else if (f_X9_isIn x3.toInt64 (0 : Int64) (99999 : Int64)) = 0 then some ((-1 : Int32), M) else gd (inR (((370 : Int32) + ((3 : Int32) * x1)) + (1 : Int32)) 1194) (gd (inR (((370 : Int32) + ((3 : Int32) * x1)) + (2 : Int32)) 1194) ((f_X9_becomes ((370 : Int32) + ((3 : Int32) * x1)) (1 : Int32) (sI (sI M 285 (((370 : Int32) + ((3 : Int32) * x1)) + (1 : Int32)).toNatClampNeg x2) 285 (((370 : Int32) + ((3 : Int32) * x1)) + (2 : Int32)).toNatClampNeg x3)).bind fun q14 => if q14.1 = (1 : Int32) then some ((0 : Int32), q14.2) else some ((1 : Int32), q14.2)))
set_option maxRecDepth 100000 in
set_option maxHeartbeats 4000000 in
theorem c_X9_up (Z : Sys) {M : Mem} (hs : St M) (x1 : Int32) (x2 : Int32) (x3 : Int32) {q : Int32 × Mem} (hf : f_X9_up x1 x2 x3 M = some q) : Ct Z yX9_up cX9_up 4 (some .int) rm_X9_up [.ref (zs Z + 284), .int x1, .int x2, .int x3] M False (PostI q.1 q.2) := by
  refine Ct.of (by decide +kernel) (Nat.le_of_ble_eq_true rfl) (fun X hR hq _ => ?_)
  show G Z X Y_X9_up False 0 0 0 [(0, .ref (zs Z + 284)), (1, .int x1), (2, .int x2), (3, .int x3)] [] M
  replace hq : RetOk Z X (some .int) False (PostI q.1 q.2) 0 0 := hq
  unfold f_X9_up at hf
  refine G.iload_n 0 1 dX9_up_0 rfl rfl ?_
  refine G.i2l 1 dX9_up_1 ?_
  refine G.lconst 2 (0 : Int64) dX9_up_2 (by decide +kernel) ?_
  refine G.ldc2 3 (3 : Int64) wd_1556 dX9_up_3 ?_
  refine G.csZ 6 (As := [.long x1.toInt64, .long (0 : Int64), .long (3 : Int64)]) (c_X9_isIn Z hs x1.toInt64 (0 : Int64) (3 : Int64) rfl) mk_X9_isIn wd_1400 wd_1399 hR (by decide +kernel) ⟨rfl, rfl⟩ rfl (Nat.le_of_ble_eq_true rfl) dX9_up_6 (fun hs1 z2 => ?_)
  refine G.if_eq 9 36 dX9_up_9 (by decide) (fun h3 => ?_) (fun h3 => ?_)
  · replace hf := (if_pos h3).symm.trans hf
    refine G.iconst 36 (-1 : Int32) dX9_up_36 (by decide +kernel) ?_
    (have hf9 := Option.some.inj hf; subst hf9)
    exact G.rI 37 hq dX9_up_37 hs1
  · replace hf := (if_neg h3).symm.trans hf
    refine G.iload_n 12 2 dX9_up_12 rfl rfl ?_
    refine G.i2l 13 dX9_up_13 ?_
    refine G.lconst 14 (0 : Int64) dX9_up_14 (by decide +kernel) ?_
    refine G.ldc2 15 (99999 : Int64) wd_1557 dX9_up_15 ?_
    refine G.csZ 18 (As := [.long x2.toInt64, .long (0 : Int64), .long (99999 : Int64)]) (c_X9_isIn Z hs1 x2.toInt64 (0 : Int64) (99999 : Int64) rfl) mk_X9_isIn wd_1400 wd_1399 hR (by decide +kernel) ⟨rfl, rfl⟩ rfl (Nat.le_of_ble_eq_true rfl) dX9_up_18 (fun hs4 z5 => ?_)
    refine G.if_eq 21 36 dX9_up_21 (by decide) (fun h6 => ?_) (fun h6 => ?_)
    · replace hf := (if_pos h6).symm.trans hf
      refine G.iconst 36 (-1 : Int32) dX9_up_36 (by decide +kernel) ?_
      (have hf9 := Option.some.inj hf; subst hf9)
      exact G.rI 37 hq dX9_up_37 hs4
    · replace hf := (if_neg h6).symm.trans hf
      refine G.iload_n 24 3 dX9_up_24 rfl rfl ?_
      refine G.i2l 25 dX9_up_25 ?_
      refine G.lconst 26 (0 : Int64) dX9_up_26 (by decide +kernel) ?_
      refine G.ldc2 27 (99999 : Int64) wd_1557 dX9_up_27 ?_
      refine G.csZ 30 (As := [.long x3.toInt64, .long (0 : Int64), .long (99999 : Int64)]) (c_X9_isIn Z hs4 x3.toInt64 (0 : Int64) (99999 : Int64) rfl) mk_X9_isIn wd_1400 wd_1399 hR (by decide +kernel) ⟨rfl, rfl⟩ rfl (Nat.le_of_ble_eq_true rfl) dX9_up_30 (fun hs7 z8 => ?_)
      refine G.if_ne 33 38 dX9_up_33 (by decide) (fun h9 => ?_) (fun h9 => ?_)
      · replace hf := (if_neg h9).symm.trans hf
        refine G.aload_n 38 0 dX9_up_38 rfl rfl ?_
        refine G.getp 39 ck_9 0 285 (hs7.k k0_284) (pc_9_0 hs7) (by decide) (by decide +kernel) wd_1305 dX9_up_39 ?_
        refine G.sipush 42 (370 : Int32) dX9_up_42 (by decide +kernel) ?_
        refine G.iconst 45 (3 : Int32) dX9_up_45 (by decide +kernel) ?_
        refine G.iload_n 46 1 dX9_up_46 rfl rfl ?_
        refine G.imul 47 dX9_up_47 ?_
        refine G.iadd 48 dX9_up_48 ?_
        refine G.iconst 49 (1 : Int32) dX9_up_49 (by decide +kernel) ?_
        refine G.iadd 50 dX9_up_50 ?_
        refine G.iload_n 51 2 dX9_up_51 rfl rfl ?_
        obtain ⟨g10, hf⟩ := gd_e hf
        refine G.ist 52 (((370 : Int32) + ((3 : Int32) * x1)) + (1 : Int32)).toNatClampNeg (hs7.k k0_285) g10 rfl dX9_up_52 ?_
        refine G.aload_n 53 0 dX9_up_53 rfl rfl ?_
        refine G.getp 54 ck_9 0 285 ((St.i hs7).k k0_284) (pc_9_0 (St.i hs7)) (by decide) (by decide +kernel) wd_1305 dX9_up_54 ?_
        refine G.sipush 57 (370 : Int32) dX9_up_57 (by decide +kernel) ?_
        refine G.iconst 60 (3 : Int32) dX9_up_60 (by decide +kernel) ?_
        refine G.iload_n 61 1 dX9_up_61 rfl rfl ?_
        refine G.imul 62 dX9_up_62 ?_
        refine G.iadd 63 dX9_up_63 ?_
        refine G.iconst 64 (2 : Int32) dX9_up_64 (by decide +kernel) ?_
        refine G.iadd 65 dX9_up_65 ?_
        refine G.iload_n 66 3 dX9_up_66 rfl rfl ?_
        obtain ⟨g11, hf⟩ := gd_e hf
        refine G.ist 67 (((370 : Int32) + ((3 : Int32) * x1)) + (2 : Int32)).toNatClampNeg ((St.i hs7).k k0_285) g11 rfl dX9_up_67 ?_
        refine G.aload_n 68 0 dX9_up_68 rfl rfl ?_
        refine G.sipush 69 (370 : Int32) dX9_up_69 (by decide +kernel) ?_
        refine G.iconst 72 (3 : Int32) dX9_up_72 (by decide +kernel) ?_
        refine G.iload_n 73 1 dX9_up_73 rfl rfl ?_
        refine G.imul 74 dX9_up_74 ?_
        refine G.iadd 75 dX9_up_75 ?_
        refine G.iconst 76 (1 : Int32) dX9_up_76 (by decide +kernel) ?_
        obtain ⟨q14, e15, hf⟩ := bd_e hf
        refine G.cvI 77 (As := [.int ((370 : Int32) + ((3 : Int32) * x1)), .int (1 : Int32)]) ck_9 ((St.i (St.i hs7)).k k0_284) (c_X9_becomes Z (St.i (St.i hs7)) ((370 : Int32) + ((3 : Int32) * x1)) (1 : Int32) e15) mk_X9_becomes vk_X9_becomes rfl wd_1415 hR (by decide +kernel) ⟨rfl, rfl⟩ rfl (Nat.le_of_ble_eq_true rfl) dX9_up_77 (fun hs12 => ?_)
        refine G.iconst 80 (1 : Int32) dX9_up_80 (by decide +kernel) ?_
        refine G.icmp_ne 81 88 dX9_up_81 (by decide) (fun h16 => ?_) (fun h16 => ?_)
        · replace hf := (if_neg h16).symm.trans hf
          refine G.iconst 88 (1 : Int32) dX9_up_88 (by decide +kernel) ?_
          (have hf9 := Option.some.inj hf; subst hf9)
          exact G.rI 89 hq dX9_up_89 hs12
        · replace hf := (if_pos h16).symm.trans hf
          refine G.iconst 84 (0 : Int32) dX9_up_84 (by decide +kernel) ?_
          refine G.goto 85 89 dX9_up_85 (by decide) ?_
          (have hf9 := Option.some.inj hf; subst hf9)
          exact G.rI 89 hq dX9_up_89 hs12
      · replace hf := (if_pos h9).symm.trans hf
        refine G.iconst 36 (-1 : Int32) dX9_up_36 (by decide +kernel) ?_
        (have hf9 := Option.some.inj hf; subst hf9)
        exact G.rI 37 hq dX9_up_37 hs7
abbrev Y_X9_watch : My := (cX9_watch, RX9, 3)
def rm_X9_watch : Room := { frames := 3, cells := 0, slots := 0, locals := 246 }
theorem dX9_watch_0 : decode cX9_watch 0 = .ok (.aload_n 0, 1) := by decide +kernel
theorem dX9_watch_1 : decode cX9_watch 1 = .ok (.iload_n 1, 1) := by decide +kernel
theorem dX9_watch_2 : decode cX9_watch 2 = .ok (.invokevirtual 72, 3) := by decide +kernel
theorem dX9_watch_5 : decode cX9_watch 5 = .ok (.ifCond .ne 5, 3) := by decide +kernel
theorem dX9_watch_8 : decode cX9_watch 8 = .ok (.iconst (-1), 1) := by decide +kernel
theorem dX9_watch_9 : decode cX9_watch 9 = .ok (.ireturn, 1) := by decide +kernel
theorem dX9_watch_10 : decode cX9_watch 10 = .ok (.aload_n 0, 1) := by decide +kernel
theorem dX9_watch_11 : decode cX9_watch 11 = .ok (.bipush 12, 2) := by decide +kernel
theorem dX9_watch_13 : decode cX9_watch 13 = .ok (.iload_n 1, 1) := by decide +kernel
theorem dX9_watch_14 : decode cX9_watch 14 = .ok (.imul, 1) := by decide +kernel
theorem dX9_watch_15 : decode cX9_watch 15 = .ok (.bipush 11, 2) := by decide +kernel
theorem dX9_watch_17 : decode cX9_watch 17 = .ok (.iadd, 1) := by decide +kernel
theorem dX9_watch_18 : decode cX9_watch 18 = .ok (.iload_n 2, 1) := by decide +kernel
theorem dX9_watch_19 : decode cX9_watch 19 = .ok (.ifCond .eq 7, 3) := by decide +kernel
theorem dX9_watch_22 : decode cX9_watch 22 = .ok (.iconst 1, 1) := by decide +kernel
theorem dX9_watch_23 : decode cX9_watch 23 = .ok (.goto 4, 3) := by decide +kernel
theorem dX9_watch_26 : decode cX9_watch 26 = .ok (.iconst 0, 1) := by decide +kernel
theorem dX9_watch_27 : decode cX9_watch 27 = .ok (.invokevirtual 80, 3) := by decide +kernel
theorem dX9_watch_30 : decode cX9_watch 30 = .ok (.iload_n 2, 1) := by decide +kernel
theorem dX9_watch_31 : decode cX9_watch 31 = .ok (.ifCond .eq 7, 3) := by decide +kernel
theorem dX9_watch_34 : decode cX9_watch 34 = .ok (.iconst 1, 1) := by decide +kernel
theorem dX9_watch_35 : decode cX9_watch 35 = .ok (.goto 4, 3) := by decide +kernel
theorem dX9_watch_38 : decode cX9_watch 38 = .ok (.iconst 0, 1) := by decide +kernel
theorem dX9_watch_39 : decode cX9_watch 39 = .ok (.if_icmp .ne 7, 3) := by decide +kernel
theorem dX9_watch_42 : decode cX9_watch 42 = .ok (.iconst 0, 1) := by decide +kernel
theorem dX9_watch_43 : decode cX9_watch 43 = .ok (.goto 4, 3) := by decide +kernel
theorem dX9_watch_46 : decode cX9_watch 46 = .ok (.iconst 1, 1) := by decide +kernel
theorem dX9_watch_47 : decode cX9_watch 47 = .ok (.ireturn, 1) := by decide +kernel
def f_X9_watch (x1 : Int32) (x2 : Int32) (M : Mem) : Option (Int32 × Mem) := if (f_X9_isHall x1 M) = 0 then some ((-1 : Int32), M) else if x2 = 0 then (f_X9_becomes (((12 : Int32) * x1) + (11 : Int32)) (0 : Int32) M).bind fun q7 => if x2 = 0 then if q7.1 = (0 : Int32) then some ((0 : Int32), q7.2) else some ((1 : Int32), q7.2) else if q7.1 = (1 : Int32) then some ((0 : Int32), q7.2) else some ((1 : Int32), q7.2) else (f_X9_becomes (((12 : Int32) * x1) + (11 : Int32)) (1 : Int32) M).bind fun q14 => if x2 = 0 then if q14.1 = (0 : Int32) then some ((0 : Int32), q14.2) else some ((1 : Int32), q14.2) else if q14.1 = (1 : Int32) then some ((0 : Int32), q14.2) else some ((1 : Int32), q14.2)
set_option maxRecDepth 100000 in
set_option maxHeartbeats 4000000 in
theorem c_X9_watch (Z : Sys) {M : Mem} (hs : St M) (x1 : Int32) (x2 : Int32) {q : Int32 × Mem} (hf : f_X9_watch x1 x2 M = some q) : Ct Z yX9_watch cX9_watch 3 (some .int) rm_X9_watch [.ref (zs Z + 284), .int x1, .int x2] M False (PostI q.1 q.2) := by
  refine Ct.of (by decide +kernel) (Nat.le_of_ble_eq_true rfl) (fun X hR hq _ => ?_)
  show G Z X Y_X9_watch False 0 0 0 [(0, .ref (zs Z + 284)), (1, .int x1), (2, .int x2)] [] M
  replace hq : RetOk Z X (some .int) False (PostI q.1 q.2) 0 0 := hq
  unfold f_X9_watch at hf
  refine G.aload_n 0 0 dX9_watch_0 rfl rfl ?_
  refine G.iload_n 1 1 dX9_watch_1 rfl rfl ?_
  refine G.cvZ 2 (As := [.int x1]) ck_9 (hs.k k0_284) (c_X9_isHall Z hs x1 rfl) mk_X9_isHall vk_X9_isHall rfl wd_1407 hR (by decide +kernel) ⟨rfl, rfl⟩ rfl (Nat.le_of_ble_eq_true rfl) dX9_watch_2 (fun hs1 z2 => ?_)
  refine G.if_ne 5 10 dX9_watch_5 (by decide) (fun h3 => ?_) (fun h3 => ?_)
  · replace hf := (if_neg h3).symm.trans hf
    refine G.aload_n 10 0 dX9_watch_10 rfl rfl ?_
    refine G.bipush 11 (12 : Int32) dX9_watch_11 (by decide +kernel) ?_
    refine G.iload_n 13 1 dX9_watch_13 rfl rfl ?_
    refine G.imul 14 dX9_watch_14 ?_
    refine G.bipush 15 (11 : Int32) dX9_watch_15 (by decide +kernel) ?_
    refine G.iadd 17 dX9_watch_17 ?_
    refine G.iload_n 18 2 dX9_watch_18 rfl rfl ?_
    refine G.if_eq 19 26 dX9_watch_19 (by decide) (fun h4 => ?_) (fun h4 => ?_)
    · replace hf := (if_pos h4).symm.trans hf
      refine G.iconst 26 (0 : Int32) dX9_watch_26 (by decide +kernel) ?_
      obtain ⟨q7, e8, hf⟩ := bd_e hf
      refine G.cvI 27 (As := [.int (((12 : Int32) * x1) + (11 : Int32)), .int (0 : Int32)]) ck_9 (hs1.k k0_284) (c_X9_becomes Z hs1 (((12 : Int32) * x1) + (11 : Int32)) (0 : Int32) e8) mk_X9_becomes vk_X9_becomes rfl wd_1415 hR (by decide +kernel) ⟨rfl, rfl⟩ rfl (Nat.le_of_ble_eq_true rfl) dX9_watch_27 (fun hs5 => ?_)
      refine G.iload_n 30 2 dX9_watch_30 rfl rfl ?_
      refine G.if_eq 31 38 dX9_watch_31 (by decide) (fun h9 => ?_) (fun h9 => ?_)
      · replace hf := (if_pos h9).symm.trans hf
        refine G.iconst 38 (0 : Int32) dX9_watch_38 (by decide +kernel) ?_
        refine G.icmp_ne 39 46 dX9_watch_39 (by decide) (fun h10 => ?_) (fun h10 => ?_)
        · replace hf := (if_neg h10).symm.trans hf
          refine G.iconst 46 (1 : Int32) dX9_watch_46 (by decide +kernel) ?_
          (have hf9 := Option.some.inj hf; subst hf9)
          exact G.rI 47 hq dX9_watch_47 hs5
        · replace hf := (if_pos h10).symm.trans hf
          refine G.iconst 42 (0 : Int32) dX9_watch_42 (by decide +kernel) ?_
          refine G.goto 43 47 dX9_watch_43 (by decide) ?_
          (have hf9 := Option.some.inj hf; subst hf9)
          exact G.rI 47 hq dX9_watch_47 hs5
      · replace hf := (if_neg h9).symm.trans hf
        refine G.iconst 34 (1 : Int32) dX9_watch_34 (by decide +kernel) ?_
        refine G.goto 35 39 dX9_watch_35 (by decide) ?_
        refine G.icmp_ne 39 46 dX9_watch_39 (by decide) (fun h11 => ?_) (fun h11 => ?_)
        · replace hf := (if_neg h11).symm.trans hf
          refine G.iconst 46 (1 : Int32) dX9_watch_46 (by decide +kernel) ?_
          (have hf9 := Option.some.inj hf; subst hf9)
          exact G.rI 47 hq dX9_watch_47 hs5
        · replace hf := (if_pos h11).symm.trans hf
          refine G.iconst 42 (0 : Int32) dX9_watch_42 (by decide +kernel) ?_
          refine G.goto 43 47 dX9_watch_43 (by decide) ?_
          (have hf9 := Option.some.inj hf; subst hf9)
          exact G.rI 47 hq dX9_watch_47 hs5
    · replace hf := (if_neg h4).symm.trans hf
      refine G.iconst 22 (1 : Int32) dX9_watch_22 (by decide +kernel) ?_
      refine G.goto 23 27 dX9_watch_23 (by decide) ?_
      obtain ⟨q14, e15, hf⟩ := bd_e hf
      refine G.cvI 27 (As := [.int (((12 : Int32) * x1) + (11 : Int32)), .int (1 : Int32)]) ck_9 (hs1.k k0_284) (c_X9_becomes Z hs1 (((12 : Int32) * x1) + (11 : Int32)) (1 : Int32) e15) mk_X9_becomes vk_X9_becomes rfl wd_1415 hR (by decide +kernel) ⟨rfl, rfl⟩ rfl (Nat.le_of_ble_eq_true rfl) dX9_watch_27 (fun hs12 => ?_)
      refine G.iload_n 30 2 dX9_watch_30 rfl rfl ?_
      refine G.if_eq 31 38 dX9_watch_31 (by decide) (fun h16 => ?_) (fun h16 => ?_)
      · replace hf := (if_pos h16).symm.trans hf
        refine G.iconst 38 (0 : Int32) dX9_watch_38 (by decide +kernel) ?_
        refine G.icmp_ne 39 46 dX9_watch_39 (by decide) (fun h17 => ?_) (fun h17 => ?_)
        · replace hf := (if_neg h17).symm.trans hf
          refine G.iconst 46 (1 : Int32) dX9_watch_46 (by decide +kernel) ?_
          (have hf9 := Option.some.inj hf; subst hf9)
          exact G.rI 47 hq dX9_watch_47 hs12
        · replace hf := (if_pos h17).symm.trans hf
          refine G.iconst 42 (0 : Int32) dX9_watch_42 (by decide +kernel) ?_
          refine G.goto 43 47 dX9_watch_43 (by decide) ?_
          (have hf9 := Option.some.inj hf; subst hf9)
          exact G.rI 47 hq dX9_watch_47 hs12
      · replace hf := (if_neg h16).symm.trans hf
        refine G.iconst 34 (1 : Int32) dX9_watch_34 (by decide +kernel) ?_
        refine G.goto 35 39 dX9_watch_35 (by decide) ?_
        refine G.icmp_ne 39 46 dX9_watch_39 (by decide) (fun h18 => ?_) (fun h18 => ?_)
        · replace hf := (if_neg h18).symm.trans hf
          refine G.iconst 46 (1 : Int32) dX9_watch_46 (by decide +kernel) ?_
          (have hf9 := Option.some.inj hf; subst hf9)
          exact G.rI 47 hq dX9_watch_47 hs12
        · replace hf := (if_pos h18).symm.trans hf
          refine G.iconst 42 (0 : Int32) dX9_watch_42 (by decide +kernel) ?_
          refine G.goto 43 47 dX9_watch_43 (by decide) ?_
          (have hf9 := Option.some.inj hf; subst hf9)
          exact G.rI 47 hq dX9_watch_47 hs12
  · replace hf := (if_pos h3).symm.trans hf
    refine G.iconst 8 (-1 : Int32) dX9_watch_8 (by decide +kernel) ?_
    (have hf9 := Option.some.inj hf; subst hf9)
    exact G.rI 9 hq dX9_watch_9 hs1
abbrev Y_X9_ways : My := (cX9_ways, RX9, 5)
def rm_X9_ways : Room := { frames := 4, cells := 0, slots := 0, locals := 265 }
theorem dX9_ways_0 : decode cX9_ways 0 = .ok (.iload_n 1, 1) := by decide +kernel
theorem dX9_ways_1 : decode cX9_ways 1 = .ok (.i2l, 1) := by decide +kernel
theorem dX9_ways_2 : decode cX9_ways 2 = .ok (.lconst 0, 1) := by decide +kernel
theorem dX9_ways_3 : decode cX9_ways 3 = .ok (.lconst 1, 1) := by decide +kernel
theorem dX9_ways_4 : decode cX9_ways 4 = .ok (.invokestatic 62, 3) := by decide +kernel
theorem dX9_ways_7 : decode cX9_ways 7 = .ok (.ifCond .ne 5, 3) := by decide +kernel
theorem dX9_ways_10 : decode cX9_ways 10 = .ok (.iconst (-1), 1) := by decide +kernel
theorem dX9_ways_11 : decode cX9_ways 11 = .ok (.ireturn, 1) := by decide +kernel
theorem dX9_ways_12 : decode cX9_ways 12 = .ok (.aload_n 0, 1) := by decide +kernel
theorem dX9_ways_13 : decode cX9_ways 13 = .ok (.invokevirtual 151, 3) := by decide +kernel
theorem dX9_ways_16 : decode cX9_ways 16 = .ok (.istore_n 2, 1) := by decide +kernel
theorem dX9_ways_17 : decode cX9_ways 17 = .ok (.aload_n 0, 1) := by decide +kernel
theorem dX9_ways_18 : decode cX9_ways 18 = .ok (.getfield 145, 3) := by decide +kernel
theorem dX9_ways_21 : decode cX9_ways 21 = .ok (.bipush 14, 2) := by decide +kernel
theorem dX9_ways_23 : decode cX9_ways 23 = .ok (.if_icmp .le 6, 3) := by decide +kernel
theorem dX9_ways_26 : decode cX9_ways 26 = .ok (.bipush (-3), 2) := by decide +kernel
theorem dX9_ways_28 : decode cX9_ways 28 = .ok (.ireturn, 1) := by decide +kernel
theorem dX9_ways_29 : decode cX9_ways 29 = .ok (.aload_n 0, 1) := by decide +kernel
theorem dX9_ways_30 : decode cX9_ways 30 = .ok (.getfield 148, 3) := by decide +kernel
theorem dX9_ways_33 : decode cX9_ways 33 = .ok (.ifCond .eq 14, 3) := by decide +kernel
theorem dX9_ways_36 : decode cX9_ways 36 = .ok (.aload_n 0, 1) := by decide +kernel
theorem dX9_ways_37 : decode cX9_ways 37 = .ok (.getfield 148, 3) := by decide +kernel
theorem dX9_ways_40 : decode cX9_ways 40 = .ok (.aload_n 0, 1) := by decide +kernel
theorem dX9_ways_41 : decode cX9_ways 41 = .ok (.getfield 145, 3) := by decide +kernel
theorem dX9_ways_44 : decode cX9_ways 44 = .ok (.if_icmp .ne 6, 3) := by decide +kernel
theorem dX9_ways_47 : decode cX9_ways 47 = .ok (.bipush (-4), 2) := by decide +kernel
theorem dX9_ways_49 : decode cX9_ways 49 = .ok (.ireturn, 1) := by decide +kernel
theorem dX9_ways_50 : decode cX9_ways 50 = .ok (.iconst 0, 1) := by decide +kernel
theorem dX9_ways_51 : decode cX9_ways 51 = .ok (.istore_n 3, 1) := by decide +kernel
theorem dX9_ways_52 : decode cX9_ways 52 = .ok (.iconst 0, 1) := by decide +kernel
theorem dX9_ways_53 : decode cX9_ways 53 = .ok (.istore 4, 2) := by decide +kernel
theorem dX9_ways_55 : decode cX9_ways 55 = .ok (.iload 4, 2) := by decide +kernel
theorem dX9_ways_57 : decode cX9_ways 57 = .ok (.iconst 1, 1) := by decide +kernel
theorem dX9_ways_58 : decode cX9_ways 58 = .ok (.aload_n 0, 1) := by decide +kernel
theorem dX9_ways_59 : decode cX9_ways 59 = .ok (.getfield 145, 3) := by decide +kernel
theorem dX9_ways_62 : decode cX9_ways 62 = .ok (.ishl, 1) := by decide +kernel
theorem dX9_ways_63 : decode cX9_ways 63 = .ok (.if_icmp .ge 48, 3) := by decide +kernel
theorem dX9_ways_66 : decode cX9_ways 66 = .ok (.iload_n 3, 1) := by decide +kernel
theorem dX9_ways_67 : decode cX9_ways 67 = .ok (.iload 4, 2) := by decide +kernel
theorem dX9_ways_69 : decode cX9_ways 69 = .ok (.invokestatic 157, 3) := by decide +kernel
theorem dX9_ways_72 : decode cX9_ways 72 = .ok (.aload_n 0, 1) := by decide +kernel
theorem dX9_ways_73 : decode cX9_ways 73 = .ok (.getfield 148, 3) := by decide +kernel
theorem dX9_ways_76 : decode cX9_ways 76 = .ok (.if_icmp .ne 26, 3) := by decide +kernel
theorem dX9_ways_79 : decode cX9_ways 79 = .ok (.iload_n 1, 1) := by decide +kernel
theorem dX9_ways_80 : decode cX9_ways 80 = .ok (.iconst 1, 1) := by decide +kernel
theorem dX9_ways_81 : decode cX9_ways 81 = .ok (.if_icmp .eq 17, 3) := by decide +kernel
theorem dX9_ways_84 : decode cX9_ways 84 = .ok (.aload_n 0, 1) := by decide +kernel
theorem dX9_ways_85 : decode cX9_ways 85 = .ok (.iload 4, 2) := by decide +kernel
theorem dX9_ways_87 : decode cX9_ways 87 = .ok (.invokevirtual 154, 3) := by decide +kernel
theorem dX9_ways_90 : decode cX9_ways 90 = .ok (.aload_n 0, 1) := by decide +kernel
theorem dX9_ways_91 : decode cX9_ways 91 = .ok (.iload_n 2, 1) := by decide +kernel
theorem dX9_ways_92 : decode cX9_ways 92 = .ok (.invokevirtual 154, 3) := by decide +kernel
theorem dX9_ways_95 : decode cX9_ways 95 = .ok (.if_icmp .gt 7, 3) := by decide +kernel
theorem dX9_ways_98 : decode cX9_ways 98 = .ok (.iconst 1, 1) := by decide +kernel
theorem dX9_ways_99 : decode cX9_ways 99 = .ok (.goto 4, 3) := by decide +kernel
theorem dX9_ways_102 : decode cX9_ways 102 = .ok (.iconst 0, 1) := by decide +kernel
theorem dX9_ways_103 : decode cX9_ways 103 = .ok (.iadd, 1) := by decide +kernel
theorem dX9_ways_104 : decode cX9_ways 104 = .ok (.istore_n 3, 1) := by decide +kernel
theorem dX9_ways_105 : decode cX9_ways 105 = .ok (.iinc 4 1, 3) := by decide +kernel
theorem dX9_ways_108 : decode cX9_ways 108 = .ok (.goto (-53), 3) := by decide +kernel
theorem dX9_ways_111 : decode cX9_ways 111 = .ok (.iload_n 3, 1) := by decide +kernel
theorem dX9_ways_112 : decode cX9_ways 112 = .ok (.ireturn, 1) := by decide +kernel
def L_X9_ways_55 : Nat → Int32 → Int32 → Int32 → Int32 → Mem → Option (Int32 × Mem)
  | 0, _, _, _, _, _ => none
  | n + 1, x1, x2, x3, x4, M => if ((1 : Int32) <<< ((mI M 284 13) &&& 31)) ≤ x4 then some (x3, M) else (f_X9_bits x4).bind fun q14 => if q14 = (mI M 284 14) then if x1 = (1 : Int32) then L_X9_ways_55 n x1 x2 (x3 + (1 : Int32)) (x4 + 1) M else (f_X9_costOf x4 M).bind fun q20 => (f_X9_costOf x2 M).bind fun q24 => if q24 < q20 then L_X9_ways_55 n x1 x2 (x3 + (0 : Int32)) (x4 + 1) M else L_X9_ways_55 n x1 x2 (x3 + (1 : Int32)) (x4 + 1) M else L_X9_ways_55 n x1 x2 (x3 + (0 : Int32)) (x4 + 1) M
def f_X9_ways (x1 : Int32) (M : Mem) : Option (Int32 × Mem) := if (f_X9_isIn x1.toInt64 (0 : Int64) (1 : Int64)) = 0 then some ((-1 : Int32), M) else (f_X9_findWatched M).bind fun q6 => if (mI q6.2 284 13) ≤ (14 : Int32) then if (mI q6.2 284 14) = 0 then some ((-4 : Int32), q6.2) else if (mI q6.2 284 14) = (mI q6.2 284 13) then some ((-4 : Int32), q6.2) else L_X9_ways_55 FU x1 q6.1 (0 : Int32) (0 : Int32) q6.2 else some ((-3 : Int32), q6.2)
set_option maxRecDepth 100000 in
set_option maxHeartbeats 4000000 in
theorem l_X9_ways_55 (Z : Sys) (X : Cx) (hR : xR X = rm_X9_ways) {q : Int32 × Mem} (hq : RetOk Z X (some .int) False (PostI q.1 q.2) 0 0) : ∀ (n : Nat) (x1 : Int32) (x2 : Int32) (x3 : Int32) (x4 : Int32) (M : Mem) (hs : St M) (hf : L_X9_ways_55 n x1 x2 x3 x4 M = some q), G Z X Y_X9_ways False 0 0 55 [(0, .ref (zs Z + 284)), (1, .int x1), (2, .int x2), (3, .int x3), (4, .int x4)] [] M := by
  intro n
  induction n with
  | zero => intro x1 x2 x3 x4 M hs  hf; cases hf
  | succ n ih =>
    intro x1 x2 x3 x4 M hs  hf
    unfold L_X9_ways_55 at hf
    refine G.iload 55 4 dX9_ways_55 rfl ?_
    refine G.iconst 57 (1 : Int32) dX9_ways_57 (by decide +kernel) ?_
    refine G.aload_n 58 0 dX9_ways_58 rfl rfl ?_
    refine G.geti 59 ck_9 13 (hs.k k0_284) (by decide) (by decide +kernel) wd_1318 dX9_ways_59 ?_
    refine G.ishl 62 dX9_ways_62 ?_
    refine G.icmp_ge 63 111 dX9_ways_63 (by decide) (fun h11 => ?_) (fun h11 => ?_)
    · replace hf := (if_pos h11).symm.trans hf
      refine G.iload_n 111 3 dX9_ways_111 rfl rfl ?_
      (have hf9 := Option.some.inj hf; subst hf9)
      exact G.rI 112 hq dX9_ways_112 hs
    · replace hf := (if_neg h11).symm.trans hf
      refine G.iload_n 66 3 dX9_ways_66 rfl rfl ?_
      refine G.iload 67 4 dX9_ways_67 rfl ?_
      obtain ⟨q14, e15, hf⟩ := bd_e hf
      refine G.csI 69 (As := [.int x4]) (c_X9_bits Z hs x4 e15) mk_X9_bits wd_1550 wd_1549 hR (by decide +kernel) ⟨rfl, rfl⟩ rfl (Nat.le_of_ble_eq_true rfl) dX9_ways_69 (fun hs12 => ?_)
      refine G.aload_n 72 0 dX9_ways_72 rfl rfl ?_
      refine G.geti 73 ck_9 14 (hs12.k k0_284) (by decide) (by decide +kernel) wd_1319 dX9_ways_73 ?_
      refine G.icmp_ne 76 102 dX9_ways_76 (by decide) (fun h16 => ?_) (fun h16 => ?_)
      · replace hf := (if_neg h16).symm.trans hf
        refine G.iconst 102 (0 : Int32) dX9_ways_102 (by decide +kernel) ?_
        refine G.iadd 103 dX9_ways_103 ?_
        refine G.istore_n 104 [(3, .int (x3 + (0 : Int32))), (0, .ref (zs Z + 284)), (1, .int x1), (2, .int x2), (4, .int x4)] dX9_ways_104 rfl (Nat.le_of_ble_eq_true rfl) rfl ?_
        refine G.iinc 105 4 (x4 + 1) [(4, .int (x4 + 1)), (3, .int (x3 + (0 : Int32))), (0, .ref (zs Z + 284)), (1, .int x1), (2, .int x2)] dX9_ways_105 rfl (congrArg (fun z => x4 + z) (by decide +kernel)) (Nat.le_of_ble_eq_true rfl) rfl ?_
        refine G.goto 108 55 dX9_ways_108 (by decide) ?_
        refine G.locs [2, 3, 4, 1, 0] rfl ?_
        exact ih x1 x2 (x3 + (0 : Int32)) (x4 + 1) M hs12 hf
      · replace hf := (if_pos h16).symm.trans hf
        refine G.iload_n 79 1 dX9_ways_79 rfl rfl ?_
        refine G.iconst 80 (1 : Int32) dX9_ways_80 (by decide +kernel) ?_
        refine G.icmp_eq 81 98 dX9_ways_81 (by decide) (fun h17 => ?_) (fun h17 => ?_)
        · replace hf := (if_pos h17).symm.trans hf
          refine G.iconst 98 (1 : Int32) dX9_ways_98 (by decide +kernel) ?_
          refine G.goto 99 103 dX9_ways_99 (by decide) ?_
          refine G.iadd 103 dX9_ways_103 ?_
          refine G.istore_n 104 [(3, .int (x3 + (1 : Int32))), (0, .ref (zs Z + 284)), (1, .int x1), (2, .int x2), (4, .int x4)] dX9_ways_104 rfl (Nat.le_of_ble_eq_true rfl) rfl ?_
          refine G.iinc 105 4 (x4 + 1) [(4, .int (x4 + 1)), (3, .int (x3 + (1 : Int32))), (0, .ref (zs Z + 284)), (1, .int x1), (2, .int x2)] dX9_ways_105 rfl (congrArg (fun z => x4 + z) (by decide +kernel)) (Nat.le_of_ble_eq_true rfl) rfl ?_
          refine G.goto 108 55 dX9_ways_108 (by decide) ?_
          refine G.locs [2, 3, 4, 1, 0] rfl ?_
          exact ih x1 x2 (x3 + (1 : Int32)) (x4 + 1) M hs12 hf
        · replace hf := (if_neg h17).symm.trans hf
          refine G.aload_n 84 0 dX9_ways_84 rfl rfl ?_
          refine G.iload 85 4 dX9_ways_85 rfl ?_
          obtain ⟨q20, e21, hf⟩ := bd_e hf
          refine G.cvI 87 (As := [.int x4]) ck_9 (hs12.k k0_284) (c_X9_costOf Z hs12 x4 e21) mk_X9_costOf vk_X9_costOf rfl wd_1541 hR (by decide +kernel) ⟨rfl, rfl⟩ rfl (Nat.le_of_ble_eq_true rfl) dX9_ways_87 (fun hs18 => ?_)
          refine G.aload_n 90 0 dX9_ways_90 rfl rfl ?_
          refine G.iload_n 91 2 dX9_ways_91 rfl rfl ?_
          obtain ⟨q24, e25, hf⟩ := bd_e hf
          refine G.cvI 92 (As := [.int x2]) ck_9 (hs18.k k0_284) (c_X9_costOf Z hs18 x2 e25) mk_X9_costOf vk_X9_costOf rfl wd_1541 hR (by decide +kernel) ⟨rfl, rfl⟩ rfl (Nat.le_of_ble_eq_true rfl) dX9_ways_92 (fun hs22 => ?_)
          refine G.icmp_gt 95 102 dX9_ways_95 (by decide) (fun h26 => ?_) (fun h26 => ?_)
          · replace hf := (if_pos h26).symm.trans hf
            refine G.iconst 102 (0 : Int32) dX9_ways_102 (by decide +kernel) ?_
            refine G.iadd 103 dX9_ways_103 ?_
            refine G.istore_n 104 [(3, .int (x3 + (0 : Int32))), (0, .ref (zs Z + 284)), (1, .int x1), (2, .int x2), (4, .int x4)] dX9_ways_104 rfl (Nat.le_of_ble_eq_true rfl) rfl ?_
            refine G.iinc 105 4 (x4 + 1) [(4, .int (x4 + 1)), (3, .int (x3 + (0 : Int32))), (0, .ref (zs Z + 284)), (1, .int x1), (2, .int x2)] dX9_ways_105 rfl (congrArg (fun z => x4 + z) (by decide +kernel)) (Nat.le_of_ble_eq_true rfl) rfl ?_
            refine G.goto 108 55 dX9_ways_108 (by decide) ?_
            refine G.locs [2, 3, 4, 1, 0] rfl ?_
            exact ih x1 x2 (x3 + (0 : Int32)) (x4 + 1) M hs22 hf
          · replace hf := (if_neg h26).symm.trans hf
            refine G.iconst 98 (1 : Int32) dX9_ways_98 (by decide +kernel) ?_
            refine G.goto 99 103 dX9_ways_99 (by decide) ?_
            refine G.iadd 103 dX9_ways_103 ?_
            refine G.istore_n 104 [(3, .int (x3 + (1 : Int32))), (0, .ref (zs Z + 284)), (1, .int x1), (2, .int x2), (4, .int x4)] dX9_ways_104 rfl (Nat.le_of_ble_eq_true rfl) rfl ?_
            refine G.iinc 105 4 (x4 + 1) [(4, .int (x4 + 1)), (3, .int (x3 + (1 : Int32))), (0, .ref (zs Z + 284)), (1, .int x1), (2, .int x2)] dX9_ways_105 rfl (congrArg (fun z => x4 + z) (by decide +kernel)) (Nat.le_of_ble_eq_true rfl) rfl ?_
            refine G.goto 108 55 dX9_ways_108 (by decide) ?_
            refine G.locs [2, 3, 4, 1, 0] rfl ?_
            exact ih x1 x2 (x3 + (1 : Int32)) (x4 + 1) M hs22 hf
set_option maxRecDepth 100000 in
set_option maxHeartbeats 4000000 in
theorem c_X9_ways (Z : Sys) {M : Mem} (hs : St M) (x1 : Int32) {q : Int32 × Mem} (hf : f_X9_ways x1 M = some q) : Ct Z yX9_ways cX9_ways 5 (some .int) rm_X9_ways [.ref (zs Z + 284), .int x1] M False (PostI q.1 q.2) := by
  refine Ct.of (by decide +kernel) (Nat.le_of_ble_eq_true rfl) (fun X hR hq _ => ?_)
  show G Z X Y_X9_ways False 0 0 0 [(0, .ref (zs Z + 284)), (1, .int x1)] [] M
  replace hq : RetOk Z X (some .int) False (PostI q.1 q.2) 0 0 := hq
  unfold f_X9_ways at hf
  refine G.iload_n 0 1 dX9_ways_0 rfl rfl ?_
  refine G.i2l 1 dX9_ways_1 ?_
  refine G.lconst 2 (0 : Int64) dX9_ways_2 (by decide +kernel) ?_
  refine G.lconst 3 (1 : Int64) dX9_ways_3 (by decide +kernel) ?_
  refine G.csZ 4 (As := [.long x1.toInt64, .long (0 : Int64), .long (1 : Int64)]) (c_X9_isIn Z hs x1.toInt64 (0 : Int64) (1 : Int64) rfl) mk_X9_isIn wd_1400 wd_1399 hR (by decide +kernel) ⟨rfl, rfl⟩ rfl (Nat.le_of_ble_eq_true rfl) dX9_ways_4 (fun hs1 z2 => ?_)
  refine G.if_ne 7 12 dX9_ways_7 (by decide) (fun h3 => ?_) (fun h3 => ?_)
  · replace hf := (if_neg h3).symm.trans hf
    refine G.aload_n 12 0 dX9_ways_12 rfl rfl ?_
    obtain ⟨q6, e7, hf⟩ := bd_e hf
    refine G.cvI 13 (As := []) ck_9 (hs1.k k0_284) (c_X9_findWatched Z hs1 e7) mk_X9_findWatched vk_X9_findWatched rfl wd_1537 hR (by decide +kernel) ⟨rfl, rfl⟩ rfl (Nat.le_of_ble_eq_true rfl) dX9_ways_13 (fun hs4 => ?_)
    refine G.istore_n 16 [(2, .int q6.1), (0, .ref (zs Z + 284)), (1, .int x1)] dX9_ways_16 rfl (Nat.le_of_ble_eq_true rfl) rfl ?_
    refine G.aload_n 17 1 dX9_ways_17 rfl rfl ?_
    refine G.geti 18 ck_9 13 (hs4.k k0_284) (by decide) (by decide +kernel) wd_1318 dX9_ways_18 ?_
    refine G.bipush 21 (14 : Int32) dX9_ways_21 (by decide +kernel) ?_
    refine G.icmp_le 23 29 dX9_ways_23 (by decide) (fun h8 => ?_) (fun h8 => ?_)
    · replace hf := (if_pos h8).symm.trans hf
      refine G.aload_n 29 1 dX9_ways_29 rfl rfl ?_
      refine G.geti 30 ck_9 14 (hs4.k k0_284) (by decide) (by decide +kernel) wd_1319 dX9_ways_30 ?_
      refine G.if_eq 33 47 dX9_ways_33 (by decide) (fun h9 => ?_) (fun h9 => ?_)
      · replace hf := (if_pos h9).symm.trans hf
        refine G.bipush 47 (-4 : Int32) dX9_ways_47 (by decide +kernel) ?_
        (have hf9 := Option.some.inj hf; subst hf9)
        exact G.rI 49 hq dX9_ways_49 hs4
      · replace hf := (if_neg h9).symm.trans hf
        refine G.aload_n 36 1 dX9_ways_36 rfl rfl ?_
        refine G.geti 37 ck_9 14 (hs4.k k0_284) (by decide) (by decide +kernel) wd_1319 dX9_ways_37 ?_
        refine G.aload_n 40 1 dX9_ways_40 rfl rfl ?_
        refine G.geti 41 ck_9 13 (hs4.k k0_284) (by decide) (by decide +kernel) wd_1318 dX9_ways_41 ?_
        refine G.icmp_ne 44 50 dX9_ways_44 (by decide) (fun h10 => ?_) (fun h10 => ?_)
        · replace hf := (if_neg h10).symm.trans hf
          refine G.iconst 50 (0 : Int32) dX9_ways_50 (by decide +kernel) ?_
          refine G.istore_n 51 [(3, .int (0 : Int32)), (2, .int q6.1), (0, .ref (zs Z + 284)), (1, .int x1)] dX9_ways_51 rfl (Nat.le_of_ble_eq_true rfl) rfl ?_
          refine G.iconst 52 (0 : Int32) dX9_ways_52 (by decide +kernel) ?_
          refine G.istore 53 [(4, .int (0 : Int32)), (3, .int (0 : Int32)), (2, .int q6.1), (0, .ref (zs Z + 284)), (1, .int x1)] dX9_ways_53 (Nat.le_of_ble_eq_true rfl) rfl ?_
          refine G.locs [3, 4, 2, 1, 0] rfl ?_
          exact l_X9_ways_55 Z X hR hq FU x1 q6.1 (0 : Int32) (0 : Int32) q6.2 hs4 hf
        · replace hf := (if_pos h10).symm.trans hf
          refine G.bipush 47 (-4 : Int32) dX9_ways_47 (by decide +kernel) ?_
          (have hf9 := Option.some.inj hf; subst hf9)
          exact G.rI 49 hq dX9_ways_49 hs4
    · replace hf := (if_neg h8).symm.trans hf
      refine G.bipush 26 (-3 : Int32) dX9_ways_26 (by decide +kernel) ?_
      (have hf9 := Option.some.inj hf; subst hf9)
      exact G.rI 28 hq dX9_ways_28 hs4
  · replace hf := (if_pos h3).symm.trans hf
    refine G.iconst 10 (-1 : Int32) dX9_ways_10 (by decide +kernel) ?_
    (have hf9 := Option.some.inj hf; subst hf9)
    exact G.rI 11 hq dX9_ways_11 hs1
abbrev Y_X9_weight : My := (cX9_weight, RX9, 3)
def rm_X9_weight : Room := { frames := 4, cells := 0, slots := 0, locals := 266 }
theorem dX9_weight_0 : decode cX9_weight 0 = .ok (.aload_n 0, 1) := by decide +kernel
theorem dX9_weight_1 : decode cX9_weight 1 = .ok (.iload_n 1, 1) := by decide +kernel
theorem dX9_weight_2 : decode cX9_weight 2 = .ok (.invokevirtual 301, 3) := by decide +kernel
theorem dX9_weight_5 : decode cX9_weight 5 = .ok (.istore_n 2, 1) := by decide +kernel
theorem dX9_weight_6 : decode cX9_weight 6 = .ok (.iload_n 2, 1) := by decide +kernel
theorem dX9_weight_7 : decode cX9_weight 7 = .ok (.ifCond .eq 7, 3) := by decide +kernel
theorem dX9_weight_10 : decode cX9_weight 10 = .ok (.iload_n 2, 1) := by decide +kernel
theorem dX9_weight_11 : decode cX9_weight 11 = .ok (.goto 9, 3) := by decide +kernel
theorem dX9_weight_14 : decode cX9_weight 14 = .ok (.aload_n 0, 1) := by decide +kernel
theorem dX9_weight_15 : decode cX9_weight 15 = .ok (.getfield 28, 3) := by decide +kernel
theorem dX9_weight_18 : decode cX9_weight 18 = .ok (.iload_n 1, 1) := by decide +kernel
theorem dX9_weight_19 : decode cX9_weight 19 = .ok (.iaload, 1) := by decide +kernel
theorem dX9_weight_20 : decode cX9_weight 20 = .ok (.ireturn, 1) := by decide +kernel
def f_X9_weight (x1 : Int32) (M : Mem) : Option Int32 := (f_X9_wrongKept x1 M).bind fun q3 => if q3 = 0 then gd (inR x1 8) (some (mI M 291 x1.toNatClampNeg)) else some q3
set_option maxRecDepth 100000 in
set_option maxHeartbeats 4000000 in
theorem c_X9_weight (Z : Sys) {M : Mem} (hs : St M) (x1 : Int32) {q : Int32} (hf : f_X9_weight x1 M = some q) : Ct Z yX9_weight cX9_weight 3 (some .int) rm_X9_weight [.ref (zs Z + 284), .int x1] M False (PostI q M) := by
  refine Ct.of (by decide +kernel) (Nat.le_of_ble_eq_true rfl) (fun X hR hq _ => ?_)
  show G Z X Y_X9_weight False 0 0 0 [(0, .ref (zs Z + 284)), (1, .int x1)] [] M
  replace hq : RetOk Z X (some .int) False (PostI q M) 0 0 := hq
  unfold f_X9_weight at hf
  refine G.aload_n 0 0 dX9_weight_0 rfl rfl ?_
  refine G.iload_n 1 1 dX9_weight_1 rfl rfl ?_
  obtain ⟨q3, e4, hf⟩ := bd_e hf
  refine G.cvI 2 (As := [.int x1]) ck_9 (hs.k k0_284) (c_X9_wrongKept Z hs x1 e4) mk_X9_wrongKept vk_X9_wrongKept rfl wd_1776 hR (by decide +kernel) ⟨rfl, rfl⟩ rfl (Nat.le_of_ble_eq_true rfl) dX9_weight_2 (fun hs1 => ?_)
  refine G.istore_n 5 [(2, .int q3), (0, .ref (zs Z + 284)), (1, .int x1)] dX9_weight_5 rfl (Nat.le_of_ble_eq_true rfl) rfl ?_
  refine G.iload_n 6 0 dX9_weight_6 rfl rfl ?_
  refine G.if_eq 7 14 dX9_weight_7 (by decide) (fun h5 => ?_) (fun h5 => ?_)
  · replace hf := (if_pos h5).symm.trans hf
    refine G.aload_n 14 1 dX9_weight_14 rfl rfl ?_
    refine G.getp 15 ck_9 6 291 (hs1.k k0_284) (pc_9_6 hs1) (by decide) (by decide +kernel) wd_1311 dX9_weight_15 ?_
    refine G.iload_n 18 2 dX9_weight_18 rfl rfl ?_
    obtain ⟨g6, hf⟩ := gd_e hf
    refine G.ia 19 x1.toNatClampNeg (hs1.k k0_291) g6 rfl dX9_weight_19 ?_
    (have hf9 := Option.some.inj hf; subst hf9)
    exact G.rI 20 hq dX9_weight_20 hs1
  · replace hf := (if_neg h5).symm.trans hf
    refine G.iload_n 10 0 dX9_weight_10 rfl rfl ?_
    refine G.goto 11 20 dX9_weight_11 (by decide) ?_
    (have hf9 := Option.some.inj hf; subst hf9)
    exact G.rI 20 hq dX9_weight_20 hs1
abbrev Y_X9_won : My := (cX9_won, RX9, 3)
def rm_X9_won : Room := { frames := 5, cells := 0, slots := 0, locals := 289 }
theorem dX9_won_0 : decode cX9_won 0 = .ok (.iconst 0, 1) := by decide +kernel
theorem dX9_won_1 : decode cX9_won 1 = .ok (.istore_n 1, 1) := by decide +kernel
theorem dX9_won_2 : decode cX9_won 2 = .ok (.iconst 0, 1) := by decide +kernel
theorem dX9_won_3 : decode cX9_won 3 = .ok (.istore_n 2, 1) := by decide +kernel
theorem dX9_won_4 : decode cX9_won 4 = .ok (.iload_n 2, 1) := by decide +kernel
theorem dX9_won_5 : decode cX9_won 5 = .ok (.iconst 4, 1) := by decide +kernel
theorem dX9_won_6 : decode cX9_won 6 = .ok (.if_icmp .ge 27, 3) := by decide +kernel
theorem dX9_won_9 : decode cX9_won 9 = .ok (.iload_n 1, 1) := by decide +kernel
theorem dX9_won_10 : decode cX9_won 10 = .ok (.iconst 2, 1) := by decide +kernel
theorem dX9_won_11 : decode cX9_won 11 = .ok (.aload_n 0, 1) := by decide +kernel
theorem dX9_won_12 : decode cX9_won 12 = .ok (.iload_n 2, 1) := by decide +kernel
theorem dX9_won_13 : decode cX9_won 13 = .ok (.iconst 1, 1) := by decide +kernel
theorem dX9_won_14 : decode cX9_won 14 = .ok (.invokevirtual 169, 3) := by decide +kernel
theorem dX9_won_17 : decode cX9_won 17 = .ok (.imul, 1) := by decide +kernel
theorem dX9_won_18 : decode cX9_won 18 = .ok (.aload_n 0, 1) := by decide +kernel
theorem dX9_won_19 : decode cX9_won 19 = .ok (.iload_n 2, 1) := by decide +kernel
theorem dX9_won_20 : decode cX9_won 20 = .ok (.iconst 0, 1) := by decide +kernel
theorem dX9_won_21 : decode cX9_won 21 = .ok (.invokevirtual 169, 3) := by decide +kernel
theorem dX9_won_24 : decode cX9_won 24 = .ok (.isub, 1) := by decide +kernel
theorem dX9_won_25 : decode cX9_won 25 = .ok (.iadd, 1) := by decide +kernel
theorem dX9_won_26 : decode cX9_won 26 = .ok (.istore_n 1, 1) := by decide +kernel
theorem dX9_won_27 : decode cX9_won 27 = .ok (.iinc 2 1, 3) := by decide +kernel
theorem dX9_won_30 : decode cX9_won 30 = .ok (.goto (-26), 3) := by decide +kernel
theorem dX9_won_33 : decode cX9_won 33 = .ok (.iload_n 1, 1) := by decide +kernel
theorem dX9_won_34 : decode cX9_won 34 = .ok (.ifCond .le 7, 3) := by decide +kernel
theorem dX9_won_37 : decode cX9_won 37 = .ok (.iconst 1, 1) := by decide +kernel
theorem dX9_won_38 : decode cX9_won 38 = .ok (.goto 4, 3) := by decide +kernel
theorem dX9_won_41 : decode cX9_won 41 = .ok (.iconst 0, 1) := by decide +kernel
theorem dX9_won_42 : decode cX9_won 42 = .ok (.ireturn, 1) := by decide +kernel
def B_X9_won_33 (x1 : Int32) (M : Mem) : Option Int32 := if x1 ≤ 0 then some (0 : Int32) else some (1 : Int32)
def L_X9_won_4 : Nat → Int32 → Int32 → Mem → Option Int32
  | 0, _, _, _ => none
  | n + 1, x1, x2, M => if (4 : Int32) ≤ x2 then B_X9_won_33 x1 M else (f_X9_sentUp x2 (1 : Int32) M).bind fun q5 => (f_X9_sentUp x2 (0 : Int32) M).bind fun q9 => L_X9_won_4 n (x1 + (((2 : Int32) * q5) - q9)) (x2 + 1) M
def f_X9_won (M : Mem) : Option Int32 := L_X9_won_4 FU (0 : Int32) (0 : Int32) M
set_option maxRecDepth 100000 in
set_option maxHeartbeats 4000000 in
theorem b_X9_won_33 (Z : Sys) (X : Cx) (hR : xR X = rm_X9_won) {q : Int32} {M : Mem} (hq : RetOk Z X (some .int) False (PostI q M) 0 0) (x1 : Int32) (hs : St M) (hf : B_X9_won_33 x1 M = some q) : G Z X Y_X9_won False 0 0 33 [(1, .int x1)] [] M := by
  unfold B_X9_won_33 at hf
  refine G.iload_n 33 0 dX9_won_33 rfl rfl ?_
  refine G.if_le 34 41 dX9_won_34 (by decide) (fun h2 => ?_) (fun h2 => ?_)
  · replace hf := (if_pos h2).symm.trans hf
    refine G.iconst 41 (0 : Int32) dX9_won_41 (by decide +kernel) ?_
    (have hf9 := Option.some.inj hf; subst hf9)
    exact G.rI 42 hq dX9_won_42 hs
  · replace hf := (if_neg h2).symm.trans hf
    refine G.iconst 37 (1 : Int32) dX9_won_37 (by decide +kernel) ?_
    refine G.goto 38 42 dX9_won_38 (by decide) ?_
    (have hf9 := Option.some.inj hf; subst hf9)
    exact G.rI 42 hq dX9_won_42 hs
set_option maxRecDepth 100000 in
set_option maxHeartbeats 4000000 in
theorem l_X9_won_4 (Z : Sys) (X : Cx) (hR : xR X = rm_X9_won) {q : Int32} {M : Mem} (hq : RetOk Z X (some .int) False (PostI q M) 0 0) : ∀ (n : Nat) (x1 : Int32) (x2 : Int32) (hs : St M) (hf : L_X9_won_4 n x1 x2 M = some q), G Z X Y_X9_won False 0 0 4 [(0, .ref (zs Z + 284)), (1, .int x1), (2, .int x2)] [] M := by
  intro n
  induction n with
  | zero => intro x1 x2 hs  hf; cases hf
  | succ n ih =>
    intro x1 x2 hs  hf
    unfold L_X9_won_4 at hf
    refine G.iload_n 4 2 dX9_won_4 rfl rfl ?_
    refine G.iconst 5 (4 : Int32) dX9_won_5 (by decide +kernel) ?_
    refine G.icmp_ge 6 33 dX9_won_6 (by decide) (fun h1 => ?_) (fun h1 => ?_)
    · replace hf := (if_pos h1).symm.trans hf
      refine G.locs [1] rfl ?_
      exact b_X9_won_33 Z X hR hq x1 hs hf
    · replace hf := (if_neg h1).symm.trans hf
      refine G.iload_n 9 1 dX9_won_9 rfl rfl ?_
      refine G.iconst 10 (2 : Int32) dX9_won_10 (by decide +kernel) ?_
      refine G.aload_n 11 0 dX9_won_11 rfl rfl ?_
      refine G.iload_n 12 2 dX9_won_12 rfl rfl ?_
      refine G.iconst 13 (1 : Int32) dX9_won_13 (by decide +kernel) ?_
      obtain ⟨q5, e6, hf⟩ := bd_e hf
      refine G.cvI 14 (As := [.int x2, .int (1 : Int32)]) ck_9 (hs.k k0_284) (c_X9_sentUp Z hs x2 (1 : Int32) e6) mk_X9_sentUp vk_X9_sentUp rfl wd_1571 hR (by decide +kernel) ⟨rfl, rfl⟩ rfl (Nat.le_of_ble_eq_true rfl) dX9_won_14 (fun hs3 => ?_)
      refine G.imul 17 dX9_won_17 ?_
      refine G.aload_n 18 0 dX9_won_18 rfl rfl ?_
      refine G.iload_n 19 2 dX9_won_19 rfl rfl ?_
      refine G.iconst 20 (0 : Int32) dX9_won_20 (by decide +kernel) ?_
      obtain ⟨q9, e10, hf⟩ := bd_e hf
      refine G.cvI 21 (As := [.int x2, .int (0 : Int32)]) ck_9 (hs3.k k0_284) (c_X9_sentUp Z hs3 x2 (0 : Int32) e10) mk_X9_sentUp vk_X9_sentUp rfl wd_1571 hR (by decide +kernel) ⟨rfl, rfl⟩ rfl (Nat.le_of_ble_eq_true rfl) dX9_won_21 (fun hs7 => ?_)
      refine G.isub 24 dX9_won_24 ?_
      refine G.iadd 25 dX9_won_25 ?_
      refine G.istore_n 26 [(1, .int (x1 + (((2 : Int32) * q5) - q9))), (0, .ref (zs Z + 284)), (2, .int x2)] dX9_won_26 rfl (Nat.le_of_ble_eq_true rfl) rfl ?_
      refine G.iinc 27 2 (x2 + 1) [(2, .int (x2 + 1)), (1, .int (x1 + (((2 : Int32) * q5) - q9))), (0, .ref (zs Z + 284))] dX9_won_27 rfl (congrArg (fun z => x2 + z) (by decide +kernel)) (Nat.le_of_ble_eq_true rfl) rfl ?_
      refine G.goto 30 4 dX9_won_30 (by decide) ?_
      refine G.locs [2, 1, 0] rfl ?_
      exact ih (x1 + (((2 : Int32) * q5) - q9)) (x2 + 1) hs7 hf
set_option maxRecDepth 100000 in
set_option maxHeartbeats 4000000 in
theorem c_X9_won (Z : Sys) {M : Mem} (hs : St M) {q : Int32} (hf : f_X9_won M = some q) : Ct Z yX9_won cX9_won 3 (some .int) rm_X9_won [.ref (zs Z + 284)] M False (PostI q M) := by
  refine Ct.of (by decide +kernel) (Nat.le_of_ble_eq_true rfl) (fun X hR hq _ => ?_)
  show G Z X Y_X9_won False 0 0 0 [(0, .ref (zs Z + 284))] [] M
  replace hq : RetOk Z X (some .int) False (PostI q M) 0 0 := hq
  unfold f_X9_won at hf
  refine G.iconst 0 (0 : Int32) dX9_won_0 (by decide +kernel) ?_
  refine G.istore_n 1 [(1, .int (0 : Int32)), (0, .ref (zs Z + 284))] dX9_won_1 rfl (Nat.le_of_ble_eq_true rfl) rfl ?_
  refine G.iconst 2 (0 : Int32) dX9_won_2 (by decide +kernel) ?_
  refine G.istore_n 3 [(2, .int (0 : Int32)), (1, .int (0 : Int32)), (0, .ref (zs Z + 284))] dX9_won_3 rfl (Nat.le_of_ble_eq_true rfl) rfl ?_
  refine G.locs [2, 1, 0] rfl ?_
  exact l_X9_won_4 Z X hR hq FU (0 : Int32) (0 : Int32) hs hf
