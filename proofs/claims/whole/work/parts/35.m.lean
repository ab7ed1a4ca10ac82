abbrev Y_X9_falls : My := (cX9_falls, RX9, 2)
def rm_X9_falls : Room := { frames := 2, cells := 0, slots := 0, locals := 222 }
theorem dX9_falls_0 : decode cX9_falls 0 = .ok (.iconst 2, 1) := by decide +kernel
theorem dX9_falls_1 : decode cX9_falls 1 = .ok (.aload_n 0, 1) := by decide +kernel
theorem dX9_falls_2 : decode cX9_falls 2 = .ok (.iload_n 1, 1) := by decide +kernel
theorem dX9_falls_3 : decode cX9_falls 3 = .ok (.bipush 10, 2) := by decide +kernel
theorem dX9_falls_5 : decode cX9_falls 5 = .ok (.invokevirtual 76, 3) := by decide +kernel
theorem dX9_falls_8 : decode cX9_falls 8 = .ok (.imul, 1) := by decide +kernel
theorem dX9_falls_9 : decode cX9_falls 9 = .ok (.aload_n 0, 1) := by decide +kernel
theorem dX9_falls_10 : decode cX9_falls 10 = .ok (.iload_n 1, 1) := by decide +kernel
theorem dX9_falls_11 : decode cX9_falls 11 = .ok (.bipush 9, 2) := by decide +kernel
theorem dX9_falls_13 : decode cX9_falls 13 = .ok (.invokevirtual 76, 3) := by decide +kernel
theorem dX9_falls_16 : decode cX9_falls 16 = .ok (.isub, 1) := by decide +kernel
theorem dX9_falls_17 : decode cX9_falls 17 = .ok (.iconst 2, 1) := by decide +kernel
theorem dX9_falls_18 : decode cX9_falls 18 = .ok (.aload_n 0, 1) := by decide +kernel
theorem dX9_falls_19 : decode cX9_falls 19 = .ok (.iload_n 1, 1) := by decide +kernel
theorem dX9_falls_20 : decode cX9_falls 20 = .ok (.bipush 6, 2) := by decide +kernel
theorem dX9_falls_22 : decode cX9_falls 22 = .ok (.invokevirtual 76, 3) := by decide +kernel
theorem dX9_falls_25 : decode cX9_falls 25 = .ok (.imul, 1) := by decide +kernel
theorem dX9_falls_26 : decode cX9_falls 26 = .ok (.isub, 1) := by decide +kernel
theorem dX9_falls_27 : decode cX9_falls 27 = .ok (.aload_n 0, 1) := by decide +kernel
theorem dX9_falls_28 : decode cX9_falls 28 = .ok (.iload_n 1, 1) := by decide +kernel
theorem dX9_falls_29 : decode cX9_falls 29 = .ok (.iconst 5, 1) := by decide +kernel
theorem dX9_falls_30 : decode cX9_falls 30 = .ok (.invokevirtual 76, 3) := by decide +kernel
theorem dX9_falls_33 : decode cX9_falls 33 = .ok (.iadd, 1) := by decide +kernel
theorem dX9_falls_34 : decode cX9_falls 34 = .ok (.ireturn, 1) := by decide +kernel
def f_X9_falls (x1 : Int32) (M : Mem) : Option Int32 := (f_X9_get x1 (10 : Int32) M).bind fun q3 => (f_X9_get x1 (9 : Int32) M).bind fun q7 => (f_X9_get x1 (6 : Int32) M).bind fun q11 => (f_X9_get x1 (5 : Int32) M).bind fun q15 => some (((((2 : Int32) * q3) - q7) - ((2 : Int32) * q11)) + q15)
set_option maxRecDepth 100000 in
set_option maxHeartbeats 4000000 in
theorem c_X9_falls (Z : Sys) {M : Mem} (hs : St M) (x1 : Int32) {q : Int32} (hf : f_X9_falls x1 M = some q) : Ct Z yX9_falls cX9_falls 2 (some .int) rm_X9_falls [.ref (zs Z + 284), .int x1] M False (PostI q M) := by
  refine Ct.of (by decide +kernel) (Nat.le_of_ble_eq_true rfl) (fun X hR hq _ => ?_)
  show G Z X Y_X9_falls False 0 0 0 [(0, .ref (zs Z + 284)), (1, .int x1)] [] M
  replace hq : RetOk Z X (some .int) False (PostI q M) 0 0 := hq
  unfold f_X9_falls at hf
  refine G.iconst 0 (2 : Int32) dX9_falls_0 (by decide +kernel) ?_
  refine G.aload_n 1 0 dX9_falls_1 rfl rfl ?_
  refine G.iload_n 2 1 dX9_falls_2 rfl rfl ?_
  refine G.bipush 3 (10 : Int32) dX9_falls_3 (by decide +kernel) ?_
  obtain ⟨q3, e4, hf⟩ := bd_e hf
  refine G.cvI 5 (As := [.int x1, .int (10 : Int32)]) ck_9 (hs.k k0_284) (c_X9_get Z hs x1 (10 : Int32) e4) mk_X9_get vk_X9_get rfl wd_1411 hR (by decide +kernel) ⟨rfl, rfl⟩ rfl (Nat.le_of_ble_eq_true rfl) dX9_falls_5 (fun hs1 => ?_)
  refine G.imul 8 dX9_falls_8 ?_
  refine G.aload_n 9 0 dX9_falls_9 rfl rfl ?_
  refine G.iload_n 10 1 dX9_falls_10 rfl rfl ?_
  refine G.bipush 11 (9 : Int32) dX9_falls_11 (by decide +kernel) ?_
  obtain ⟨q7, e8, hf⟩ := bd_e hf
  refine G.cvI 13 (As := [.int x1, .int (9 : Int32)]) ck_9 (hs1.k k0_284) (c_X9_get Z hs1 x1 (9 : Int32) e8) mk_X9_get vk_X9_get rfl wd_1411 hR (by decide +kernel) ⟨rfl, rfl⟩ rfl (Nat.le_of_ble_eq_true rfl) dX9_falls_13 (fun hs5 => ?_)
  refine G.isub 16 dX9_falls_16 ?_
  refine G.iconst 17 (2 : Int32) dX9_falls_17 (by decide +kernel) ?_
  refine G.aload_n 18 0 dX9_falls_18 rfl rfl ?_
  refine G.iload_n 19 1 dX9_falls_19 rfl rfl ?_
  refine G.bipush 20 (6 : Int32) dX9_falls_20 (by decide +kernel) ?_
  obtain ⟨q11, e12, hf⟩ := bd_e hf
  refine G.cvI 22 (As := [.int x1, .int (6 : Int32)]) ck_9 (hs5.k k0_284) (c_X9_get Z hs5 x1 (6 : Int32) e12) mk_X9_get vk_X9_get rfl wd_1411 hR (by decide +kernel) ⟨rfl, rfl⟩ rfl (Nat.le_of_ble_eq_true rfl) dX9_falls_22 (fun hs9 => ?_)
  refine G.imul 25 dX9_falls_25 ?_
  refine G.isub 26 dX9_falls_26 ?_
  refine G.aload_n 27 0 dX9_falls_27 rfl rfl ?_
  refine G.iload_n 28 1 dX9_falls_28 rfl rfl ?_
  refine G.iconst 29 (5 : Int32) dX9_falls_29 (by decide +kernel) ?_
  obtain ⟨q15, e16, hf⟩ := bd_e hf
  refine G.cvI 30 (As := [.int x1, .int (5 : Int32)]) ck_9 (hs9.k k0_284) (c_X9_get Z hs9 x1 (5 : Int32) e16) mk_X9_get vk_X9_get rfl wd_1411 hR (by decide +kernel) ⟨rfl, rfl⟩ rfl (Nat.le_of_ble_eq_true rfl) dX9_falls_30 (fun hs13 => ?_)
  refine G.iadd 33 dX9_falls_33 ?_
  (have hf9 := Option.some.inj hf; subst hf9)
  exact G.rI 34 hq dX9_falls_34 hs13
abbrev Y_X9_wrongRow : My := (cX9_wrongRow, RX9, 3)
def rm_X9_wrongRow : Room := { frames := 3, cells := 0, slots := 0, locals := 245 }
theorem dX9_wrongRow_0 : decode cX9_wrongRow 0 = .ok (.iload_n 1, 1) := by decide +kernel
theorem dX9_wrongRow_1 : decode cX9_wrongRow 1 = .ok (.invokestatic 111, 3) := by decide +kernel
theorem dX9_wrongRow_4 : decode cX9_wrongRow 4 = .ok (.ifCond .ne 7, 3) := by decide +kernel
theorem dX9_wrongRow_7 : decode cX9_wrongRow 7 = .ok (.iconst (-1), 1) := by decide +kernel
theorem dX9_wrongRow_8 : decode cX9_wrongRow 8 = .ok (.goto 47, 3) := by decide +kernel
theorem dX9_wrongRow_11 : decode cX9_wrongRow 11 = .ok (.aload_n 0, 1) := by decide +kernel
theorem dX9_wrongRow_12 : decode cX9_wrongRow 12 = .ok (.getfield 16, 3) := by decide +kernel
theorem dX9_wrongRow_15 : decode cX9_wrongRow 15 = .ok (.iload_n 1, 1) := by decide +kernel
theorem dX9_wrongRow_16 : decode cX9_wrongRow 16 = .ok (.iaload, 1) := by decide +kernel
theorem dX9_wrongRow_17 : decode cX9_wrongRow 17 = .ok (.ifCond .ne 8, 3) := by decide +kernel
theorem dX9_wrongRow_20 : decode cX9_wrongRow 20 = .ok (.bipush (-11), 2) := by decide +kernel
theorem dX9_wrongRow_22 : decode cX9_wrongRow 22 = .ok (.goto 33, 3) := by decide +kernel
theorem dX9_wrongRow_25 : decode cX9_wrongRow 25 = .ok (.aload_n 0, 1) := by decide +kernel
theorem dX9_wrongRow_26 : decode cX9_wrongRow 26 = .ok (.getfield 16, 3) := by decide +kernel
theorem dX9_wrongRow_29 : decode cX9_wrongRow 29 = .ok (.iload_n 1, 1) := by decide +kernel
theorem dX9_wrongRow_30 : decode cX9_wrongRow 30 = .ok (.iaload, 1) := by decide +kernel
theorem dX9_wrongRow_31 : decode cX9_wrongRow 31 = .ok (.iconst 2, 1) := by decide +kernel
theorem dX9_wrongRow_32 : decode cX9_wrongRow 32 = .ok (.if_icmp .ne 17, 3) := by decide +kernel
theorem dX9_wrongRow_35 : decode cX9_wrongRow 35 = .ok (.iload_n 2, 1) := by decide +kernel
theorem dX9_wrongRow_36 : decode cX9_wrongRow 36 = .ok (.ifCond .lt 18, 3) := by decide +kernel
theorem dX9_wrongRow_39 : decode cX9_wrongRow 39 = .ok (.aload_n 0, 1) := by decide +kernel
theorem dX9_wrongRow_40 : decode cX9_wrongRow 40 = .ok (.getfield 19, 3) := by decide +kernel
theorem dX9_wrongRow_43 : decode cX9_wrongRow 43 = .ok (.iload_n 1, 1) := by decide +kernel
theorem dX9_wrongRow_44 : decode cX9_wrongRow 44 = .ok (.iaload, 1) := by decide +kernel
theorem dX9_wrongRow_45 : decode cX9_wrongRow 45 = .ok (.iload_n 2, 1) := by decide +kernel
theorem dX9_wrongRow_46 : decode cX9_wrongRow 46 = .ok (.if_icmp .eq 8, 3) := by decide +kernel
theorem dX9_wrongRow_49 : decode cX9_wrongRow 49 = .ok (.bipush (-12), 2) := by decide +kernel
theorem dX9_wrongRow_51 : decode cX9_wrongRow 51 = .ok (.goto 4, 3) := by decide +kernel
theorem dX9_wrongRow_54 : decode cX9_wrongRow 54 = .ok (.iconst 0, 1) := by decide +kernel
theorem dX9_wrongRow_55 : decode cX9_wrongRow 55 = .ok (.ireturn, 1) := by decide +kernel
def B_X9_wrongRow_49 (M : Mem) : Option Int32 := some (-12 : Int32)
def f_X9_wrongRow (x1 : Int32) (x2 : Int32) (M : Mem) : Option Int32 := if (f_X9_isShelf x1) = 0 then some (-1 : Int32) else gd (inR x1 8) (if (mI M 287 x1.toNatClampNeg) = 0 then some (-11 : Int32) else if (mI M 287 x1.toNatClampNeg) = (2 : Int32) then if x2 < 0 then some (0 : Int32) else if (mI M 288 x1.toNatClampNeg) = x2 then some (0 : Int32) else B_X9_wrongRow_49 M else B_X9_wrongRow_49 M)
set_option maxRecDepth 100000 in
set_option maxHeartbeats 4000000 in
theorem b_X9_wrongRow_49 (Z : Sys) (X : Cx) (hR : xR X = rm_X9_wrongRow) {q : Int32} {M : Mem} (hq : RetOk Z X (some .int) False (PostI q M) 0 0) (hs : St M) (hf : B_X9_wrongRow_49 M = some q) : G Z X Y_X9_wrongRow False 0 0 49 [] [] M := by
  unfold B_X9_wrongRow_49 at hf
  refine G.bipush 49 (-12 : Int32) dX9_wrongRow_49 (by decide +kernel) ?_
  refine G.goto 51 55 dX9_wrongRow_51 (by decide) ?_
  (have hf9 := Option.some.inj hf; subst hf9)
  exact G.rI 55 hq dX9_wrongRow_55 hs
set_option maxRecDepth 100000 in
set_option maxHeartbeats 4000000 in
theorem c_X9_wrongRow (Z : Sys) {M : Mem} (hs : St M) (x1 : Int32) (x2 : Int32) {q : Int32} (hf : f_X9_wrongRow x1 x2 M = some q) : Ct Z yX9_wrongRow cX9_wrongRow 3 (some .int) rm_X9_wrongRow [.ref (zs Z + 284), .int x1, .int x2] M False (PostI q M) := by
  refine Ct.of (by decide +kernel) (Nat.le_of_ble_eq_true rfl) (fun X hR hq _ => ?_)
  show G Z X Y_X9_wrongRow False 0 0 0 [(0, .ref (zs Z + 284)), (1, .int x1), (2, .int x2)] [] M
  replace hq : RetOk Z X (some .int) False (PostI q M) 0 0 := hq
  unfold f_X9_wrongRow at hf
  refine G.iload_n 0 1 dX9_wrongRow_0 rfl rfl ?_
  refine G.csZ 1 (As := [.int x1]) (c_X9_isShelf Z hs x1 rfl) mk_X9_isShelf wd_1470 wd_1469 hR (by decide +kernel) ⟨rfl, rfl⟩ rfl (Nat.le_of_ble_eq_true rfl) dX9_wrongRow_1 (fun hs1 z2 => ?_)
  refine G.if_ne 4 11 dX9_wrongRow_4 (by decide) (fun h3 => ?_) (fun h3 => ?_)
  · replace hf := (if_neg h3).symm.trans hf
    refine G.aload_n 11 0 dX9_wrongRow_11 rfl rfl ?_
    refine G.getp 12 ck_9 2 287 (hs1.k k0_284) (pc_9_2 hs1) (by decide) (by decide +kernel) wd_1307 dX9_wrongRow_12 ?_
    refine G.iload_n 15 1 dX9_wrongRow_15 rfl rfl ?_
    obtain ⟨g4, hf⟩ := gd_e hf
    refine G.ia 16 x1.toNatClampNeg (hs1.k k0_287) g4 rfl dX9_wrongRow_16 ?_
    refine G.if_ne 17 25 dX9_wrongRow_17 (by decide) (fun h5 => ?_) (fun h5 => ?_)
    · replace hf := (if_neg h5).symm.trans hf
      refine G.aload_n 25 0 dX9_wrongRow_25 rfl rfl ?_
      refine G.getp 26 ck_9 2 287 (hs1.k k0_284) (pc_9_2 hs1) (by decide) (by decide +kernel) wd_1307 dX9_wrongRow_26 ?_
      refine G.iload_n 29 1 dX9_wrongRow_29 rfl rfl ?_
      refine G.ia 30 x1.toNatClampNeg (hs1.k k0_287) g4 rfl dX9_wrongRow_30 ?_
      refine G.iconst 31 (2 : Int32) dX9_wrongRow_31 (by decide +kernel) ?_
      refine G.icmp_ne 32 49 dX9_wrongRow_32 (by decide) (fun h6 => ?_) (fun h6 => ?_)
      · replace hf := (if_neg h6).symm.trans hf
        refine G.locs [] rfl ?_
        exact b_X9_wrongRow_49 Z X hR hq hs1 hf
      · replace hf := (if_pos h6).symm.trans hf
        refine G.iload_n 35 2 dX9_wrongRow_35 rfl rfl ?_
        refine G.if_lt 36 54 dX9_wrongRow_36 (by decide) (fun h7 => ?_) (fun h7 => ?_)
        · replace hf := (if_pos h7).symm.trans hf
          refine G.iconst 54 (0 : Int32) dX9_wrongRow_54 (by decide +kernel) ?_
          (have hf9 := Option.some.inj hf; subst hf9)
          exact G.rI 55 hq dX9_wrongRow_55 hs1
        · replace hf := (if_neg h7).symm.trans hf
          refine G.aload_n 39 0 dX9_wrongRow_39 rfl rfl ?_
          refine G.getp 40 ck_9 3 288 (hs1.k k0_284) (pc_9_3 hs1) (by decide) (by decide +kernel) wd_1308 dX9_wrongRow_40 ?_
          refine G.iload_n 43 1 dX9_wrongRow_43 rfl rfl ?_
          refine G.ia 44 x1.toNatClampNeg (hs1.k k0_288) g4 rfl dX9_wrongRow_44 ?_
          refine G.iload_n 45 2 dX9_wrongRow_45 rfl rfl ?_
          refine G.icmp_eq 46 54 dX9_wrongRow_46 (by decide) (fun h8 => ?_) (fun h8 => ?_)
          · replace hf := (if_pos h8).symm.trans hf
            refine G.iconst 54 (0 : Int32) dX9_wrongRow_54 (by decide +kernel) ?_
            (have hf9 := Option.some.inj hf; subst hf9)
            exact G.rI 55 hq dX9_wrongRow_55 hs1
          · replace hf := (if_neg h8).symm.trans hf
            refine G.locs [] rfl ?_
            exact b_X9_wrongRow_49 Z X hR hq hs1 hf
    · replace hf := (if_pos h5).symm.trans hf
      refine G.bipush 20 (-11 : Int32) dX9_wrongRow_20 (by decide +kernel) ?_
      refine G.goto 22 55 dX9_wrongRow_22 (by decide) ?_
      (have hf9 := Option.some.inj hf; subst hf9)
      exact G.rI 55 hq dX9_wrongRow_55 hs1
  · replace hf := (if_pos h3).symm.trans hf
    refine G.iconst 7 (-1 : Int32) dX9_wrongRow_7 (by decide +kernel) ?_
    refine G.goto 8 55 dX9_wrongRow_8 (by decide) ?_
    (have hf9 := Option.some.inj hf; subst hf9)
    exact G.rI 55 hq dX9_wrongRow_55 hs1
abbrev Y_X9_faultOf : My := (cX9_faultOf, RX9, 3)
def rm_X9_faultOf : Room := { frames := 421, cells := 0, slots := 0, locals := 13022 }
theorem dX9_faultOf_0 : decode cX9_faultOf 0 = .ok (.aload_n 0, 1) := by decide +kernel
theorem dX9_faultOf_1 : decode cX9_faultOf 1 = .ok (.aload_n 0, 1) := by decide +kernel
theorem dX9_faultOf_2 : decode cX9_faultOf 2 = .ok (.getfield 25, 3) := by decide +kernel
theorem dX9_faultOf_5 : decode cX9_faultOf 5 = .ok (.bipush 80, 2) := by decide +kernel
theorem dX9_faultOf_7 : decode cX9_faultOf 7 = .ok (.iload_n 1, 1) := by decide +kernel
theorem dX9_faultOf_8 : decode cX9_faultOf 8 = .ok (.imul, 1) := by decide +kernel
theorem dX9_faultOf_9 : decode cX9_faultOf 9 = .ok (.aload_n 0, 1) := by decide +kernel
theorem dX9_faultOf_10 : decode cX9_faultOf 10 = .ok (.getfield 22, 3) := by decide +kernel
theorem dX9_faultOf_13 : decode cX9_faultOf 13 = .ok (.iload_n 1, 1) := by decide +kernel
theorem dX9_faultOf_14 : decode cX9_faultOf 14 = .ok (.iaload, 1) := by decide +kernel
theorem dX9_faultOf_15 : decode cX9_faultOf 15 = .ok (.iconst (-1), 1) := by decide +kernel
theorem dX9_faultOf_16 : decode cX9_faultOf 16 = .ok (.invokevirtual 274, 3) := by decide +kernel
theorem dX9_faultOf_19 : decode cX9_faultOf 19 = .ok (.aload_n 0, 1) := by decide +kernel
theorem dX9_faultOf_20 : decode cX9_faultOf 20 = .ok (.invokevirtual 234, 3) := by decide +kernel
theorem dX9_faultOf_23 : decode cX9_faultOf 23 = .ok (.i2l, 1) := by decide +kernel
theorem dX9_faultOf_24 : decode cX9_faultOf 24 = .ok (.ldc2_w 278, 3) := by decide +kernel
theorem dX9_faultOf_27 : decode cX9_faultOf 27 = .ok (.ldc2_w 280, 3) := by decide +kernel
theorem dX9_faultOf_30 : decode cX9_faultOf 30 = .ok (.invokestatic 62, 3) := by decide +kernel
theorem dX9_faultOf_33 : decode cX9_faultOf 33 = .ok (.ifCond .ne 5, 3) := by decide +kernel
theorem dX9_faultOf_36 : decode cX9_faultOf 36 = .ok (.iconst 0, 1) := by decide +kernel
theorem dX9_faultOf_37 : decode cX9_faultOf 37 = .ok (.ireturn, 1) := by decide +kernel
theorem dX9_faultOf_38 : decode cX9_faultOf 38 = .ok (.aload_n 0, 1) := by decide +kernel
theorem dX9_faultOf_39 : decode cX9_faultOf 39 = .ok (.dup, 1) := by decide +kernel
theorem dX9_faultOf_40 : decode cX9_faultOf 40 = .ok (.getfield 221, 3) := by decide +kernel
theorem dX9_faultOf_43 : decode cX9_faultOf 43 = .ok (.iconst 1, 1) := by decide +kernel
theorem dX9_faultOf_44 : decode cX9_faultOf 44 = .ok (.iadd, 1) := by decide +kernel
theorem dX9_faultOf_45 : decode cX9_faultOf 45 = .ok (.putfield 221, 3) := by decide +kernel
theorem dX9_faultOf_48 : decode cX9_faultOf 48 = .ok (.aload_n 0, 1) := by decide +kernel
theorem dX9_faultOf_49 : decode cX9_faultOf 49 = .ok (.bipush 58, 2) := by decide +kernel
theorem dX9_faultOf_51 : decode cX9_faultOf 51 = .ok (.invokevirtual 241, 3) := by decide +kernel
theorem dX9_faultOf_54 : decode cX9_faultOf 54 = .ok (.ifCond .ne 8, 3) := by decide +kernel
theorem dX9_faultOf_57 : decode cX9_faultOf 57 = .ok (.aload_n 0, 1) := by decide +kernel
theorem dX9_faultOf_58 : decode cX9_faultOf 58 = .ok (.getfield 221, 3) := by decide +kernel
theorem dX9_faultOf_61 : decode cX9_faultOf 61 = .ok (.ireturn, 1) := by decide +kernel
theorem dX9_faultOf_62 : decode cX9_faultOf 62 = .ok (.aload_n 0, 1) := by decide +kernel
theorem dX9_faultOf_63 : decode cX9_faultOf 63 = .ok (.invokevirtual 253, 3) := by decide +kernel
theorem dX9_faultOf_66 : decode cX9_faultOf 66 = .ok (.istore_n 2, 1) := by decide +kernel
theorem dX9_faultOf_67 : decode cX9_faultOf 67 = .ok (.aload_n 0, 1) := by decide +kernel
theorem dX9_faultOf_68 : decode cX9_faultOf 68 = .ok (.getfield 230, 3) := by decide +kernel
theorem dX9_faultOf_71 : decode cX9_faultOf 71 = .ok (.ifCond .eq 19, 3) := by decide +kernel
theorem dX9_faultOf_74 : decode cX9_faultOf 74 = .ok (.aload_n 0, 1) := by decide +kernel
theorem dX9_faultOf_75 : decode cX9_faultOf 75 = .ok (.getfield 221, 3) := by decide +kernel
theorem dX9_faultOf_78 : decode cX9_faultOf 78 = .ok (.aload_n 0, 1) := by decide +kernel
theorem dX9_faultOf_79 : decode cX9_faultOf 79 = .ok (.getfield 224, 3) := by decide +kernel
theorem dX9_faultOf_82 : decode cX9_faultOf 82 = .ok (.if_icmp .ne 8, 3) := by decide +kernel
theorem dX9_faultOf_85 : decode cX9_faultOf 85 = .ok (.bipush (-4), 2) := by decide +kernel
theorem dX9_faultOf_87 : decode cX9_faultOf 87 = .ok (.goto 7, 3) := by decide +kernel
theorem dX9_faultOf_90 : decode cX9_faultOf 90 = .ok (.aload_n 0, 1) := by decide +kernel
theorem dX9_faultOf_91 : decode cX9_faultOf 91 = .ok (.getfield 221, 3) := by decide +kernel
theorem dX9_faultOf_94 : decode cX9_faultOf 94 = .ok (.ireturn, 1) := by decide +kernel
def f_X9_faultOf (x1 : Int32) (M : Mem) : Option (Int32 × Mem) := gd (inR x1 8) ((f_X9_begins 290 ((80 : Int32) * x1) (mI M 289 x1.toNatClampNeg) (-1 : Int32) M).bind fun q4 => (f_X9_sign q4).bind fun q8 => if (f_X9_isIn q8.toInt64 (65 : Int64) (90 : Int64)) = 0 then some ((0 : Int32), q4) else (f_X9_takes (58 : Int32) (sI q4 284 21 ((mI q4 284 21) + (1 : Int32)))).bind fun q15 => if q15.1 = 0 then some ((mI q15.2 284 21), q15.2) else (f_grp DEP 0 q15.2).bind fun q20 => if (mI q20.2 284 27) = 0 then some ((mI q20.2 284 21), q20.2) else if (mI q20.2 284 21) = (mI q20.2 284 23) then some ((-4 : Int32), q20.2) else some ((mI q20.2 284 21), q20.2))
set_option maxRecDepth 100000 in
set_option maxHeartbeats 4000000 in
theorem c_X9_faultOf (Z : Sys) {M : Mem} (hs : St M) (x1 : Int32) {q : Int32 × Mem} (hf : f_X9_faultOf x1 M = some q) : Ct Z yX9_faultOf cX9_faultOf 3 (some .int) rm_X9_faultOf [.ref (zs Z + 284), .int x1] M False (PostI q.1 q.2) := by
  refine Ct.of (by decide +kernel) (Nat.le_of_ble_eq_true rfl) (fun X hR hq _ => ?_)
  show G Z X Y_X9_faultOf False 0 0 0 [(0, .ref (zs Z + 284)), (1, .int x1)] [] M
  replace hq : RetOk Z X (some .int) False (PostI q.1 q.2) 0 0 := hq
  unfold f_X9_faultOf at hf
  refine G.aload_n 0 0 dX9_faultOf_0 rfl rfl ?_
  refine G.aload_n 1 0 dX9_faultOf_1 rfl rfl ?_
  refine G.getp 2 ck_9 5 290 (hs.k k0_284) (pc_9_5 hs) (by decide) (by decide +kernel) wd_1310 dX9_faultOf_2 ?_
  refine G.bipush 5 (80 : Int32) dX9_faultOf_5 (by decide +kernel) ?_
  refine G.iload_n 7 1 dX9_faultOf_7 rfl rfl ?_
  refine G.imul 8 dX9_faultOf_8 ?_
  refine G.aload_n 9 0 dX9_faultOf_9 rfl rfl ?_
  refine G.getp 10 ck_9 4 289 (hs.k k0_284) (pc_9_4 hs) (by decide) (by decide +kernel) wd_1309 dX9_faultOf_10 ?_
  refine G.iload_n 13 1 dX9_faultOf_13 rfl rfl ?_
  obtain ⟨g1, hf⟩ := gd_e hf
  refine G.ia 14 x1.toNatClampNeg (hs.k k0_289) g1 rfl dX9_faultOf_14 ?_
  refine G.iconst 15 (-1 : Int32) dX9_faultOf_15 (by decide +kernel) ?_
  obtain ⟨q4, e5, hf⟩ := bd_e hf
  refine G.cvV 16 (As := [.ref (zs Z + 290), .int ((80 : Int32) * x1), .int (mI M 289 x1.toNatClampNeg), .int (-1 : Int32)]) ck_9 (hs.k k0_284) (c_X9_begins Z hs 290 ((80 : Int32) * x1) (mI M 289 x1.toNatClampNeg) (-1 : Int32) (ln_k k0_290) e5) mk_X9_begins vk_X9_begins rfl wd_1669 hR (by decide +kernel) ⟨rfl, rfl⟩ rfl (Nat.le_of_ble_eq_true rfl) dX9_faultOf_16 (fun hs2 => ?_)
  refine G.aload_n 19 0 dX9_faultOf_19 rfl rfl ?_
  obtain ⟨q8, e9, hf⟩ := bd_e hf
  refine G.cvI 20 (As := []) ck_9 (hs2.k k0_284) (c_X9_sign Z hs2 e9) mk_X9_sign vk_X9_sign rfl wd_1673 hR (by decide +kernel) ⟨rfl, rfl⟩ rfl (Nat.le_of_ble_eq_true rfl) dX9_faultOf_20 (fun hs6 => ?_)
  refine G.i2l 23 dX9_faultOf_23 ?_
  refine G.ldc2 24 (65 : Int64) wd_1677 dX9_faultOf_24 ?_
  refine G.ldc2 27 (90 : Int64) wd_1678 dX9_faultOf_27 ?_
  refine G.csZ 30 (As := [.long q8.toInt64, .long (65 : Int64), .long (90 : Int64)]) (c_X9_isIn Z hs6 q8.toInt64 (65 : Int64) (90 : Int64) rfl) mk_X9_isIn wd_1400 wd_1399 hR (by decide +kernel) ⟨rfl, rfl⟩ rfl (Nat.le_of_ble_eq_true rfl) dX9_faultOf_30 (fun hs10 z11 => ?_)
  refine G.if_ne 33 38 dX9_faultOf_33 (by decide) (fun h12 => ?_) (fun h12 => ?_)
  · replace hf := (if_neg h12).symm.trans hf
    refine G.aload_n 38 0 dX9_faultOf_38 rfl rfl ?_
    refine G.dup 39 dX9_faultOf_39 rfl ?_
    refine G.geti 40 ck_9 21 (hs10.k k0_284) (by decide) (by decide +kernel) wd_1326 dX9_faultOf_40 ?_
    refine G.iconst 43 (1 : Int32) dX9_faultOf_43 (by decide +kernel) ?_
    refine G.iadd 44 dX9_faultOf_44 ?_
    refine G.puti 45 ck_9 21 (hs10.k k0_284) (by decide) (by decide +kernel) rfl wd_1326 rfl rfl dX9_faultOf_45 ?_
    refine G.aload_n 48 0 dX9_faultOf_48 rfl rfl ?_
    refine G.bipush 49 (58 : Int32) dX9_faultOf_49 (by decide +kernel) ?_
    obtain ⟨q15, e16, hf⟩ := bd_e hf
    refine G.cvZ 51 (As := [.int (58 : Int32)]) ck_9 ((St.i hs10).k k0_284) (c_X9_takes Z (St.i hs10) (58 : Int32) e16) mk_X9_takes vk_X9_takes rfl wd_1679 hR (by decide +kernel) ⟨rfl, rfl⟩ rfl (Nat.le_of_ble_eq_true rfl) dX9_faultOf_51 (fun hs13 z14 => ?_)
    refine G.if_ne 54 62 dX9_faultOf_54 (by decide) (fun h17 => ?_) (fun h17 => ?_)
    · replace hf := (if_neg h17).symm.trans hf
      refine G.aload_n 62 0 dX9_faultOf_62 rfl rfl ?_
      obtain ⟨q20, e21, hf⟩ := bd_e hf
      refine G.cvZ 63 (As := []) ck_9 (hs13.k k0_284) (c_grp_o Z DEP hs13 e21) mk_X9_or vk_X9_or rfl wd_1683 hR (by decide +kernel) ⟨rfl, rfl⟩ rfl (Nat.le_of_ble_eq_true rfl) dX9_faultOf_63 (fun hs18 z19 => ?_)
      refine G.istore_n 66 [(2, .int q20.1), (0, .ref (zs Z + 284)), (1, .int x1)] dX9_faultOf_66 rfl (Nat.le_of_ble_eq_true rfl) rfl ?_
      refine G.aload_n 67 1 dX9_faultOf_67 rfl rfl ?_
      refine G.geti 68 ck_9 27 (hs18.k k0_284) (by decide) (by decide +kernel) wd_1332 dX9_faultOf_68 ?_
      refine G.if_eq 71 90 dX9_faultOf_71 (by decide) (fun h22 => ?_) (fun h22 => ?_)
      · replace hf := (if_pos h22).symm.trans hf
        refine G.aload_n 90 1 dX9_faultOf_90 rfl rfl ?_
        refine G.geti 91 ck_9 21 (hs18.k k0_284) (by decide) (by decide +kernel) wd_1326 dX9_faultOf_91 ?_
        (have hf9 := Option.some.inj hf; subst hf9)
        exact G.rI 94 hq dX9_faultOf_94 hs18
      · replace hf := (if_neg h22).symm.trans hf
        refine G.aload_n 74 1 dX9_faultOf_74 rfl rfl ?_
        refine G.geti 75 ck_9 21 (hs18.k k0_284) (by decide) (by decide +kernel) wd_1326 dX9_faultOf_75 ?_
        refine G.aload_n 78 1 dX9_faultOf_78 rfl rfl ?_
        refine G.geti 79 ck_9 23 (hs18.k k0_284) (by decide) (by decide +kernel) wd_1328 dX9_faultOf_79 ?_
        refine G.icmp_ne 82 90 dX9_faultOf_82 (by decide) (fun h23 => ?_) (fun h23 => ?_)
        · replace hf := (if_neg h23).symm.trans hf
          refine G.aload_n 90 1 dX9_faultOf_90 rfl rfl ?_
          refine G.geti 91 ck_9 21 (hs18.k k0_284) (by decide) (by decide +kernel) wd_1326 dX9_faultOf_91 ?_
          (have hf9 := Option.some.inj hf; subst hf9)
          exact G.rI 94 hq dX9_faultOf_94 hs18
        · replace hf := (if_pos h23).symm.trans hf
          refine G.bipush 85 (-4 : Int32) dX9_faultOf_85 (by decide +kernel) ?_
          refine G.goto 87 94 dX9_faultOf_87 (by decide) ?_
          (have hf9 := Option.some.inj hf; subst hf9)
          exact G.rI 94 hq dX9_faultOf_94 hs18
    · replace hf := (if_pos h17).symm.trans hf
      refine G.aload_n 57 0 dX9_faultOf_57 rfl rfl ?_
      refine G.geti 58 ck_9 21 (hs13.k k0_284) (by decide) (by decide +kernel) wd_1326 dX9_faultOf_58 ?_
      (have hf9 := Option.some.inj hf; subst hf9)
      exact G.rI 61 hq dX9_faultOf_61 hs13
  · replace hf := (if_pos h12).symm.trans hf
    refine G.iconst 36 (0 : Int32) dX9_faultOf_36 (by decide +kernel) ?_
    (have hf9 := Option.some.inj hf; subst hf9)
    exact G.rI 37 hq dX9_faultOf_37 hs10
abbrev Y_X9_fault : My := (cX9_fault, RX9, 3)
def rm_X9_fault : Room := { frames := 422, cells := 0, slots := 0, locals := 13044 }
theorem dX9_fault_0 : decode cX9_fault 0 = .ok (.aload_n 0, 1) := by decide +kernel
theorem dX9_fault_1 : decode cX9_fault 1 = .ok (.iload_n 1, 1) := by decide +kernel
theorem dX9_fault_2 : decode cX9_fault 2 = .ok (.iconst 0, 1) := by decide +kernel
theorem dX9_fault_3 : decode cX9_fault 3 = .ok (.invokevirtual 282, 3) := by decide +kernel
theorem dX9_fault_6 : decode cX9_fault 6 = .ok (.istore_n 2, 1) := by decide +kernel
theorem dX9_fault_7 : decode cX9_fault 7 = .ok (.iload_n 2, 1) := by decide +kernel
theorem dX9_fault_8 : decode cX9_fault 8 = .ok (.ifCond .eq 7, 3) := by decide +kernel
theorem dX9_fault_11 : decode cX9_fault 11 = .ok (.iload_n 2, 1) := by decide +kernel
theorem dX9_fault_12 : decode cX9_fault 12 = .ok (.goto 8, 3) := by decide +kernel
theorem dX9_fault_15 : decode cX9_fault 15 = .ok (.aload_n 0, 1) := by decide +kernel
theorem dX9_fault_16 : decode cX9_fault 16 = .ok (.iload_n 1, 1) := by decide +kernel
theorem dX9_fault_17 : decode cX9_fault 17 = .ok (.invokevirtual 285, 3) := by decide +kernel
theorem dX9_fault_20 : decode cX9_fault 20 = .ok (.ireturn, 1) := by decide +kernel
def f_X9_fault (x1 : Int32) (M : Mem) : Option (Int32 × Mem) := (f_X9_wrongRow x1 (0 : Int32) M).bind fun q3 => if q3 = 0 then (f_X9_faultOf x1 M).bind fun q8 => some (q8.1, q8.2) else some (q3, M)
set_option maxRecDepth 100000 in
set_option maxHeartbeats 4000000 in
theorem c_X9_fault (Z : Sys) {M : Mem} (hs : St M) (x1 : Int32) {q : Int32 × Mem} (hf : f_X9_fault x1 M = some q) : Ct Z yX9_fault cX9_fault 3 (some .int) rm_X9_fault [.ref (zs Z + 284), .int x1] M False (PostI q.1 q.2) := by
  refine Ct.of (by decide +kernel) (Nat.le_of_ble_eq_true rfl) (fun X hR hq _ => ?_)
  show G Z X Y_X9_fault False 0 0 0 [(0, .ref (zs Z + 284)), (1, .int x1)] [] M
  replace hq : RetOk Z X (some .int) False (PostI q.1 q.2) 0 0 := hq
  unfold f_X9_fault at hf
  refine G.aload_n 0 0 dX9_fault_0 rfl rfl ?_
  refine G.iload_n 1 1 dX9_fault_1 rfl rfl ?_
  refine G.iconst 2 (0 : Int32) dX9_fault_2 (by decide +kernel) ?_
  obtain ⟨q3, e4, hf⟩ := bd_e hf
  refine G.cvI 3 (As := [.int x1, .int (0 : Int32)]) ck_9 (hs.k k0_284) (c_X9_wrongRow Z hs x1 (0 : Int32) e4) mk_X9_wrongRow vk_X9_wrongRow rfl wd_1661 hR (by decide +kernel) ⟨rfl, rfl⟩ rfl (Nat.le_of_ble_eq_true rfl) dX9_fault_3 (fun hs1 => ?_)
  refine G.istore_n 6 [(2, .int q3), (0, .ref (zs Z + 284)), (1, .int x1)] dX9_fault_6 rfl (Nat.le_of_ble_eq_true rfl) rfl ?_
  refine G.iload_n 7 0 dX9_fault_7 rfl rfl ?_
  refine G.if_eq 8 15 dX9_fault_8 (by decide) (fun h5 => ?_) (fun h5 => ?_)
  · replace hf := (if_pos h5).symm.trans hf
    refine G.aload_n 15 1 dX9_fault_15 rfl rfl ?_
    refine G.iload_n 16 2 dX9_fault_16 rfl rfl ?_
    obtain ⟨q8, e9, hf⟩ := bd_e hf
    refine G.cvI 17 (As := [.int x1]) ck_9 (hs1.k k0_284) (c_X9_faultOf Z hs1 x1 e9) mk_X9_faultOf vk_X9_faultOf rfl wd_1665 hR (by decide +kernel) ⟨rfl, rfl⟩ rfl (Nat.le_of_ble_eq_true rfl) dX9_fault_17 (fun hs6 => ?_)
    (have hf9 := Option.some.inj hf; subst hf9)
    exact G.rI 20 hq dX9_fault_20 hs6
  · replace hf := (if_neg h5).symm.trans hf
    refine G.iload_n 11 0 dX9_fault_11 rfl rfl ?_
    refine G.goto 12 20 dX9_fault_12 (by decide) ?_
    (have hf9 := Option.some.inj hf; subst hf9)
    exact G.rI 20 hq dX9_fault_20 hs1
abbrev Y_X9_figures : My := (cX9_figures, RX9, 3)
def rm_X9_figures : Room := { frames := 5, cells := 0, slots := 0, locals := 288 }
theorem dX9_figures_0 : decode cX9_figures 0 = .ok (.iload_n 1, 1) := by decide +kernel
theorem dX9_figures_1 : decode cX9_figures 1 = .ok (.i2l, 1) := by decide +kernel
theorem dX9_figures_2 : decode cX9_figures 2 = .ok (.lconst 0, 1) := by decide +kernel
theorem dX9_figures_3 : decode cX9_figures 3 = .ok (.ldc2_w 83, 3) := by decide +kernel
theorem dX9_figures_6 : decode cX9_figures 6 = .ok (.invokestatic 62, 3) := by decide +kernel
theorem dX9_figures_9 : decode cX9_figures 9 = .ok (.ifCond .eq 13, 3) := by decide +kernel
theorem dX9_figures_12 : decode cX9_figures 12 = .ok (.iload_n 2, 1) := by decide +kernel
theorem dX9_figures_13 : decode cX9_figures 13 = .ok (.i2l, 1) := by decide +kernel
theorem dX9_figures_14 : decode cX9_figures 14 = .ok (.lconst 0, 1) := by decide +kernel
theorem dX9_figures_15 : decode cX9_figures 15 = .ok (.lconst 1, 1) := by decide +kernel
theorem dX9_figures_16 : decode cX9_figures 16 = .ok (.invokestatic 62, 3) := by decide +kernel
theorem dX9_figures_19 : decode cX9_figures 19 = .ok (.ifCond .ne 5, 3) := by decide +kernel
theorem dX9_figures_22 : decode cX9_figures 22 = .ok (.iconst (-1), 1) := by decide +kernel
theorem dX9_figures_23 : decode cX9_figures 23 = .ok (.ireturn, 1) := by decide +kernel
theorem dX9_figures_24 : decode cX9_figures 24 = .ok (.aload_n 0, 1) := by decide +kernel
theorem dX9_figures_25 : decode cX9_figures 25 = .ok (.iload_n 2, 1) := by decide +kernel
theorem dX9_figures_26 : decode cX9_figures 26 = .ok (.bipush 30, 2) := by decide +kernel
theorem dX9_figures_28 : decode cX9_figures 28 = .ok (.invokevirtual 128, 3) := by decide +kernel
theorem dX9_figures_31 : decode cX9_figures 31 = .ok (.aload_n 0, 1) := by decide +kernel
theorem dX9_figures_32 : decode cX9_figures 32 = .ok (.getfield 34, 3) := by decide +kernel
theorem dX9_figures_35 : decode cX9_figures 35 = .ok (.iload_n 1, 1) := by decide +kernel
theorem dX9_figures_36 : decode cX9_figures 36 = .ok (.iaload, 1) := by decide +kernel
theorem dX9_figures_37 : decode cX9_figures 37 = .ok (.ireturn, 1) := by decide +kernel
def f_X9_figures (x1 : Int32) (x2 : Int32) (M : Mem) : Option (Int32 × Mem) := if (f_X9_isIn x1.toInt64 (0 : Int64) (9 : Int64)) = 0 then some ((-1 : Int32), M) else if (f_X9_isIn x2.toInt64 (0 : Int64) (1 : Int64)) = 0 then some ((-1 : Int32), M) else (f_X9_counts x2 (30 : Int32) M).bind fun q9 => gd (inR x1 10) (some ((mI q9 293 x1.toNatClampNeg), q9))
set_option maxRecDepth 100000 in
set_option maxHeartbeats 4000000 in
theorem c_X9_figures (Z : Sys) {M : Mem} (hs : St M) (x1 : Int32) (x2 : Int32) {q : Int32 × Mem} (hf : f_X9_figures x1 x2 M = some q) : Ct Z yX9_figures cX9_figures 3 (some .int) rm_X9_figures [.ref (zs Z + 284), .int x1, .int x2] M False (PostI q.1 q.2) := by
  refine Ct.of (by decide +kernel) (Nat.le_of_ble_eq_true rfl) (fun X hR hq _ => ?_)
  show G Z X Y_X9_figures False 0 0 0 [(0, .ref (zs Z + 284)), (1, .int x1), (2, .int x2)] [] M
  replace hq : RetOk Z X (some .int) False (PostI q.1 q.2) 0 0 := hq
  unfold f_X9_figures at hf
  refine G.iload_n 0 1 dX9_figures_0 rfl rfl ?_
  refine G.i2l 1 dX9_figures_1 ?_
  refine G.lconst 2 (0 : Int64) dX9_figures_2 (by decide +kernel) ?_
  refine G.ldc2 3 (9 : Int64) wd_1428 dX9_figures_3 ?_
  refine G.csZ 6 (As := [.long x1.toInt64, .long (0 : Int64), .long (9 : Int64)]) (c_X9_isIn Z hs x1.toInt64 (0 : Int64) (9 : Int64) rfl) mk_X9_isIn wd_1400 wd_1399 hR (by decide +kernel) ⟨rfl, rfl⟩ rfl (Nat.le_of_ble_eq_true rfl) dX9_figures_6 (fun hs1 z2 => ?_)
  refine G.if_eq 9 22 dX9_figures_9 (by decide) (fun h3 => ?_) (fun h3 => ?_)
  · replace hf := (if_pos h3).symm.trans hf
    refine G.iconst 22 (-1 : Int32) dX9_figures_22 (by decide +kernel) ?_
    (have hf9 := Option.some.inj hf; subst hf9)
    exact G.rI 23 hq dX9_figures_23 hs1
  · replace hf := (if_neg h3).symm.trans hf
    refine G.iload_n 12 2 dX9_figures_12 rfl rfl ?_
    refine G.i2l 13 dX9_figures_13 ?_
    refine G.lconst 14 (0 : Int64) dX9_figures_14 (by decide +kernel) ?_
    refine G.lconst 15 (1 : Int64) dX9_figures_15 (by decide +kernel) ?_
    refine G.csZ 16 (As := [.long x2.toInt64, .long (0 : Int64), .long (1 : Int64)]) (c_X9_isIn Z hs1 x2.toInt64 (0 : Int64) (1 : Int64) rfl) mk_X9_isIn wd_1400 wd_1399 hR (by decide +kernel) ⟨rfl, rfl⟩ rfl (Nat.le_of_ble_eq_true rfl) dX9_figures_16 (fun hs4 z5 => ?_)
    refine G.if_ne 19 24 dX9_figures_19 (by decide) (fun h6 => ?_) (fun h6 => ?_)
    · replace hf := (if_neg h6).symm.trans hf
      refine G.aload_n 24 0 dX9_figures_24 rfl rfl ?_
      refine G.iload_n 25 2 dX9_figures_25 rfl rfl ?_
      refine G.bipush 26 (30 : Int32) dX9_figures_26 (by decide +kernel) ?_
      obtain ⟨q9, e10, hf⟩ := bd_e hf
      refine G.cvV 28 (As := [.int x2, .int (30 : Int32)]) ck_9 (hs4.k k0_284) (c_X9_counts Z hs4 x2 (30 : Int32) e10) mk_X9_counts vk_X9_counts rfl wd_1480 hR (by decide +kernel) ⟨rfl, rfl⟩ rfl (Nat.le_of_ble_eq_true rfl) dX9_figures_28 (fun hs7 => ?_)
      refine G.aload_n 31 0 dX9_figures_31 rfl rfl ?_
      refine G.getp 32 ck_9 10 293 (hs7.k k0_284) (pc_9_10 hs7) (by decide) (by decide +kernel) wd_1315 dX9_figures_32 ?_
      refine G.iload_n 35 1 dX9_figures_35 rfl rfl ?_
      obtain ⟨g11, hf⟩ := gd_e hf
      refine G.ia 36 x1.toNatClampNeg (hs7.k k0_293) g11 rfl dX9_figures_36 ?_
      (have hf9 := Option.some.inj hf; subst hf9)
      exact G.rI 37 hq dX9_figures_37 hs7
    · replace hf := (if_pos h6).symm.trans hf
      refine G.iconst 22 (-1 : Int32) dX9_figures_22 (by decide +kernel) ?_
      (have hf9 := Option.some.inj hf; subst hf9)
      exact G.rI 23 hq dX9_figures_23 hs4
abbrev Y_X9_hall : My := (cX9_hall, RX9, 6)
def rm_X9_hall : Room := { frames := 2, cells := 0, slots := 0, locals := 225 }
theorem dX9_hall_0 : decode cX9_hall 0 = .ok (.iload_n 1, 1) := by decide +kernel
theorem dX9_hall_1 : decode cX9_hall 1 = .ok (.i2l, 1) := by decide +kernel
theorem dX9_hall_2 : decode cX9_hall 2 = .ok (.lconst 1, 1) := by decide +kernel
theorem dX9_hall_3 : decode cX9_hall 3 = .ok (.ldc2_w 68, 3) := by decide +kernel
theorem dX9_hall_6 : decode cX9_hall 6 = .ok (.invokestatic 62, 3) := by decide +kernel
theorem dX9_hall_9 : decode cX9_hall 9 = .ok (.ifCond .eq 55, 3) := by decide +kernel
theorem dX9_hall_12 : decode cX9_hall 12 = .ok (.iload_n 3, 1) := by decide +kernel
theorem dX9_hall_13 : decode cX9_hall 13 = .ok (.i2l, 1) := by decide +kernel
theorem dX9_hall_14 : decode cX9_hall 14 = .ok (.lconst 0, 1) := by decide +kernel
theorem dX9_hall_15 : decode cX9_hall 15 = .ok (.ldc2_w 70, 3) := by decide +kernel
theorem dX9_hall_18 : decode cX9_hall 18 = .ok (.invokestatic 62, 3) := by decide +kernel
theorem dX9_hall_21 : decode cX9_hall 21 = .ok (.ifCond .eq 43, 3) := by decide +kernel
theorem dX9_hall_24 : decode cX9_hall 24 = .ok (.iload_n 2, 1) := by decide +kernel
theorem dX9_hall_25 : decode cX9_hall 25 = .ok (.ifCond .lt 39, 3) := by decide +kernel
theorem dX9_hall_28 : decode cX9_hall 28 = .ok (.iload_n 2, 1) := by decide +kernel
theorem dX9_hall_29 : decode cX9_hall 29 = .ok (.sipush 1999, 3) := by decide +kernel
theorem dX9_hall_32 : decode cX9_hall 32 = .ok (.if_icmp .gt 32, 3) := by decide +kernel
theorem dX9_hall_35 : decode cX9_hall 35 = .ok (.iload_n 2, 1) := by decide +kernel
theorem dX9_hall_36 : decode cX9_hall 36 = .ok (.bipush 100, 2) := by decide +kernel
theorem dX9_hall_38 : decode cX9_hall 38 = .ok (.idiv, 1) := by decide +kernel
theorem dX9_hall_39 : decode cX9_hall 39 = .ok (.bipush 10, 2) := by decide +kernel
theorem dX9_hall_41 : decode cX9_hall 41 = .ok (.irem, 1) := by decide +kernel
theorem dX9_hall_42 : decode cX9_hall 42 = .ok (.iconst 5, 1) := by decide +kernel
theorem dX9_hall_43 : decode cX9_hall 43 = .ok (.if_icmp .gt 21, 3) := by decide +kernel
theorem dX9_hall_46 : decode cX9_hall 46 = .ok (.iload_n 2, 1) := by decide +kernel
theorem dX9_hall_47 : decode cX9_hall 47 = .ok (.bipush 10, 2) := by decide +kernel
theorem dX9_hall_49 : decode cX9_hall 49 = .ok (.idiv, 1) := by decide +kernel
theorem dX9_hall_50 : decode cX9_hall 50 = .ok (.bipush 10, 2) := by decide +kernel
theorem dX9_hall_52 : decode cX9_hall 52 = .ok (.irem, 1) := by decide +kernel
theorem dX9_hall_53 : decode cX9_hall 53 = .ok (.iconst 3, 1) := by decide +kernel
theorem dX9_hall_54 : decode cX9_hall 54 = .ok (.if_icmp .gt 10, 3) := by decide +kernel
theorem dX9_hall_57 : decode cX9_hall 57 = .ok (.iload_n 2, 1) := by decide +kernel
theorem dX9_hall_58 : decode cX9_hall 58 = .ok (.bipush 10, 2) := by decide +kernel
theorem dX9_hall_60 : decode cX9_hall 60 = .ok (.irem, 1) := by decide +kernel
theorem dX9_hall_61 : decode cX9_hall 61 = .ok (.ifCond .eq 5, 3) := by decide +kernel
theorem dX9_hall_64 : decode cX9_hall 64 = .ok (.iconst (-1), 1) := by decide +kernel
theorem dX9_hall_65 : decode cX9_hall 65 = .ok (.ireturn, 1) := by decide +kernel
theorem dX9_hall_66 : decode cX9_hall 66 = .ok (.aload_n 0, 1) := by decide +kernel
theorem dX9_hall_67 : decode cX9_hall 67 = .ok (.getfield 9, 3) := by decide +kernel
theorem dX9_hall_70 : decode cX9_hall 70 = .ok (.sipush 1192, 3) := by decide +kernel
theorem dX9_hall_73 : decode cX9_hall 73 = .ok (.iaload, 1) := by decide +kernel
theorem dX9_hall_74 : decode cX9_hall 74 = .ok (.bipush 30, 2) := by decide +kernel
theorem dX9_hall_76 : decode cX9_hall 76 = .ok (.if_icmp .ne 6, 3) := by decide +kernel
theorem dX9_hall_79 : decode cX9_hall 79 = .ok (.bipush (-2), 2) := by decide +kernel
theorem dX9_hall_81 : decode cX9_hall 81 = .ok (.ireturn, 1) := by decide +kernel
theorem dX9_hall_82 : decode cX9_hall 82 = .ok (.bipush 12, 2) := by decide +kernel
theorem dX9_hall_84 : decode cX9_hall 84 = .ok (.aload_n 0, 1) := by decide +kernel
theorem dX9_hall_85 : decode cX9_hall 85 = .ok (.getfield 9, 3) := by decide +kernel
theorem dX9_hall_88 : decode cX9_hall 88 = .ok (.sipush 1192, 3) := by decide +kernel
theorem dX9_hall_91 : decode cX9_hall 91 = .ok (.iaload, 1) := by decide +kernel
theorem dX9_hall_92 : decode cX9_hall 92 = .ok (.imul, 1) := by decide +kernel
theorem dX9_hall_93 : decode cX9_hall 93 = .ok (.istore 4, 2) := by decide +kernel
theorem dX9_hall_95 : decode cX9_hall 95 = .ok (.iconst 0, 1) := by decide +kernel
theorem dX9_hall_96 : decode cX9_hall 96 = .ok (.istore 5, 2) := by decide +kernel
theorem dX9_hall_98 : decode cX9_hall 98 = .ok (.iload 5, 2) := by decide +kernel
theorem dX9_hall_100 : decode cX9_hall 100 = .ok (.bipush 12, 2) := by decide +kernel
theorem dX9_hall_102 : decode cX9_hall 102 = .ok (.if_icmp .ge 20, 3) := by decide +kernel
theorem dX9_hall_105 : decode cX9_hall 105 = .ok (.aload_n 0, 1) := by decide +kernel
theorem dX9_hall_106 : decode cX9_hall 106 = .ok (.getfield 9, 3) := by decide +kernel
theorem dX9_hall_109 : decode cX9_hall 109 = .ok (.iload 4, 2) := by decide +kernel
theorem dX9_hall_111 : decode cX9_hall 111 = .ok (.iload 5, 2) := by decide +kernel
theorem dX9_hall_113 : decode cX9_hall 113 = .ok (.iadd, 1) := by decide +kernel
theorem dX9_hall_114 : decode cX9_hall 114 = .ok (.iconst 0, 1) := by decide +kernel
theorem dX9_hall_115 : decode cX9_hall 115 = .ok (.iastore, 1) := by decide +kernel
theorem dX9_hall_116 : decode cX9_hall 116 = .ok (.iinc 5 1, 3) := by decide +kernel
theorem dX9_hall_119 : decode cX9_hall 119 = .ok (.goto (-21), 3) := by decide +kernel
theorem dX9_hall_122 : decode cX9_hall 122 = .ok (.aload_n 0, 1) := by decide +kernel
theorem dX9_hall_123 : decode cX9_hall 123 = .ok (.getfield 9, 3) := by decide +kernel
theorem dX9_hall_126 : decode cX9_hall 126 = .ok (.iload 4, 2) := by decide +kernel
theorem dX9_hall_128 : decode cX9_hall 128 = .ok (.iconst 0, 1) := by decide +kernel
theorem dX9_hall_129 : decode cX9_hall 129 = .ok (.iadd, 1) := by decide +kernel
theorem dX9_hall_130 : decode cX9_hall 130 = .ok (.iload_n 1, 1) := by decide +kernel
theorem dX9_hall_131 : decode cX9_hall 131 = .ok (.iastore, 1) := by decide +kernel
theorem dX9_hall_132 : decode cX9_hall 132 = .ok (.aload_n 0, 1) := by decide +kernel
theorem dX9_hall_133 : decode cX9_hall 133 = .ok (.getfield 9, 3) := by decide +kernel
theorem dX9_hall_136 : decode cX9_hall 136 = .ok (.iload 4, 2) := by decide +kernel
theorem dX9_hall_138 : decode cX9_hall 138 = .ok (.iconst 1, 1) := by decide +kernel
theorem dX9_hall_139 : decode cX9_hall 139 = .ok (.iadd, 1) := by decide +kernel
theorem dX9_hall_140 : decode cX9_hall 140 = .ok (.iload_n 2, 1) := by decide +kernel
theorem dX9_hall_141 : decode cX9_hall 141 = .ok (.sipush 1000, 3) := by decide +kernel
theorem dX9_hall_144 : decode cX9_hall 144 = .ok (.idiv, 1) := by decide +kernel
theorem dX9_hall_145 : decode cX9_hall 145 = .ok (.iastore, 1) := by decide +kernel
theorem dX9_hall_146 : decode cX9_hall 146 = .ok (.aload_n 0, 1) := by decide +kernel
theorem dX9_hall_147 : decode cX9_hall 147 = .ok (.getfield 9, 3) := by decide +kernel
theorem dX9_hall_150 : decode cX9_hall 150 = .ok (.iload 4, 2) := by decide +kernel
theorem dX9_hall_152 : decode cX9_hall 152 = .ok (.iconst 2, 1) := by decide +kernel
theorem dX9_hall_153 : decode cX9_hall 153 = .ok (.iadd, 1) := by decide +kernel
theorem dX9_hall_154 : decode cX9_hall 154 = .ok (.iload_n 2, 1) := by decide +kernel
theorem dX9_hall_155 : decode cX9_hall 155 = .ok (.bipush 100, 2) := by decide +kernel
theorem dX9_hall_157 : decode cX9_hall 157 = .ok (.idiv, 1) := by decide +kernel
theorem dX9_hall_158 : decode cX9_hall 158 = .ok (.bipush 10, 2) := by decide +kernel
theorem dX9_hall_160 : decode cX9_hall 160 = .ok (.irem, 1) := by decide +kernel
theorem dX9_hall_161 : decode cX9_hall 161 = .ok (.iastore, 1) := by decide +kernel
theorem dX9_hall_162 : decode cX9_hall 162 = .ok (.aload_n 0, 1) := by decide +kernel
theorem dX9_hall_163 : decode cX9_hall 163 = .ok (.getfield 9, 3) := by decide +kernel
theorem dX9_hall_166 : decode cX9_hall 166 = .ok (.iload 4, 2) := by decide +kernel
theorem dX9_hall_168 : decode cX9_hall 168 = .ok (.iconst 3, 1) := by decide +kernel
theorem dX9_hall_169 : decode cX9_hall 169 = .ok (.iadd, 1) := by decide +kernel
theorem dX9_hall_170 : decode cX9_hall 170 = .ok (.iload_n 2, 1) := by decide +kernel
theorem dX9_hall_171 : decode cX9_hall 171 = .ok (.bipush 10, 2) := by decide +kernel
theorem dX9_hall_173 : decode cX9_hall 173 = .ok (.idiv, 1) := by decide +kernel
theorem dX9_hall_174 : decode cX9_hall 174 = .ok (.bipush 10, 2) := by decide +kernel
theorem dX9_hall_176 : decode cX9_hall 176 = .ok (.irem, 1) := by decide +kernel
theorem dX9_hall_177 : decode cX9_hall 177 = .ok (.iastore, 1) := by decide +kernel
theorem dX9_hall_178 : decode cX9_hall 178 = .ok (.aload_n 0, 1) := by decide +kernel
theorem dX9_hall_179 : decode cX9_hall 179 = .ok (.getfield 9, 3) := by decide +kernel
theorem dX9_hall_182 : decode cX9_hall 182 = .ok (.iload 4, 2) := by decide +kernel
theorem dX9_hall_184 : decode cX9_hall 184 = .ok (.iconst 4, 1) := by decide +kernel
theorem dX9_hall_185 : decode cX9_hall 185 = .ok (.iadd, 1) := by decide +kernel
theorem dX9_hall_186 : decode cX9_hall 186 = .ok (.iload_n 3, 1) := by decide +kernel
theorem dX9_hall_187 : decode cX9_hall 187 = .ok (.iastore, 1) := by decide +kernel
theorem dX9_hall_188 : decode cX9_hall 188 = .ok (.aload_n 0, 1) := by decide +kernel
theorem dX9_hall_189 : decode cX9_hall 189 = .ok (.getfield 9, 3) := by decide +kernel
theorem dX9_hall_192 : decode cX9_hall 192 = .ok (.iload 4, 2) := by decide +kernel
theorem dX9_hall_194 : decode cX9_hall 194 = .ok (.bipush 9, 2) := by decide +kernel
theorem dX9_hall_196 : decode cX9_hall 196 = .ok (.iadd, 1) := by decide +kernel
theorem dX9_hall_197 : decode cX9_hall 197 = .ok (.iconst (-1), 1) := by decide +kernel
theorem dX9_hall_198 : decode cX9_hall 198 = .ok (.iastore, 1) := by decide +kernel
theorem dX9_hall_199 : decode cX9_hall 199 = .ok (.aload_n 0, 1) := by decide +kernel
theorem dX9_hall_200 : decode cX9_hall 200 = .ok (.getfield 9, 3) := by decide +kernel
theorem dX9_hall_203 : decode cX9_hall 203 = .ok (.sipush 1192, 3) := by decide +kernel
theorem dX9_hall_206 : decode cX9_hall 206 = .ok (.dup2, 1) := by decide +kernel
theorem dX9_hall_207 : decode cX9_hall 207 = .ok (.iaload, 1) := by decide +kernel
theorem dX9_hall_208 : decode cX9_hall 208 = .ok (.iconst 1, 1) := by decide +kernel
theorem dX9_hall_209 : decode cX9_hall 209 = .ok (.iadd, 1) := by decide +kernel
theorem dX9_hall_210 : decode cX9_hall 210 = .ok (.iastore, 1) := by decide +kernel
theorem dX9_hall_211 : decode cX9_hall 211 = .ok (.aload_n 0, 1) := by decide +kernel
theorem dX9_hall_212 : decode cX9_hall 212 = .ok (.getfield 9, 3) := by decide +kernel
theorem dX9_hall_215 : decode cX9_hall 215 = .ok (.sipush 1192, 3) := by decide +kernel
theorem dX9_hall_218 : decode cX9_hall 218 = .ok (.iaload, 1) := by decide +kernel
theorem dX9_hall_219 : decode cX9_hall 219 = .ok (.iconst 1, 1) := by decide +kernel
theorem dX9_hall_220 : decode cX9_hall 220 = .ok (.isub, 1) := by decide +kernel
theorem dX9_hall_221 : decode cX9_hall 221 = .ok (.ireturn, 1) := by decide +kernel
def B_X9_hall_122 (x1 : Int32) (x2 : Int32) (x3 : Int32) (x4 : Int32) (M : Mem) : Option (Int32 × Mem) := gd (inR (x4 + (0 : Int32)) 1194) (gd (inR (x4 + (1 : Int32)) 1194) (gd (inR (x4 + (2 : Int32)) 1194) (gd (inR (x4 + (3 : Int32)) 1194) (gd (inR (x4 + (4 : Int32)) 1194) (gd (inR (x4 + (9 : Int32)) 1194) (some (((mI (sI (sI (sI (sI (sI (sI (sI M 285 (x4 + (0 : Int32)).toNatClampNeg x1) 285 (x4 + (1 : Int32)).toNatClampNeg (x2 / (1000 : Int32))) 285 (x4 + (2 : Int32)).toNatClampNeg (jrem (x2 / (100 : Int32)) (10 : Int32))) 285 (x4 + (3 : Int32)).toNatClampNeg (jrem (x2 / (10 : Int32)) (10 : Int32))) 285 (x4 + (4 : Int32)).toNatClampNeg x3) 285 (x4 + (9 : Int32)).toNatClampNeg (-1 : Int32)) 285 1192 ((mI (sI (sI (sI (sI (sI (sI M 285 (x4 + (0 : Int32)).toNatClampNeg x1) 285 (x4 + (1 : Int32)).toNatClampNeg (x2 / (1000 : Int32))) 285 (x4 + (2 : Int32)).toNatClampNeg (jrem (x2 / (100 : Int32)) (10 : Int32))) 285 (x4 + (3 : Int32)).toNatClampNeg (jrem (x2 / (10 : Int32)) (10 : Int32))) 285 (x4 + (4 : Int32)).toNatClampNeg x3) 285 (x4 + (9 : Int32)).toNatClampNeg (-1 : Int32)) 285 1192) + (1 : Int32))) 285 1192) - (1 : Int32)), (sI (sI (sI (sI (sI (sI (sI M 285 (x4 + (0 : Int32)).toNatClampNeg x1) 285 (x4 + (1 : Int32)).toNatClampNeg (x2 / (1000 : Int32))) 285 (x4 + (2 : Int32)).toNatClampNeg (jrem (x2 / (100 : Int32)) (10 : Int32))) 285 (x4 + (3 : Int32)).toNatClampNeg (jrem (x2 / (10 : Int32)) (10 : Int32))) 285 (x4 + (4 : Int32)).toNatClampNeg x3) 285 (x4 + (9 : Int32)).toNatClampNeg (-1 : Int32)) 285 1192 ((mI (sI (sI (sI (sI (sI (sI M 285 (x4 + (0 : Int32)).toNatClampNeg x1) 285 (x4 + (1 : Int32)).toNatClampNeg (x2 / (1000 : Int32))) 285 (x4 + (2 : Int32)).toNatClampNeg (jrem (x2 / (100 : Int32)) (10 : Int32))) 285 (x4 + (3 : Int32)).toNatClampNeg (jrem (x2 / (10 : Int32)) (10 : Int32))) 285 (x4 + (4 : Int32)).toNatClampNeg x3) 285 (x4 + (9 : Int32)).toNatClampNeg (-1 : Int32)) 285 1192) + (1 : Int32))))))))))
def L_X9_hall_98 : Nat → Int32 → Int32 → Int32 → Int32 → Int32 → Mem → Option (Int32 × Mem)
  | 0, _, _, _, _, _, _ => none
  | n + 1, x1, x2, x3, x4, x5, M => if (12 : Int32) ≤ x5 then B_X9_hall_122 x1 x2 x3 x4 M else gd (inR (x4 + x5) 1194) (L_X9_hall_98 n x1 x2 x3 x4 (x5 + 1) (sI M 285 (x4 + x5).toNatClampNeg (0 : Int32)))
def f_X9_hall (x1 : Int32) (x2 : Int32) (x3 : Int32) (M : Mem) : Option (Int32 × Mem) := if (f_X9_isIn x1.toInt64 (1 : Int64) (999 : Int64)) = 0 then some ((-1 : Int32), M) else if (f_X9_isIn x3.toInt64 (0 : Int64) (100 : Int64)) = 0 then some ((-1 : Int32), M) else if x2 < 0 then some ((-1 : Int32), M) else if (1999 : Int32) < x2 then some ((-1 : Int32), M) else if (5 : Int32) < (jrem (x2 / (100 : Int32)) (10 : Int32)) then some ((-1 : Int32), M) else if (3 : Int32) < (jrem (x2 / (10 : Int32)) (10 : Int32)) then some ((-1 : Int32), M) else if (jrem x2 (10 : Int32)) = 0 then if (mI M 285 1192) = (30 : Int32) then some ((-2 : Int32), M) else L_X9_hall_98 FU x1 x2 x3 ((12 : Int32) * (mI M 285 1192)) (0 : Int32) M else some ((-1 : Int32), M)
set_option maxRecDepth 100000 in
set_option maxHeartbeats 4000000 in
theorem b_X9_hall_122 (Z : Sys) (X : Cx) (hR : xR X = rm_X9_hall) {q : Int32 × Mem} (hq : RetOk Z X (some .int) False (PostI q.1 q.2) 0 0) (x1 : Int32) (x2 : Int32) (x3 : Int32) (x4 : Int32) {M : Mem} (hs : St M) (hf : B_X9_hall_122 x1 x2 x3 x4 M = some q) : G Z X Y_X9_hall False 0 0 122 [(0, .ref (zs Z + 284)), (1, .int x1), (2, .int x2), (3, .int x3), (4, .int x4)] [] M := by
  unfold B_X9_hall_122 at hf
  refine G.aload_n 122 0 dX9_hall_122 rfl rfl ?_
  refine G.getp 123 ck_9 0 285 (hs.k k0_284) (pc_9_0 hs) (by decide) (by decide +kernel) wd_1305 dX9_hall_123 ?_
  refine G.iload 126 4 dX9_hall_126 rfl ?_
  refine G.iconst 128 (0 : Int32) dX9_hall_128 (by decide +kernel) ?_
  refine G.iadd 129 dX9_hall_129 ?_
  refine G.iload_n 130 1 dX9_hall_130 rfl rfl ?_
  obtain ⟨g14, hf⟩ := gd_e hf
  refine G.ist 131 (x4 + (0 : Int32)).toNatClampNeg (hs.k k0_285) g14 rfl dX9_hall_131 ?_
  refine G.aload_n 132 0 dX9_hall_132 rfl rfl ?_
  refine G.getp 133 ck_9 0 285 ((St.i hs).k k0_284) (pc_9_0 (St.i hs)) (by decide) (by decide +kernel) wd_1305 dX9_hall_133 ?_
  refine G.iload 136 4 dX9_hall_136 rfl ?_
  refine G.iconst 138 (1 : Int32) dX9_hall_138 (by decide +kernel) ?_
  refine G.iadd 139 dX9_hall_139 ?_
  refine G.iload_n 140 2 dX9_hall_140 rfl rfl ?_
  refine G.sipush 141 (1000 : Int32) dX9_hall_141 (by decide +kernel) ?_
  refine G.idiv 144 dX9_hall_144 (by decide +kernel) ?_
  obtain ⟨g15, hf⟩ := gd_e hf
  refine G.ist 145 (x4 + (1 : Int32)).toNatClampNeg ((St.i hs).k k0_285) g15 rfl dX9_hall_145 ?_
  refine G.aload_n 146 0 dX9_hall_146 rfl rfl ?_
  refine G.getp 147 ck_9 0 285 ((St.i (St.i hs)).k k0_284) (pc_9_0 (St.i (St.i hs))) (by decide) (by decide +kernel) wd_1305 dX9_hall_147 ?_
  refine G.iload 150 4 dX9_hall_150 rfl ?_
  refine G.iconst 152 (2 : Int32) dX9_hall_152 (by decide +kernel) ?_
  refine G.iadd 153 dX9_hall_153 ?_
  refine G.iload_n 154 2 dX9_hall_154 rfl rfl ?_
  refine G.bipush 155 (100 : Int32) dX9_hall_155 (by decide +kernel) ?_
  refine G.idiv 157 dX9_hall_157 (by decide +kernel) ?_
  refine G.bipush 158 (10 : Int32) dX9_hall_158 (by decide +kernel) ?_
  refine G.iremJ 160 dX9_hall_160 (by decide +kernel) ?_
  obtain ⟨g16, hf⟩ := gd_e hf
  refine G.ist 161 (x4 + (2 : Int32)).toNatClampNeg ((St.i (St.i hs)).k k0_285) g16 rfl dX9_hall_161 ?_
  refine G.aload_n 162 0 dX9_hall_162 rfl rfl ?_
  refine G.getp 163 ck_9 0 285 ((St.i (St.i (St.i hs))).k k0_284) (pc_9_0 (St.i (St.i (St.i hs)))) (by decide) (by decide +kernel) wd_1305 dX9_hall_163 ?_
  refine G.iload 166 4 dX9_hall_166 rfl ?_
  refine G.iconst 168 (3 : Int32) dX9_hall_168 (by decide +kernel) ?_
  refine G.iadd 169 dX9_hall_169 ?_
  refine G.iload_n 170 2 dX9_hall_170 rfl rfl ?_
  refine G.bipush 171 (10 : Int32) dX9_hall_171 (by decide +kernel) ?_
  refine G.idiv 173 dX9_hall_173 (by decide +kernel) ?_
  refine G.bipush 174 (10 : Int32) dX9_hall_174 (by decide +kernel) ?_
  refine G.iremJ 176 dX9_hall_176 (by decide +kernel) ?_
  obtain ⟨g17, hf⟩ := gd_e hf
  refine G.ist 177 (x4 + (3 : Int32)).toNatClampNeg ((St.i (St.i (St.i hs))).k k0_285) g17 rfl dX9_hall_177 ?_
  refine G.aload_n 178 0 dX9_hall_178 rfl rfl ?_
  refine G.getp 179 ck_9 0 285 ((St.i (St.i (St.i (St.i hs)))).k k0_284) (pc_9_0 (St.i (St.i (St.i (St.i hs))))) (by decide) (by decide +kernel) wd_1305 dX9_hall_179 ?_
  refine G.iload 182 4 dX9_hall_182 rfl ?_
  refine G.iconst 184 (4 : Int32) dX9_hall_184 (by decide +kernel) ?_
  refine G.iadd 185 dX9_hall_185 ?_
  refine G.iload_n 186 3 dX9_hall_186 rfl rfl ?_
  obtain ⟨g18, hf⟩ := gd_e hf
  refine G.ist 187 (x4 + (4 : Int32)).toNatClampNeg ((St.i (St.i (St.i (St.i hs)))).k k0_285) g18 rfl dX9_hall_187 ?_
  refine G.aload_n 188 0 dX9_hall_188 rfl rfl ?_
  refine G.getp 189 ck_9 0 285 ((St.i (St.i (St.i (St.i (St.i hs))))).k k0_284) (pc_9_0 (St.i (St.i (St.i (St.i (St.i hs)))))) (by decide) (by decide +kernel) wd_1305 dX9_hall_189 ?_
  refine G.iload 192 4 dX9_hall_192 rfl ?_
  refine G.bipush 194 (9 : Int32) dX9_hall_194 (by decide +kernel) ?_
  refine G.iadd 196 dX9_hall_196 ?_
  refine G.iconst 197 (-1 : Int32) dX9_hall_197 (by decide +kernel) ?_
  obtain ⟨g19, hf⟩ := gd_e hf
  refine G.ist 198 (x4 + (9 : Int32)).toNatClampNeg ((St.i (St.i (St.i (St.i (St.i hs))))).k k0_285) g19 rfl dX9_hall_198 ?_
  refine G.aload_n 199 0 dX9_hall_199 rfl rfl ?_
  refine G.getp 200 ck_9 0 285 ((St.i (St.i (St.i (St.i (St.i (St.i hs)))))).k k0_284) (pc_9_0 (St.i (St.i (St.i (St.i (St.i (St.i hs))))))) (by decide) (by decide +kernel) wd_1305 dX9_hall_200 ?_
  refine G.sipush 203 (1192 : Int32) dX9_hall_203 (by decide +kernel) ?_
  refine G.dup2 206 dX9_hall_206 rfl rfl ?_
  refine G.ia 207 1192 ((St.i (St.i (St.i (St.i (St.i (St.i hs)))))).k k0_285) (by decide +kernel) (by decide +kernel) dX9_hall_207 ?_
  refine G.iconst 208 (1 : Int32) dX9_hall_208 (by decide +kernel) ?_
  refine G.iadd 209 dX9_hall_209 ?_
  refine G.ist 210 1192 ((St.i (St.i (St.i (St.i (St.i (St.i hs)))))).k k0_285) (by decide +kernel) (by decide +kernel) dX9_hall_210 ?_
  refine G.aload_n 211 0 dX9_hall_211 rfl rfl ?_
  refine G.getp 212 ck_9 0 285 ((St.i (St.i (St.i (St.i (St.i (St.i (St.i hs))))))).k k0_284) (pc_9_0 (St.i (St.i (St.i (St.i (St.i (St.i (St.i hs)))))))) (by decide) (by decide +kernel) wd_1305 dX9_hall_212 ?_
  refine G.sipush 215 (1192 : Int32) dX9_hall_215 (by decide +kernel) ?_
  refine G.ia 218 1192 ((St.i (St.i (St.i (St.i (St.i (St.i (St.i hs))))))).k k0_285) (by decide +kernel) (by decide +kernel) dX9_hall_218 ?_
  refine G.iconst 219 (1 : Int32) dX9_hall_219 (by decide +kernel) ?_
  refine G.isub 220 dX9_hall_220 ?_
  (have hf9 := Option.some.inj hf; subst hf9)
  exact G.rI 221 hq dX9_hall_221 (St.i (St.i (St.i (St.i (St.i (St.i (St.i hs)))))))
set_option maxRecDepth 100000 in
set_option maxHeartbeats 4000000 in
theorem l_X9_hall_98 (Z : Sys) (X : Cx) (hR : xR X = rm_X9_hall) {q : Int32 × Mem} (hq : RetOk Z X (some .int) False (PostI q.1 q.2) 0 0) : ∀ (n : Nat) (x1 : Int32) (x2 : Int32) (x3 : Int32) (x4 : Int32) (x5 : Int32) (M : Mem) (hs : St M) (hf : L_X9_hall_98 n x1 x2 x3 x4 x5 M = some q), G Z X Y_X9_hall False 0 0 98 [(0, .ref (zs Z + 284)), (1, .int x1), (2, .int x2), (3, .int x3), (4, .int x4), (5, .int x5)] [] M := by
  intro n
  induction n with
  | zero => intro x1 x2 x3 x4 x5 M hs  hf; cases hf
  | succ n ih =>
    intro x1 x2 x3 x4 x5 M hs  hf
    unfold L_X9_hall_98 at hf
    refine G.iload 98 5 dX9_hall_98 rfl ?_
    refine G.bipush 100 (12 : Int32) dX9_hall_100 (by decide +kernel) ?_
    refine G.icmp_ge 102 122 dX9_hall_102 (by decide) (fun h13 => ?_) (fun h13 => ?_)
    · replace hf := (if_pos h13).symm.trans hf
      refine G.locs [0, 1, 2, 3, 4] rfl ?_
      exact b_X9_hall_122 Z X hR hq x1 x2 x3 x4 hs hf
    · replace hf := (if_neg h13).symm.trans hf
      refine G.aload_n 105 0 dX9_hall_105 rfl rfl ?_
      refine G.getp 106 ck_9 0 285 (hs.k k0_284) (pc_9_0 hs) (by decide) (by decide +kernel) wd_1305 dX9_hall_106 ?_
      refine G.iload 109 4 dX9_hall_109 rfl ?_
      refine G.iload 111 5 dX9_hall_111 rfl ?_
      refine G.iadd 113 dX9_hall_113 ?_
      refine G.iconst 114 (0 : Int32) dX9_hall_114 (by decide +kernel) ?_
      obtain ⟨g20, hf⟩ := gd_e hf
      refine G.ist 115 (x4 + x5).toNatClampNeg (hs.k k0_285) g20 rfl dX9_hall_115 ?_
      refine G.iinc 116 5 (x5 + 1) [(5, .int (x5 + 1)), (0, .ref (zs Z + 284)), (1, .int x1), (2, .int x2), (3, .int x3), (4, .int x4)] dX9_hall_116 rfl (congrArg (fun z => x5 + z) (by decide +kernel)) (Nat.le_of_ble_eq_true rfl) rfl ?_
      refine G.goto 119 98 dX9_hall_119 (by decide) ?_
      refine G.locs [1, 2, 3, 4, 5, 0] rfl ?_
      exact ih x1 x2 x3 x4 (x5 + 1) (sI M 285 (x4 + x5).toNatClampNeg (0 : Int32)) (St.i hs) hf
set_option maxRecDepth 100000 in
set_option maxHeartbeats 4000000 in
theorem c_X9_hall (Z : Sys) {M : Mem} (hs : St M) (x1 : Int32) (x2 : Int32) (x3 : Int32) {q : Int32 × Mem} (hf : f_X9_hall x1 x2 x3 M = some q) : Ct Z yX9_hall cX9_hall 6 (some .int) rm_X9_hall [.ref (zs Z + 284), .int x1, .int x2, .int x3] M False (PostI q.1 q.2) := by
  refine Ct.of (by decide +kernel) (Nat.le_of_ble_eq_true rfl) (fun X hR hq _ => ?_)
  show G Z X Y_X9_hall False 0 0 0 [(0, .ref (zs Z + 284)), (1, .int x1), (2, .int x2), (3, .int x3)] [] M
  replace hq : RetOk Z X (some .int) False (PostI q.1 q.2) 0 0 := hq
  unfold f_X9_hall at hf
  refine G.iload_n 0 1 dX9_hall_0 rfl rfl ?_
  refine G.i2l 1 dX9_hall_1 ?_
  refine G.lconst 2 (1 : Int64) dX9_hall_2 (by decide +kernel) ?_
  refine G.ldc2 3 (999 : Int64) wd_1398 dX9_hall_3 ?_
  refine G.csZ 6 (As := [.long x1.toInt64, .long (1 : Int64), .long (999 : Int64)]) (c_X9_isIn Z hs x1.toInt64 (1 : Int64) (999 : Int64) rfl) mk_X9_isIn wd_1400 wd_1399 hR (by decide +kernel) ⟨rfl, rfl⟩ rfl (Nat.le_of_ble_eq_true rfl) dX9_hall_6 (fun hs1 z2 => ?_)
  refine G.if_eq 9 64 dX9_hall_9 (by decide) (fun h3 => ?_) (fun h3 => ?_)
  · replace hf := (if_pos h3).symm.trans hf
    refine G.iconst 64 (-1 : Int32) dX9_hall_64 (by decide +kernel) ?_
    (have hf9 := Option.some.inj hf; subst hf9)
    exact G.rI 65 hq dX9_hall_65 hs1
  · replace hf := (if_neg h3).symm.trans hf
    refine G.iload_n 12 3 dX9_hall_12 rfl rfl ?_
    refine G.i2l 13 dX9_hall_13 ?_
    refine G.lconst 14 (0 : Int64) dX9_hall_14 (by decide +kernel) ?_
    refine G.ldc2 15 (100 : Int64) wd_1402 dX9_hall_15 ?_
    refine G.csZ 18 (As := [.long x3.toInt64, .long (0 : Int64), .long (100 : Int64)]) (c_X9_isIn Z hs1 x3.toInt64 (0 : Int64) (100 : Int64) rfl) mk_X9_isIn wd_1400 wd_1399 hR (by decide +kernel) ⟨rfl, rfl⟩ rfl (Nat.le_of_ble_eq_true rfl) dX9_hall_18 (fun hs4 z5 => ?_)
    refine G.if_eq 21 64 dX9_hall_21 (by decide) (fun h6 => ?_) (fun h6 => ?_)
    · replace hf := (if_pos h6).symm.trans hf
      refine G.iconst 64 (-1 : Int32) dX9_hall_64 (by decide +kernel) ?_
      (have hf9 := Option.some.inj hf; subst hf9)
      exact G.rI 65 hq dX9_hall_65 hs4
    · replace hf := (if_neg h6).symm.trans hf
      refine G.iload_n 24 2 dX9_hall_24 rfl rfl ?_
      refine G.if_lt 25 64 dX9_hall_25 (by decide) (fun h7 => ?_) (fun h7 => ?_)
      · replace hf := (if_pos h7).symm.trans hf
        refine G.iconst 64 (-1 : Int32) dX9_hall_64 (by decide +kernel) ?_
        (have hf9 := Option.some.inj hf; subst hf9)
        exact G.rI 65 hq dX9_hall_65 hs4
      · replace hf := (if_neg h7).symm.trans hf
        refine G.iload_n 28 2 dX9_hall_28 rfl rfl ?_
        refine G.sipush 29 (1999 : Int32) dX9_hall_29 (by decide +kernel) ?_
        refine G.icmp_gt 32 64 dX9_hall_32 (by decide) (fun h8 => ?_) (fun h8 => ?_)
        · replace hf := (if_pos h8).symm.trans hf
          refine G.iconst 64 (-1 : Int32) dX9_hall_64 (by decide +kernel) ?_
          (have hf9 := Option.some.inj hf; subst hf9)
          exact G.rI 65 hq dX9_hall_65 hs4
        · replace hf := (if_neg h8).symm.trans hf
          refine G.iload_n 35 2 dX9_hall_35 rfl rfl ?_
          refine G.bipush 36 (100 : Int32) dX9_hall_36 (by decide +kernel) ?_
          refine G.idiv 38 dX9_hall_38 (by decide +kernel) ?_
          refine G.bipush 39 (10 : Int32) dX9_hall_39 (by decide +kernel) ?_
          refine G.iremJ 41 dX9_hall_41 (by decide +kernel) ?_
          refine G.iconst 42 (5 : Int32) dX9_hall_42 (by decide +kernel) ?_
          refine G.icmp_gt 43 64 dX9_hall_43 (by decide) (fun h9 => ?_) (fun h9 => ?_)
          · replace hf := (if_pos h9).symm.trans hf
            refine G.iconst 64 (-1 : Int32) dX9_hall_64 (by decide +kernel) ?_
            (have hf9 := Option.some.inj hf; subst hf9)
            exact G.rI 65 hq dX9_hall_65 hs4
          · replace hf := (if_neg h9).symm.trans hf
            refine G.iload_n 46 2 dX9_hall_46 rfl rfl ?_
            refine G.bipush 47 (10 : Int32) dX9_hall_47 (by decide +kernel) ?_
            refine G.idiv 49 dX9_hall_49 (by decide +kernel) ?_
            refine G.bipush 50 (10 : Int32) dX9_hall_50 (by decide +kernel) ?_
            refine G.iremJ 52 dX9_hall_52 (by decide +kernel) ?_
            refine G.iconst 53 (3 : Int32) dX9_hall_53 (by decide +kernel) ?_
            refine G.icmp_gt 54 64 dX9_hall_54 (by decide) (fun h10 => ?_) (fun h10 => ?_)
            · replace hf := (if_pos h10).symm.trans hf
              refine G.iconst 64 (-1 : Int32) dX9_hall_64 (by decide +kernel) ?_
              (have hf9 := Option.some.inj hf; subst hf9)
              exact G.rI 65 hq dX9_hall_65 hs4
            · replace hf := (if_neg h10).symm.trans hf
              refine G.iload_n 57 2 dX9_hall_57 rfl rfl ?_
              refine G.bipush 58 (10 : Int32) dX9_hall_58 (by decide +kernel) ?_
              refine G.iremJ 60 dX9_hall_60 (by decide +kernel) ?_
              refine G.if_eq 61 66 dX9_hall_61 (by decide) (fun h11 => ?_) (fun h11 => ?_)
              · replace hf := (if_pos h11).symm.trans hf
                refine G.aload_n 66 0 dX9_hall_66 rfl rfl ?_
                refine G.getp 67 ck_9 0 285 (hs4.k k0_284) (pc_9_0 hs4) (by decide) (by decide +kernel) wd_1305 dX9_hall_67 ?_
                refine G.sipush 70 (1192 : Int32) dX9_hall_70 (by decide +kernel) ?_
                refine G.ia 73 1192 (hs4.k k0_285) (by decide +kernel) (by decide +kernel) dX9_hall_73 ?_
                refine G.bipush 74 (30 : Int32) dX9_hall_74 (by decide +kernel) ?_
                refine G.icmp_ne 76 82 dX9_hall_76 (by decide) (fun h12 => ?_) (fun h12 => ?_)
                · replace hf := (if_neg h12).symm.trans hf
                  refine G.bipush 82 (12 : Int32) dX9_hall_82 (by decide +kernel) ?_
                  refine G.aload_n 84 0 dX9_hall_84 rfl rfl ?_
                  refine G.getp 85 ck_9 0 285 (hs4.k k0_284) (pc_9_0 hs4) (by decide) (by decide +kernel) wd_1305 dX9_hall_85 ?_
                  refine G.sipush 88 (1192 : Int32) dX9_hall_88 (by decide +kernel) ?_
                  refine G.ia 91 1192 (hs4.k k0_285) (by decide +kernel) (by decide +kernel) dX9_hall_91 ?_
                  refine G.imul 92 dX9_hall_92 ?_
                  refine G.istore 93 [(4, .int ((12 : Int32) * (mI M 285 1192))), (0, .ref (zs Z + 284)), (1, .int x1), (2, .int x2), (3, .int x3)] dX9_hall_93 (Nat.le_of_ble_eq_true rfl) rfl ?_
                  refine G.iconst 95 (0 : Int32) dX9_hall_95 (by decide +kernel) ?_
                  refine G.istore 96 [(5, .int (0 : Int32)), (4, .int ((12 : Int32) * (mI M 285 1192))), (0, .ref (zs Z + 284)), (1, .int x1), (2, .int x2), (3, .int x3)] dX9_hall_96 (Nat.le_of_ble_eq_true rfl) rfl ?_
                  refine G.locs [2, 3, 4, 5, 1, 0] rfl ?_
                  exact l_X9_hall_98 Z X hR hq FU x1 x2 x3 ((12 : Int32) * (mI M 285 1192)) (0 : Int32) M hs4 hf
                · replace hf := (if_pos h12).symm.trans hf
                  refine G.bipush 79 (-2 : Int32) dX9_hall_79 (by decide +kernel) ?_
                  (have hf9 := Option.some.inj hf; subst hf9)
                  exact G.rI 81 hq dX9_hall_81 hs4
              · replace hf := (if_neg h11).symm.trans hf
                refine G.iconst 64 (-1 : Int32) dX9_hall_64 (by decide +kernel) ?_
                (have hf9 := Option.some.inj hf; subst hf9)
                exact G.rI 65 hq dX9_hall_65 hs4
abbrev Y_X9_held : My := (cX9_held, RX9, 2)
def rm_X9_held : Room := { frames := 1, cells := 0, slots := 0, locals := 200 }
theorem dX9_held_0 : decode cX9_held 0 = .ok (.iload_n 0, 1) := by decide +kernel
theorem dX9_held_1 : decode cX9_held 1 = .ok (.ifCond .ge 7, 3) := by decide +kernel
theorem dX9_held_4 : decode cX9_held 4 = .ok (.iconst 0, 1) := by decide +kernel
theorem dX9_held_5 : decode cX9_held 5 = .ok (.goto 13, 3) := by decide +kernel
theorem dX9_held_8 : decode cX9_held 8 = .ok (.iload_n 0, 1) := by decide +kernel
theorem dX9_held_9 : decode cX9_held 9 = .ok (.iload_n 1, 1) := by decide +kernel
theorem dX9_held_10 : decode cX9_held 10 = .ok (.if_icmp .le 7, 3) := by decide +kernel
theorem dX9_held_13 : decode cX9_held 13 = .ok (.iload_n 1, 1) := by decide +kernel
theorem dX9_held_14 : decode cX9_held 14 = .ok (.goto 4, 3) := by decide +kernel
theorem dX9_held_17 : decode cX9_held 17 = .ok (.iload_n 0, 1) := by decide +kernel
theorem dX9_held_18 : decode cX9_held 18 = .ok (.ireturn, 1) := by decide +kernel
def f_X9_held (x0 : Int32) (x1 : Int32) : Int32 := if 0 ≤ x0 then if x0 ≤ x1 then x0 else x1 else (0 : Int32)
set_option maxRecDepth 100000 in
set_option maxHeartbeats 4000000 in
theorem c_X9_held (Z : Sys) {M : Mem} (hs : St M) (x0 : Int32) (x1 : Int32) {q : Int32} (hf : f_X9_held x0 x1 = q) : Ct Z yX9_held cX9_held 2 (some .int) rm_X9_held [.int x0, .int x1] M False (PostI q M) := by
  refine Ct.of (by decide +kernel) (Nat.le_of_ble_eq_true rfl) (fun X hR hq _ => ?_)
  show G Z X Y_X9_held False 0 0 0 [(0, .int x0), (1, .int x1)] [] M
  replace hq : RetOk Z X (some .int) False (PostI q M) 0 0 := hq
  unfold f_X9_held at hf
  refine G.iload_n 0 0 dX9_held_0 rfl rfl ?_
  refine G.if_ge 1 8 dX9_held_1 (by decide) (fun h1 => ?_) (fun h1 => ?_)
  · replace hf := (if_pos h1).symm.trans hf
    refine G.iload_n 8 0 dX9_held_8 rfl rfl ?_
    refine G.iload_n 9 1 dX9_held_9 rfl rfl ?_
    refine G.icmp_le 10 17 dX9_held_10 (by decide) (fun h2 => ?_) (fun h2 => ?_)
    · replace hf := (if_pos h2).symm.trans hf
      refine G.iload_n 17 0 dX9_held_17 rfl rfl ?_
      subst hf
      exact G.rI 18 hq dX9_held_18 hs
    · replace hf := (if_neg h2).symm.trans hf
      refine G.iload_n 13 1 dX9_held_13 rfl rfl ?_
      refine G.goto 14 18 dX9_held_14 (by decide) ?_
      subst hf
      exact G.rI 18 hq dX9_held_18 hs
  · replace hf := (if_neg h1).symm.trans hf
    refine G.iconst 4 (0 : Int32) dX9_held_4 (by decide +kernel) ?_
    refine G.goto 5 18 dX9_held_5 (by decide) ?_
    subst hf
    exact G.rI 18 hq dX9_held_18 hs
abbrev Y_X9_writes : My := (cX9_writes, RX9, 4)
def rm_X9_writes : Room := { frames := 1, cells := 0, slots := 0, locals := 200 }
theorem dX9_writes_0 : decode cX9_writes 0 = .ok (.aload_n 0, 1) := by decide +kernel
theorem dX9_writes_1 : decode cX9_writes 1 = .ok (.getfield 9, 3) := by decide +kernel
theorem dX9_writes_4 : decode cX9_writes 4 = .ok (.bipush 12, 2) := by decide +kernel
theorem dX9_writes_6 : decode cX9_writes 6 = .ok (.iload_n 1, 1) := by decide +kernel
theorem dX9_writes_7 : decode cX9_writes 7 = .ok (.imul, 1) := by decide +kernel
theorem dX9_writes_8 : decode cX9_writes 8 = .ok (.bipush 9, 2) := by decide +kernel
theorem dX9_writes_10 : decode cX9_writes 10 = .ok (.iadd, 1) := by decide +kernel
theorem dX9_writes_11 : decode cX9_writes 11 = .ok (.iload_n 2, 1) := by decide +kernel
theorem dX9_writes_12 : decode cX9_writes 12 = .ok (.iastore, 1) := by decide +kernel
theorem dX9_writes_13 : decode cX9_writes 13 = .ok (.aload_n 0, 1) := by decide +kernel
theorem dX9_writes_14 : decode cX9_writes 14 = .ok (.getfield 9, 3) := by decide +kernel
theorem dX9_writes_17 : decode cX9_writes 17 = .ok (.bipush 12, 2) := by decide +kernel
theorem dX9_writes_19 : decode cX9_writes 19 = .ok (.iload_n 1, 1) := by decide +kernel
theorem dX9_writes_20 : decode cX9_writes 20 = .ok (.imul, 1) := by decide +kernel
theorem dX9_writes_21 : decode cX9_writes 21 = .ok (.bipush 10, 2) := by decide +kernel
theorem dX9_writes_23 : decode cX9_writes 23 = .ok (.iadd, 1) := by decide +kernel
theorem dX9_writes_24 : decode cX9_writes 24 = .ok (.iload_n 3, 1) := by decide +kernel
theorem dX9_writes_25 : decode cX9_writes 25 = .ok (.iastore, 1) := by decide +kernel
theorem dX9_writes_26 : decode cX9_writes 26 = .ok (.return_, 1) := by decide +kernel
def f_X9_writes (x1 : Int32) (x2 : Int32) (x3 : Int32) (M : Mem) : Option Mem := gd (inR (((12 : Int32) * x1) + (9 : Int32)) 1194) (gd (inR (((12 : Int32) * x1) + (10 : Int32)) 1194) (some (sI (sI M 285 (((12 : Int32) * x1) + (9 : Int32)).toNatClampNeg x2) 285 (((12 : Int32) * x1) + (10 : Int32)).toNatClampNeg x3)))
set_option maxRecDepth 100000 in
set_option maxHeartbeats 4000000 in
theorem c_X9_writes (Z : Sys) {M : Mem} (hs : St M) (x1 : Int32) (x2 : Int32) (x3 : Int32) {q : Mem} (hf : f_X9_writes x1 x2 x3 M = some q) : Ct Z yX9_writes cX9_writes 4 none rm_X9_writes [.ref (zs Z + 284), .int x1, .int x2, .int x3] M False (PostV q) := by
  refine Ct.of (by decide +kernel) (Nat.le_of_ble_eq_true rfl) (fun X hR hq _ => ?_)
  show G Z X Y_X9_writes False 0 0 0 [(0, .ref (zs Z + 284)), (1, .int x1), (2, .int x2), (3, .int x3)] [] M
  replace hq : RetOk Z X none False (PostV q) 0 0 := hq
  unfold f_X9_writes at hf
  refine G.aload_n 0 0 dX9_writes_0 rfl rfl ?_
  refine G.getp 1 ck_9 0 285 (hs.k k0_284) (pc_9_0 hs) (by decide) (by decide +kernel) wd_1305 dX9_writes_1 ?_
  refine G.bipush 4 (12 : Int32) dX9_writes_4 (by decide +kernel) ?_
  refine G.iload_n 6 1 dX9_writes_6 rfl rfl ?_
  refine G.imul 7 dX9_writes_7 ?_
  refine G.bipush 8 (9 : Int32) dX9_writes_8 (by decide +kernel) ?_
  refine G.iadd 10 dX9_writes_10 ?_
  refine G.iload_n 11 2 dX9_writes_11 rfl rfl ?_
  obtain ⟨g1, hf⟩ := gd_e hf
  refine G.ist 12 (((12 : Int32) * x1) + (9 : Int32)).toNatClampNeg (hs.k k0_285) g1 rfl dX9_writes_12 ?_
  refine G.aload_n 13 0 dX9_writes_13 rfl rfl ?_
  refine G.getp 14 ck_9 0 285 ((St.i hs).k k0_284) (pc_9_0 (St.i hs)) (by decide) (by decide +kernel) wd_1305 dX9_writes_14 ?_
  refine G.bipush 17 (12 : Int32) dX9_writes_17 (by decide +kernel) ?_
  refine G.iload_n 19 1 dX9_writes_19 rfl rfl ?_
  refine G.imul 20 dX9_writes_20 ?_
  refine G.bipush 21 (10 : Int32) dX9_writes_21 (by decide +kernel) ?_
  refine G.iadd 23 dX9_writes_23 ?_
  refine G.iload_n 24 3 dX9_writes_24 rfl rfl ?_
  obtain ⟨g2, hf⟩ := gd_e hf
  refine G.ist 25 (((12 : Int32) * x1) + (10 : Int32)).toNatClampNeg ((St.i hs).k k0_285) g2 rfl dX9_writes_25 ?_
  (have hf9 := Option.some.inj hf; subst hf9)
  exact G.rV 26 hq dX9_writes_26 (St.i (St.i hs))
abbrev Y_X9_there : My := (cX9_there, RX9, 3)
def rm_X9_there : Room := { frames := 3, cells := 0, slots := 0, locals := 243 }
theorem dX9_there_0 : decode cX9_there 0 = .ok (.iconst 0, 1) := by decide +kernel
theorem dX9_there_1 : decode cX9_there 1 = .ok (.istore_n 1, 1) := by decide +kernel
theorem dX9_there_2 : decode cX9_there 2 = .ok (.iconst 0, 1) := by decide +kernel
theorem dX9_there_3 : decode cX9_there 3 = .ok (.istore_n 2, 1) := by decide +kernel
theorem dX9_there_4 : decode cX9_there 4 = .ok (.iload_n 2, 1) := by decide +kernel
theorem dX9_there_5 : decode cX9_there 5 = .ok (.aload_n 0, 1) := by decide +kernel
theorem dX9_there_6 : decode cX9_there 6 = .ok (.getfield 9, 3) := by decide +kernel
theorem dX9_there_9 : decode cX9_there 9 = .ok (.sipush 1192, 3) := by decide +kernel
theorem dX9_there_12 : decode cX9_there 12 = .ok (.iaload, 1) := by decide +kernel
theorem dX9_there_13 : decode cX9_there 13 = .ok (.if_icmp .ge 25, 3) := by decide +kernel
theorem dX9_there_16 : decode cX9_there 16 = .ok (.iload_n 1, 1) := by decide +kernel
theorem dX9_there_17 : decode cX9_there 17 = .ok (.aload_n 0, 1) := by decide +kernel
theorem dX9_there_18 : decode cX9_there 18 = .ok (.iload_n 2, 1) := by decide +kernel
theorem dX9_there_19 : decode cX9_there 19 = .ok (.invokevirtual 97, 3) := by decide +kernel
theorem dX9_there_22 : decode cX9_there 22 = .ok (.ifCond .eq 7, 3) := by decide +kernel
theorem dX9_there_25 : decode cX9_there 25 = .ok (.iconst 1, 1) := by decide +kernel
theorem dX9_there_26 : decode cX9_there 26 = .ok (.goto 4, 3) := by decide +kernel
theorem dX9_there_29 : decode cX9_there 29 = .ok (.iconst 0, 1) := by decide +kernel
theorem dX9_there_30 : decode cX9_there 30 = .ok (.iadd, 1) := by decide +kernel
theorem dX9_there_31 : decode cX9_there 31 = .ok (.istore_n 1, 1) := by decide +kernel
theorem dX9_there_32 : decode cX9_there 32 = .ok (.iinc 2 1, 3) := by decide +kernel
theorem dX9_there_35 : decode cX9_there 35 = .ok (.goto (-31), 3) := by decide +kernel
theorem dX9_there_38 : decode cX9_there 38 = .ok (.iload_n 1, 1) := by decide +kernel
theorem dX9_there_39 : decode cX9_there 39 = .ok (.ireturn, 1) := by decide +kernel
def L_X9_there_4 : Nat → Int32 → Int32 → Mem → Option Int32
  | 0, _, _, _ => none
  | n + 1, x1, x2, M => if (mI M 285 1192) ≤ x2 then some x1 else (f_X9_has x2 M).bind fun q4 => if q4 = 0 then L_X9_there_4 n (x1 + (0 : Int32)) (x2 + 1) M else L_X9_there_4 n (x1 + (1 : Int32)) (x2 + 1) M
def f_X9_there (M : Mem) : Option Int32 := L_X9_there_4 FU (0 : Int32) (0 : Int32) M
set_option maxRecDepth 100000 in
set_option maxHeartbeats 4000000 in
theorem l_X9_there_4 (Z : Sys) (X : Cx) (hR : xR X = rm_X9_there) {q : Int32} {M : Mem} (hq : RetOk Z X (some .int) False (PostI q M) 0 0) : ∀ (n : Nat) (x1 : Int32) (x2 : Int32) (hs : St M) (hf : L_X9_there_4 n x1 x2 M = some q), G Z X Y_X9_there False 0 0 4 [(0, .ref (zs Z + 284)), (1, .int x1), (2, .int x2)] [] M := by
  intro n
  induction n with
  | zero => intro x1 x2 hs  hf; cases hf
  | succ n ih =>
    intro x1 x2 hs  hf
    unfold L_X9_there_4 at hf
    refine G.iload_n 4 2 dX9_there_4 rfl rfl ?_
    refine G.aload_n 5 0 dX9_there_5 rfl rfl ?_
    refine G.getp 6 ck_9 0 285 (hs.k k0_284) (pc_9_0 hs) (by decide) (by decide +kernel) wd_1305 dX9_there_6 ?_
    refine G.sipush 9 (1192 : Int32) dX9_there_9 (by decide +kernel) ?_
    refine G.ia 12 1192 (hs.k k0_285) (by decide +kernel) (by decide +kernel) dX9_there_12 ?_
    refine G.icmp_ge 13 38 dX9_there_13 (by decide) (fun h1 => ?_) (fun h1 => ?_)
    · replace hf := (if_pos h1).symm.trans hf
      refine G.iload_n 38 1 dX9_there_38 rfl rfl ?_
      (have hf9 := Option.some.inj hf; subst hf9)
      exact G.rI 39 hq dX9_there_39 hs
    · replace hf := (if_neg h1).symm.trans hf
      refine G.iload_n 16 1 dX9_there_16 rfl rfl ?_
      refine G.aload_n 17 0 dX9_there_17 rfl rfl ?_
      refine G.iload_n 18 2 dX9_there_18 rfl rfl ?_
      obtain ⟨q4, e5, hf⟩ := bd_e hf
      refine G.cvZ 19 (As := [.int x2]) ck_9 (hs.k k0_284) (c_X9_has Z hs x2 e5) mk_X9_has vk_X9_has rfl wd_1445 hR (by decide +kernel) ⟨rfl, rfl⟩ rfl (Nat.le_of_ble_eq_true rfl) dX9_there_19 (fun hs2 z3 => ?_)
      refine G.if_eq 22 29 dX9_there_22 (by decide) (fun h6 => ?_) (fun h6 => ?_)
      · replace hf := (if_pos h6).symm.trans hf
        refine G.iconst 29 (0 : Int32) dX9_there_29 (by decide +kernel) ?_
        refine G.iadd 30 dX9_there_30 ?_
        refine G.istore_n 31 [(1, .int (x1 + (0 : Int32))), (0, .ref (zs Z + 284)), (2, .int x2)] dX9_there_31 rfl (Nat.le_of_ble_eq_true rfl) rfl ?_
        refine G.iinc 32 2 (x2 + 1) [(2, .int (x2 + 1)), (1, .int (x1 + (0 : Int32))), (0, .ref (zs Z + 284))] dX9_there_32 rfl (congrArg (fun z => x2 + z) (by decide +kernel)) (Nat.le_of_ble_eq_true rfl) rfl ?_
        refine G.goto 35 4 dX9_there_35 (by decide) ?_
        refine G.locs [2, 1, 0] rfl ?_
        exact ih (x1 + (0 : Int32)) (x2 + 1) hs2 hf
      · replace hf := (if_neg h6).symm.trans hf
        refine G.iconst 25 (1 : Int32) dX9_there_25 (by decide +kernel) ?_
        refine G.goto 26 30 dX9_there_26 (by decide) ?_
        refine G.iadd 30 dX9_there_30 ?_
        refine G.istore_n 31 [(1, .int (x1 + (1 : Int32))), (0, .ref (zs Z + 284)), (2, .int x2)] dX9_there_31 rfl (Nat.le_of_ble_eq_true rfl) rfl ?_
        refine G.iinc 32 2 (x2 + 1) [(2, .int (x2 + 1)), (1, .int (x1 + (1 : Int32))), (0, .ref (zs Z + 284))] dX9_there_32 rfl (congrArg (fun z => x2 + z) (by decide +kernel)) (Nat.le_of_ble_eq_true rfl) rfl ?_
        refine G.goto 35 4 dX9_there_35 (by decide) ?_
        refine G.locs [2, 1, 0] rfl ?_
        exact ih (x1 + (1 : Int32)) (x2 + 1) hs2 hf
set_option maxRecDepth 100000 in
set_option maxHeartbeats 4000000 in
theorem c_X9_there (Z : Sys) {M : Mem} (hs : St M) {q : Int32} (hf : f_X9_there M = some q) : Ct Z yX9_there cX9_there 3 (some .int) rm_X9_there [.ref (zs Z + 284)] M False (PostI q M) := by
  refine Ct.of (by decide +kernel) (Nat.le_of_ble_eq_true rfl) (fun X hR hq _ => ?_)
  show G Z X Y_X9_there False 0 0 0 [(0, .ref (zs Z + 284))] [] M
  replace hq : RetOk Z X (some .int) False (PostI q M) 0 0 := hq
  unfold f_X9_there at hf
  refine G.iconst 0 (0 : Int32) dX9_there_0 (by decide +kernel) ?_
  refine G.istore_n 1 [(1, .int (0 : Int32)), (0, .ref (zs Z + 284))] dX9_there_1 rfl (Nat.le_of_ble_eq_true rfl) rfl ?_
  refine G.iconst 2 (0 : Int32) dX9_there_2 (by decide +kernel) ?_
  refine G.istore_n 3 [(2, .int (0 : Int32)), (1, .int (0 : Int32)), (0, .ref (zs Z + 284))] dX9_there_3 rfl (Nat.le_of_ble_eq_true rfl) rfl ?_
  refine G.locs [2, 1, 0] rfl ?_
  exact l_X9_there_4 Z X hR hq FU (0 : Int32) (0 : Int32) hs hf
abbrev Y_X9_hear : My := (cX9_hear, RX9, 7)
def rm_X9_hear : Room := { frames := 4, cells := 0, slots := 0, locals := 265 }
theorem dX9_hear_0 : decode cX9_hear 0 = .ok (.iload_n 1, 1) := by decide +kernel
theorem dX9_hear_1 : decode cX9_hear 1 = .ok (.invokestatic 111, 3) := by decide +kernel
theorem dX9_hear_4 : decode cX9_hear 4 = .ok (.ifCond .eq 10, 3) := by decide +kernel
theorem dX9_hear_7 : decode cX9_hear 7 = .ok (.iload_n 2, 1) := by decide +kernel
theorem dX9_hear_8 : decode cX9_hear 8 = .ok (.invokestatic 111, 3) := by decide +kernel
theorem dX9_hear_11 : decode cX9_hear 11 = .ok (.ifCond .ne 5, 3) := by decide +kernel
theorem dX9_hear_14 : decode cX9_hear 14 = .ok (.iconst (-1), 1) := by decide +kernel
theorem dX9_hear_15 : decode cX9_hear 15 = .ok (.ireturn, 1) := by decide +kernel
theorem dX9_hear_16 : decode cX9_hear 16 = .ok (.aload_n 0, 1) := by decide +kernel
theorem dX9_hear_17 : decode cX9_hear 17 = .ok (.getfield 16, 3) := by decide +kernel
theorem dX9_hear_20 : decode cX9_hear 20 = .ok (.iload_n 1, 1) := by decide +kernel
theorem dX9_hear_21 : decode cX9_hear 21 = .ok (.iaload, 1) := by decide +kernel
theorem dX9_hear_22 : decode cX9_hear 22 = .ok (.ifCond .eq 12, 3) := by decide +kernel
theorem dX9_hear_25 : decode cX9_hear 25 = .ok (.aload_n 0, 1) := by decide +kernel
theorem dX9_hear_26 : decode cX9_hear 26 = .ok (.getfield 16, 3) := by decide +kernel
theorem dX9_hear_29 : decode cX9_hear 29 = .ok (.iload_n 2, 1) := by decide +kernel
theorem dX9_hear_30 : decode cX9_hear 30 = .ok (.iaload, 1) := by decide +kernel
theorem dX9_hear_31 : decode cX9_hear 31 = .ok (.ifCond .ne 6, 3) := by decide +kernel
theorem dX9_hear_34 : decode cX9_hear 34 = .ok (.bipush (-11), 2) := by decide +kernel
theorem dX9_hear_36 : decode cX9_hear 36 = .ok (.ireturn, 1) := by decide +kernel
theorem dX9_hear_37 : decode cX9_hear 37 = .ok (.aload_n 0, 1) := by decide +kernel
theorem dX9_hear_38 : decode cX9_hear 38 = .ok (.getfield 16, 3) := by decide +kernel
theorem dX9_hear_41 : decode cX9_hear 41 = .ok (.iload_n 1, 1) := by decide +kernel
theorem dX9_hear_42 : decode cX9_hear 42 = .ok (.iaload, 1) := by decide +kernel
theorem dX9_hear_43 : decode cX9_hear 43 = .ok (.iconst 2, 1) := by decide +kernel
theorem dX9_hear_44 : decode cX9_hear 44 = .ok (.if_icmp .ne 28, 3) := by decide +kernel
theorem dX9_hear_47 : decode cX9_hear 47 = .ok (.aload_n 0, 1) := by decide +kernel
theorem dX9_hear_48 : decode cX9_hear 48 = .ok (.getfield 16, 3) := by decide +kernel
theorem dX9_hear_51 : decode cX9_hear 51 = .ok (.iload_n 2, 1) := by decide +kernel
theorem dX9_hear_52 : decode cX9_hear 52 = .ok (.iaload, 1) := by decide +kernel
theorem dX9_hear_53 : decode cX9_hear 53 = .ok (.iconst 2, 1) := by decide +kernel
theorem dX9_hear_54 : decode cX9_hear 54 = .ok (.if_icmp .ne 18, 3) := by decide +kernel
theorem dX9_hear_57 : decode cX9_hear 57 = .ok (.aload_n 0, 1) := by decide +kernel
theorem dX9_hear_58 : decode cX9_hear 58 = .ok (.getfield 19, 3) := by decide +kernel
theorem dX9_hear_61 : decode cX9_hear 61 = .ok (.iload_n 1, 1) := by decide +kernel
theorem dX9_hear_62 : decode cX9_hear 62 = .ok (.iaload, 1) := by decide +kernel
theorem dX9_hear_63 : decode cX9_hear 63 = .ok (.aload_n 0, 1) := by decide +kernel
theorem dX9_hear_64 : decode cX9_hear 64 = .ok (.getfield 19, 3) := by decide +kernel
theorem dX9_hear_67 : decode cX9_hear 67 = .ok (.iload_n 2, 1) := by decide +kernel
theorem dX9_hear_68 : decode cX9_hear 68 = .ok (.iaload, 1) := by decide +kernel
theorem dX9_hear_69 : decode cX9_hear 69 = .ok (.if_icmp .eq 6, 3) := by decide +kernel
theorem dX9_hear_72 : decode cX9_hear 72 = .ok (.bipush (-12), 2) := by decide +kernel
theorem dX9_hear_74 : decode cX9_hear 74 = .ok (.ireturn, 1) := by decide +kernel
theorem dX9_hear_75 : decode cX9_hear 75 = .ok (.aload_n 0, 1) := by decide +kernel
theorem dX9_hear_76 : decode cX9_hear 76 = .ok (.getfield 19, 3) := by decide +kernel
theorem dX9_hear_79 : decode cX9_hear 79 = .ok (.iload_n 1, 1) := by decide +kernel
theorem dX9_hear_80 : decode cX9_hear 80 = .ok (.iaload, 1) := by decide +kernel
theorem dX9_hear_81 : decode cX9_hear 81 = .ok (.ifCond .ne 8, 3) := by decide +kernel
theorem dX9_hear_84 : decode cX9_hear 84 = .ok (.bipush (-128), 2) := by decide +kernel
theorem dX9_hear_86 : decode cX9_hear 86 = .ok (.goto 21, 3) := by decide +kernel
theorem dX9_hear_89 : decode cX9_hear 89 = .ok (.aload_n 0, 1) := by decide +kernel
theorem dX9_hear_90 : decode cX9_hear 90 = .ok (.getfield 19, 3) := by decide +kernel
theorem dX9_hear_93 : decode cX9_hear 93 = .ok (.iload_n 1, 1) := by decide +kernel
theorem dX9_hear_94 : decode cX9_hear 94 = .ok (.iaload, 1) := by decide +kernel
theorem dX9_hear_95 : decode cX9_hear 95 = .ok (.iconst 1, 1) := by decide +kernel
theorem dX9_hear_96 : decode cX9_hear 96 = .ok (.if_icmp .ne 9, 3) := by decide +kernel
theorem dX9_hear_99 : decode cX9_hear 99 = .ok (.sipush (-32768), 3) := by decide +kernel
theorem dX9_hear_102 : decode cX9_hear 102 = .ok (.goto 5, 3) := by decide +kernel
theorem dX9_hear_105 : decode cX9_hear 105 = .ok (.ldc 114, 2) := by decide +kernel
theorem dX9_hear_107 : decode cX9_hear 107 = .ok (.istore_n 3, 1) := by decide +kernel
theorem dX9_hear_108 : decode cX9_hear 108 = .ok (.iconst 0, 1) := by decide +kernel
theorem dX9_hear_109 : decode cX9_hear 109 = .ok (.istore 4, 2) := by decide +kernel
theorem dX9_hear_111 : decode cX9_hear 111 = .ok (.iload 4, 2) := by decide +kernel
theorem dX9_hear_113 : decode cX9_hear 113 = .ok (.aload_n 0, 1) := by decide +kernel
theorem dX9_hear_114 : decode cX9_hear 114 = .ok (.getfield 9, 3) := by decide +kernel
theorem dX9_hear_117 : decode cX9_hear 117 = .ok (.sipush 1192, 3) := by decide +kernel
theorem dX9_hear_120 : decode cX9_hear 120 = .ok (.iaload, 1) := by decide +kernel
theorem dX9_hear_121 : decode cX9_hear 121 = .ok (.if_icmp .ge 133, 3) := by decide +kernel
theorem dX9_hear_124 : decode cX9_hear 124 = .ok (.iload 4, 2) := by decide +kernel
theorem dX9_hear_126 : decode cX9_hear 126 = .ok (.aload_n 0, 1) := by decide +kernel
theorem dX9_hear_127 : decode cX9_hear 127 = .ok (.getfield 22, 3) := by decide +kernel
theorem dX9_hear_130 : decode cX9_hear 130 = .ok (.iload_n 1, 1) := by decide +kernel
theorem dX9_hear_131 : decode cX9_hear 131 = .ok (.iaload, 1) := by decide +kernel
theorem dX9_hear_132 : decode cX9_hear 132 = .ok (.if_icmp .ge 50, 3) := by decide +kernel
theorem dX9_hear_135 : decode cX9_hear 135 = .ok (.iload 4, 2) := by decide +kernel
theorem dX9_hear_137 : decode cX9_hear 137 = .ok (.aload_n 0, 1) := by decide +kernel
theorem dX9_hear_138 : decode cX9_hear 138 = .ok (.getfield 22, 3) := by decide +kernel
theorem dX9_hear_141 : decode cX9_hear 141 = .ok (.iload_n 2, 1) := by decide +kernel
theorem dX9_hear_142 : decode cX9_hear 142 = .ok (.iaload, 1) := by decide +kernel
theorem dX9_hear_143 : decode cX9_hear 143 = .ok (.if_icmp .ge 39, 3) := by decide +kernel
theorem dX9_hear_146 : decode cX9_hear 146 = .ok (.aload_n 0, 1) := by decide +kernel
theorem dX9_hear_147 : decode cX9_hear 147 = .ok (.getfield 25, 3) := by decide +kernel
theorem dX9_hear_150 : decode cX9_hear 150 = .ok (.bipush 80, 2) := by decide +kernel
theorem dX9_hear_152 : decode cX9_hear 152 = .ok (.iload_n 1, 1) := by decide +kernel
theorem dX9_hear_153 : decode cX9_hear 153 = .ok (.imul, 1) := by decide +kernel
theorem dX9_hear_154 : decode cX9_hear 154 = .ok (.iload 4, 2) := by decide +kernel
theorem dX9_hear_156 : decode cX9_hear 156 = .ok (.iadd, 1) := by decide +kernel
theorem dX9_hear_157 : decode cX9_hear 157 = .ok (.iaload, 1) := by decide +kernel
theorem dX9_hear_158 : decode cX9_hear 158 = .ok (.iload_n 3, 1) := by decide +kernel
theorem dX9_hear_159 : decode cX9_hear 159 = .ok (.if_icmp .eq 23, 3) := by decide +kernel
theorem dX9_hear_162 : decode cX9_hear 162 = .ok (.aload_n 0, 1) := by decide +kernel
theorem dX9_hear_163 : decode cX9_hear 163 = .ok (.getfield 25, 3) := by decide +kernel
theorem dX9_hear_166 : decode cX9_hear 166 = .ok (.bipush 80, 2) := by decide +kernel
theorem dX9_hear_168 : decode cX9_hear 168 = .ok (.iload_n 2, 1) := by decide +kernel
theorem dX9_hear_169 : decode cX9_hear 169 = .ok (.imul, 1) := by decide +kernel
theorem dX9_hear_170 : decode cX9_hear 170 = .ok (.iload 4, 2) := by decide +kernel
theorem dX9_hear_172 : decode cX9_hear 172 = .ok (.iadd, 1) := by decide +kernel
theorem dX9_hear_173 : decode cX9_hear 173 = .ok (.iaload, 1) := by decide +kernel
theorem dX9_hear_174 : decode cX9_hear 174 = .ok (.iload_n 3, 1) := by decide +kernel
theorem dX9_hear_175 : decode cX9_hear 175 = .ok (.if_icmp .eq 7, 3) := by decide +kernel
theorem dX9_hear_178 : decode cX9_hear 178 = .ok (.iconst 1, 1) := by decide +kernel
theorem dX9_hear_179 : decode cX9_hear 179 = .ok (.goto 4, 3) := by decide +kernel
theorem dX9_hear_182 : decode cX9_hear 182 = .ok (.iconst 0, 1) := by decide +kernel
theorem dX9_hear_183 : decode cX9_hear 183 = .ok (.istore 5, 2) := by decide +kernel
theorem dX9_hear_185 : decode cX9_hear 185 = .ok (.iload 5, 2) := by decide +kernel
theorem dX9_hear_187 : decode cX9_hear 187 = .ok (.ifCond .eq 24, 3) := by decide +kernel
theorem dX9_hear_190 : decode cX9_hear 190 = .ok (.aload_n 0, 1) := by decide +kernel
theorem dX9_hear_191 : decode cX9_hear 191 = .ok (.getfield 25, 3) := by decide +kernel
theorem dX9_hear_194 : decode cX9_hear 194 = .ok (.bipush 80, 2) := by decide +kernel
theorem dX9_hear_196 : decode cX9_hear 196 = .ok (.iload_n 1, 1) := by decide +kernel
theorem dX9_hear_197 : decode cX9_hear 197 = .ok (.imul, 1) := by decide +kernel
theorem dX9_hear_198 : decode cX9_hear 198 = .ok (.iload 4, 2) := by decide +kernel
theorem dX9_hear_200 : decode cX9_hear 200 = .ok (.iadd, 1) := by decide +kernel
theorem dX9_hear_201 : decode cX9_hear 201 = .ok (.iaload, 1) := by decide +kernel
theorem dX9_hear_202 : decode cX9_hear 202 = .ok (.sipush 9999, 3) := by decide +kernel
theorem dX9_hear_205 : decode cX9_hear 205 = .ok (.invokestatic 115, 3) := by decide +kernel
theorem dX9_hear_208 : decode cX9_hear 208 = .ok (.goto 4, 3) := by decide +kernel
theorem dX9_hear_211 : decode cX9_hear 211 = .ok (.iconst (-1), 1) := by decide +kernel
theorem dX9_hear_212 : decode cX9_hear 212 = .ok (.istore 6, 2) := by decide +kernel
theorem dX9_hear_214 : decode cX9_hear 214 = .ok (.aload_n 0, 1) := by decide +kernel
theorem dX9_hear_215 : decode cX9_hear 215 = .ok (.iload 4, 2) := by decide +kernel
theorem dX9_hear_217 : decode cX9_hear 217 = .ok (.iload 6, 2) := by decide +kernel
theorem dX9_hear_219 : decode cX9_hear 219 = .ok (.iload 5, 2) := by decide +kernel
theorem dX9_hear_221 : decode cX9_hear 221 = .ok (.ifCond .eq 23, 3) := by decide +kernel
theorem dX9_hear_224 : decode cX9_hear 224 = .ok (.aload_n 0, 1) := by decide +kernel
theorem dX9_hear_225 : decode cX9_hear 225 = .ok (.getfield 25, 3) := by decide +kernel
theorem dX9_hear_228 : decode cX9_hear 228 = .ok (.bipush 80, 2) := by decide +kernel
theorem dX9_hear_230 : decode cX9_hear 230 = .ok (.iload_n 2, 1) := by decide +kernel
theorem dX9_hear_231 : decode cX9_hear 231 = .ok (.imul, 1) := by decide +kernel
theorem dX9_hear_232 : decode cX9_hear 232 = .ok (.iload 4, 2) := by decide +kernel
theorem dX9_hear_234 : decode cX9_hear 234 = .ok (.iadd, 1) := by decide +kernel
theorem dX9_hear_235 : decode cX9_hear 235 = .ok (.iaload, 1) := by decide +kernel
theorem dX9_hear_236 : decode cX9_hear 236 = .ok (.iload 6, 2) := by decide +kernel
theorem dX9_hear_238 : decode cX9_hear 238 = .ok (.invokestatic 115, 3) := by decide +kernel
theorem dX9_hear_241 : decode cX9_hear 241 = .ok (.goto 4, 3) := by decide +kernel
theorem dX9_hear_244 : decode cX9_hear 244 = .ok (.iconst 0, 1) := by decide +kernel
theorem dX9_hear_245 : decode cX9_hear 245 = .ok (.invokevirtual 103, 3) := by decide +kernel
theorem dX9_hear_248 : decode cX9_hear 248 = .ok (.iinc 4 1, 3) := by decide +kernel
theorem dX9_hear_251 : decode cX9_hear 251 = .ok (.goto (-140), 3) := by decide +kernel
theorem dX9_hear_254 : decode cX9_hear 254 = .ok (.aload_n 0, 1) := by decide +kernel
theorem dX9_hear_255 : decode cX9_hear 255 = .ok (.invokevirtual 107, 3) := by decide +kernel
theorem dX9_hear_258 : decode cX9_hear 258 = .ok (.ireturn, 1) := by decide +kernel
def B_X9_hear_254 (M : Mem) : Option (Int32 × Mem) := (f_X9_there M).bind fun q19 => some (q19, M)
def B_X9_hear_182 (rc_111 : Int32 → Int32 → Int32 → Int32 → Mem → Option (Int32 × Mem)) (x1 : Int32) (x2 : Int32) (x3 : Int32) (x4 : Int32) (M : Mem) : Option (Int32 × Mem) := if (0 : Int32) = 0 then if (0 : Int32) = 0 then (f_X9_writes x4 (-1 : Int32) (0 : Int32) M).bind fun q27 => rc_111 x1 x2 x3 (x4 + 1) q27 else gd (inR (((80 : Int32) * x2) + x4) 640) ((f_X9_writes x4 (-1 : Int32) (f_X9_held (mI M 290 (((80 : Int32) * x2) + x4).toNatClampNeg) (-1 : Int32)) M).bind fun q34 => rc_111 x1 x2 x3 (x4 + 1) q34) else gd (inR (((80 : Int32) * x1) + x4) 640) (if (0 : Int32) = 0 then (f_X9_writes x4 (f_X9_held (mI M 290 (((80 : Int32) * x1) + x4).toNatClampNeg) (9999 : Int32)) (0 : Int32) M).bind fun q42 => rc_111 x1 x2 x3 (x4 + 1) q42 else gd (inR (((80 : Int32) * x2) + x4) 640) ((f_X9_writes x4 (f_X9_held (mI M 290 (((80 : Int32) * x1) + x4).toNatClampNeg) (9999 : Int32)) (f_X9_held (mI M 290 (((80 : Int32) * x2) + x4).toNatClampNeg) (f_X9_held (mI M 290 (((80 : Int32) * x1) + x4).toNatClampNeg) (9999 : Int32))) M).bind fun q49 => rc_111 x1 x2 x3 (x4 + 1) q49))
def L_X9_hear_111 : Nat → Int32 → Int32 → Int32 → Int32 → Mem → Option (Int32 × Mem)
  | 0, _, _, _, _, _ => none
  | n + 1, x1, x2, x3, x4, M => if (mI M 285 1192) ≤ x4 then B_X9_hear_254 M else gd (inR x1 8) (if (mI M 289 x1.toNatClampNeg) ≤ x4 then B_X9_hear_182 (L_X9_hear_111 n) x1 x2 x3 x4 M else gd (inR x2 8) (if (mI M 289 x2.toNatClampNeg) ≤ x4 then B_X9_hear_182 (L_X9_hear_111 n) x1 x2 x3 x4 M else gd (inR (((80 : Int32) * x1) + x4) 640) (if (mI M 290 (((80 : Int32) * x1) + x4).toNatClampNeg) = x3 then B_X9_hear_182 (L_X9_hear_111 n) x1 x2 x3 x4 M else gd (inR (((80 : Int32) * x2) + x4) 640) (if (mI M 290 (((80 : Int32) * x2) + x4).toNatClampNeg) = x3 then B_X9_hear_182 (L_X9_hear_111 n) x1 x2 x3 x4 M else if (1 : Int32) = 0 then if (1 : Int32) = 0 then (f_X9_writes x4 (-1 : Int32) (0 : Int32) M).bind fun q61 => L_X9_hear_111 n x1 x2 x3 (x4 + 1) q61 else (f_X9_writes x4 (-1 : Int32) (f_X9_held (mI M 290 (((80 : Int32) * x2) + x4).toNatClampNeg) (-1 : Int32)) M).bind fun q67 => L_X9_hear_111 n x1 x2 x3 (x4 + 1) q67 else if (1 : Int32) = 0 then (f_X9_writes x4 (f_X9_held (mI M 290 (((80 : Int32) * x1) + x4).toNatClampNeg) (9999 : Int32)) (0 : Int32) M).bind fun q74 => L_X9_hear_111 n x1 x2 x3 (x4 + 1) q74 else (f_X9_writes x4 (f_X9_held (mI M 290 (((80 : Int32) * x1) + x4).toNatClampNeg) (9999 : Int32)) (f_X9_held (mI M 290 (((80 : Int32) * x2) + x4).toNatClampNeg) (f_X9_held (mI M 290 (((80 : Int32) * x1) + x4).toNatClampNeg) (9999 : Int32))) M).bind fun q80 => L_X9_hear_111 n x1 x2 x3 (x4 + 1) q80))))
def f_X9_hear (x1 : Int32) (x2 : Int32) (M : Mem) : Option (Int32 × Mem) := if (f_X9_isShelf x1) = 0 then some ((-1 : Int32), M) else if (f_X9_isShelf x2) = 0 then some ((-1 : Int32), M) else gd (inR x1 8) (if (mI M 287 x1.toNatClampNeg) = 0 then some ((-11 : Int32), M) else gd (inR x2 8) (if (mI M 287 x2.toNatClampNeg) = 0 then some ((-11 : Int32), M) else if (mI M 287 x1.toNatClampNeg) = (2 : Int32) then if (mI M 287 x2.toNatClampNeg) = (2 : Int32) then if (mI M 288 x1.toNatClampNeg) = (mI M 288 x2.toNatClampNeg) then if (mI M 288 x1.toNatClampNeg) = 0 then L_X9_hear_111 FU x1 x2 (-128 : Int32) (0 : Int32) M else if (mI M 288 x1.toNatClampNeg) = (1 : Int32) then L_X9_hear_111 FU x1 x2 (-32768 : Int32) (0 : Int32) M else L_X9_hear_111 FU x1 x2 (-2147483648 : Int32) (0 : Int32) M else some ((-12 : Int32), M) else some ((-12 : Int32), M) else some ((-12 : Int32), M)))
set_option maxRecDepth 100000 in
set_option maxHeartbeats 4000000 in
theorem b_X9_hear_254 (Z : Sys) (X : Cx) (hR : xR X = rm_X9_hear) {q : Int32 × Mem} (hq : RetOk Z X (some .int) False (PostI q.1 q.2) 0 0) {M : Mem} (hs : St M) (hf : B_X9_hear_254 M = some q) : G Z X Y_X9_hear False 0 0 254 [(0, .ref (zs Z + 284))] [] M := by
  unfold B_X9_hear_254 at hf
  refine G.aload_n 254 0 dX9_hear_254 rfl rfl ?_
  obtain ⟨q19, e20, hf⟩ := bd_e hf
  refine G.cvI 255 (As := []) ck_9 (hs.k k0_284) (c_X9_there Z hs e20) mk_X9_there vk_X9_there rfl wd_1461 hR (by decide +kernel) ⟨rfl, rfl⟩ rfl (Nat.le_of_ble_eq_true rfl) dX9_hear_255 (fun hs17 => ?_)
  (have hf9 := Option.some.inj hf; subst hf9)
  exact G.rI 258 hq dX9_hear_258 hs17
set_option maxRecDepth 100000 in
set_option maxHeartbeats 4000000 in
theorem b_X9_hear_182 (Z : Sys) (X : Cx) (hR : xR X = rm_X9_hear) {q : Int32 × Mem} (hq : RetOk Z X (some .int) False (PostI q.1 q.2) 0 0) (rc_111 : Int32 → Int32 → Int32 → Int32 → Mem → Option (Int32 × Mem)) (hrc_111 : ∀ (x1 : Int32) (x2 : Int32) (x3 : Int32) (x4 : Int32) (M : Mem), St M → rc_111 x1 x2 x3 x4 M = some q → G Z X Y_X9_hear False 0 0 111 [(0, .ref (zs Z + 284)), (1, .int x1), (2, .int x2), (3, .int x3), (4, .int x4)] [] M) (x1 : Int32) (x2 : Int32) (x3 : Int32) (x4 : Int32) {M : Mem} (hs : St M) (hf : B_X9_hear_182 rc_111 x1 x2 x3 x4 M = some q) : G Z X Y_X9_hear False 0 0 182 [(0, .ref (zs Z + 284)), (1, .int x1), (2, .int x2), (3, .int x3), (4, .int x4)] [] M := by
  unfold B_X9_hear_182 at hf
  refine G.iconst 182 (0 : Int32) dX9_hear_182 (by decide +kernel) ?_
  refine G.istore 183 [(5, .int (0 : Int32)), (0, .ref (zs Z + 284)), (1, .int x1), (2, .int x2), (3, .int x3), (4, .int x4)] dX9_hear_183 (Nat.le_of_ble_eq_true rfl) rfl ?_
  refine G.iload 185 0 dX9_hear_185 rfl ?_
  refine G.if_eq 187 211 dX9_hear_187 (by decide) (fun h23 => ?_) (fun h23 => ?_)
  · replace hf := (if_pos h23).symm.trans hf
    refine G.iconst 211 (-1 : Int32) dX9_hear_211 (by decide +kernel) ?_
    refine G.istore 212 [(6, .int (-1 : Int32)), (5, .int (0 : Int32)), (0, .ref (zs Z + 284)), (1, .int x1), (2, .int x2), (3, .int x3), (4, .int x4)] dX9_hear_212 (Nat.le_of_ble_eq_true rfl) rfl ?_
    refine G.aload_n 214 2 dX9_hear_214 rfl rfl ?_
    refine G.iload 215 6 dX9_hear_215 rfl ?_
    refine G.iload 217 0 dX9_hear_217 rfl ?_
    refine G.iload 219 1 dX9_hear_219 rfl ?_
    refine G.if_eq 221 244 dX9_hear_221 (by decide) (fun h24 => ?_) (fun h24 => ?_)
    · replace hf := (if_pos h24).symm.trans hf
      refine G.iconst 244 (0 : Int32) dX9_hear_244 (by decide +kernel) ?_
      obtain ⟨q27, e28, hf⟩ := bd_e hf
      refine G.cvV 245 (As := [.int x4, .int (-1 : Int32), .int (0 : Int32)]) ck_9 (hs.k k0_284) (c_X9_writes Z hs x4 (-1 : Int32) (0 : Int32) e28) mk_X9_writes vk_X9_writes rfl wd_1457 hR (by decide +kernel) ⟨rfl, rfl⟩ rfl (Nat.le_of_ble_eq_true rfl) dX9_hear_245 (fun hs25 => ?_)
      refine G.iinc 248 6 (x4 + 1) [(4, .int (x4 + 1)), (6, .int (-1 : Int32)), (5, .int (0 : Int32)), (0, .ref (zs Z + 284)), (1, .int x1), (2, .int x2), (3, .int x3)] dX9_hear_248 rfl (congrArg (fun z => x4 + z) (by decide +kernel)) (Nat.le_of_ble_eq_true rfl) rfl ?_
      refine G.goto 251 111 dX9_hear_251 (by decide) ?_
      refine G.locs [3, 4, 5, 6, 0] rfl ?_
      exact hrc_111 x1 x2 x3 (x4 + 1) q27 hs25 hf
    · replace hf := (if_neg h24).symm.trans hf
      refine G.aload_n 224 2 dX9_hear_224 rfl rfl ?_
      refine G.getp 225 ck_9 5 290 (hs.k k0_284) (pc_9_5 hs) (by decide) (by decide +kernel) wd_1310 dX9_hear_225 ?_
      refine G.bipush 228 (80 : Int32) dX9_hear_228 (by decide +kernel) ?_
      refine G.iload_n 230 4 dX9_hear_230 rfl rfl ?_
      refine G.imul 231 dX9_hear_231 ?_
      refine G.iload 232 6 dX9_hear_232 rfl ?_
      refine G.iadd 234 dX9_hear_234 ?_
      obtain ⟨g29, hf⟩ := gd_e hf
      refine G.ia 235 (((80 : Int32) * x2) + x4).toNatClampNeg (hs.k k0_290) g29 rfl dX9_hear_235 ?_
      refine G.iload 236 0 dX9_hear_236 rfl ?_
      refine G.csI 238 (As := [.int (mI M 290 (((80 : Int32) * x2) + x4).toNatClampNeg), .int (-1 : Int32)]) (c_X9_held Z hs (mI M 290 (((80 : Int32) * x2) + x4).toNatClampNeg) (-1 : Int32) rfl) mk_X9_held wd_1474 wd_1473 hR (by decide +kernel) ⟨rfl, rfl⟩ rfl (Nat.le_of_ble_eq_true rfl) dX9_hear_238 (fun hs30 => ?_)
      refine G.goto 241 245 dX9_hear_241 (by decide) ?_
      obtain ⟨q34, e35, hf⟩ := bd_e hf
      refine G.cvV 245 (As := [.int x4, .int (-1 : Int32), .int (f_X9_held (mI M 290 (((80 : Int32) * x2) + x4).toNatClampNeg) (-1 : Int32))]) ck_9 (hs30.k k0_284) (c_X9_writes Z hs30 x4 (-1 : Int32) (f_X9_held (mI M 290 (((80 : Int32) * x2) + x4).toNatClampNeg) (-1 : Int32)) e35) mk_X9_writes vk_X9_writes rfl wd_1457 hR (by decide +kernel) ⟨rfl, rfl⟩ rfl (Nat.le_of_ble_eq_true rfl) dX9_hear_245 (fun hs32 => ?_)
      refine G.iinc 248 6 (x4 + 1) [(4, .int (x4 + 1)), (6, .int (-1 : Int32)), (5, .int (0 : Int32)), (0, .ref (zs Z + 284)), (1, .int x1), (2, .int x2), (3, .int x3)] dX9_hear_248 rfl (congrArg (fun z => x4 + z) (by decide +kernel)) (Nat.le_of_ble_eq_true rfl) rfl ?_
      refine G.goto 251 111 dX9_hear_251 (by decide) ?_
      refine G.locs [3, 4, 5, 6, 0] rfl ?_
      exact hrc_111 x1 x2 x3 (x4 + 1) q34 hs32 hf
  · replace hf := (if_neg h23).symm.trans hf
    refine G.aload_n 190 1 dX9_hear_190 rfl rfl ?_
    refine G.getp 191 ck_9 5 290 (hs.k k0_284) (pc_9_5 hs) (by decide) (by decide +kernel) wd_1310 dX9_hear_191 ?_
    refine G.bipush 194 (80 : Int32) dX9_hear_194 (by decide +kernel) ?_
    refine G.iload_n 196 2 dX9_hear_196 rfl rfl ?_
    refine G.imul 197 dX9_hear_197 ?_
    refine G.iload 198 5 dX9_hear_198 rfl ?_
    refine G.iadd 200 dX9_hear_200 ?_
    obtain ⟨g36, hf⟩ := gd_e hf
    refine G.ia 201 (((80 : Int32) * x1) + x4).toNatClampNeg (hs.k k0_290) g36 rfl dX9_hear_201 ?_
    refine G.sipush 202 (9999 : Int32) dX9_hear_202 (by decide +kernel) ?_
    refine G.csI 205 (As := [.int (mI M 290 (((80 : Int32) * x1) + x4).toNatClampNeg), .int (9999 : Int32)]) (c_X9_held Z hs (mI M 290 (((80 : Int32) * x1) + x4).toNatClampNeg) (9999 : Int32) rfl) mk_X9_held wd_1474 wd_1473 hR (by decide +kernel) ⟨rfl, rfl⟩ rfl (Nat.le_of_ble_eq_true rfl) dX9_hear_205 (fun hs37 => ?_)
    refine G.goto 208 212 dX9_hear_208 (by decide) ?_
    refine G.istore 212 [(6, .int (f_X9_held (mI M 290 (((80 : Int32) * x1) + x4).toNatClampNeg) (9999 : Int32))), (5, .int (0 : Int32)), (0, .ref (zs Z + 284)), (1, .int x1), (2, .int x2), (3, .int x3), (4, .int x4)] dX9_hear_212 (Nat.le_of_ble_eq_true rfl) rfl ?_
    refine G.aload_n 214 2 dX9_hear_214 rfl rfl ?_
    refine G.iload 215 6 dX9_hear_215 rfl ?_
    refine G.iload 217 0 dX9_hear_217 rfl ?_
    refine G.iload 219 1 dX9_hear_219 rfl ?_
    refine G.if_eq 221 244 dX9_hear_221 (by decide) (fun h39 => ?_) (fun h39 => ?_)
    · replace hf := (if_pos h39).symm.trans hf
      refine G.iconst 244 (0 : Int32) dX9_hear_244 (by decide +kernel) ?_
      obtain ⟨q42, e43, hf⟩ := bd_e hf
      refine G.cvV 245 (As := [.int x4, .int (f_X9_held (mI M 290 (((80 : Int32) * x1) + x4).toNatClampNeg) (9999 : Int32)), .int (0 : Int32)]) ck_9 (hs37.k k0_284) (c_X9_writes Z hs37 x4 (f_X9_held (mI M 290 (((80 : Int32) * x1) + x4).toNatClampNeg) (9999 : Int32)) (0 : Int32) e43) mk_X9_writes vk_X9_writes rfl wd_1457 hR (by decide +kernel) ⟨rfl, rfl⟩ rfl (Nat.le_of_ble_eq_true rfl) dX9_hear_245 (fun hs40 => ?_)
      refine G.iinc 248 6 (x4 + 1) [(4, .int (x4 + 1)), (6, .int (f_X9_held (mI M 290 (((80 : Int32) * x1) + x4).toNatClampNeg) (9999 : Int32))), (5, .int (0 : Int32)), (0, .ref (zs Z + 284)), (1, .int x1), (2, .int x2), (3, .int x3)] dX9_hear_248 rfl (congrArg (fun z => x4 + z) (by decide +kernel)) (Nat.le_of_ble_eq_true rfl) rfl ?_
      refine G.goto 251 111 dX9_hear_251 (by decide) ?_
      refine G.locs [3, 4, 5, 6, 0] rfl ?_
      exact hrc_111 x1 x2 x3 (x4 + 1) q42 hs40 hf
    · replace hf := (if_neg h39).symm.trans hf
      refine G.aload_n 224 2 dX9_hear_224 rfl rfl ?_
      refine G.getp 225 ck_9 5 290 (hs37.k k0_284) (pc_9_5 hs37) (by decide) (by decide +kernel) wd_1310 dX9_hear_225 ?_
      refine G.bipush 228 (80 : Int32) dX9_hear_228 (by decide +kernel) ?_
      refine G.iload_n 230 4 dX9_hear_230 rfl rfl ?_
      refine G.imul 231 dX9_hear_231 ?_
      refine G.iload 232 6 dX9_hear_232 rfl ?_
      refine G.iadd 234 dX9_hear_234 ?_
      obtain ⟨g44, hf⟩ := gd_e hf
      refine G.ia 235 (((80 : Int32) * x2) + x4).toNatClampNeg (hs37.k k0_290) g44 rfl dX9_hear_235 ?_
      refine G.iload 236 0 dX9_hear_236 rfl ?_
      refine G.csI 238 (As := [.int (mI M 290 (((80 : Int32) * x2) + x4).toNatClampNeg), .int (f_X9_held (mI M 290 (((80 : Int32) * x1) + x4).toNatClampNeg) (9999 : Int32))]) (c_X9_held Z hs37 (mI M 290 (((80 : Int32) * x2) + x4).toNatClampNeg) (f_X9_held (mI M 290 (((80 : Int32) * x1) + x4).toNatClampNeg) (9999 : Int32)) rfl) mk_X9_held wd_1474 wd_1473 hR (by decide +kernel) ⟨rfl, rfl⟩ rfl (Nat.le_of_ble_eq_true rfl) dX9_hear_238 (fun hs45 => ?_)
      refine G.goto 241 245 dX9_hear_241 (by decide) ?_
      obtain ⟨q49, e50, hf⟩ := bd_e hf
      refine G.cvV 245 (As := [.int x4, .int (f_X9_held (mI M 290 (((80 : Int32) * x1) + x4).toNatClampNeg) (9999 : Int32)), .int (f_X9_held (mI M 290 (((80 : Int32) * x2) + x4).toNatClampNeg) (f_X9_held (mI M 290 (((80 : Int32) * x1) + x4).toNatClampNeg) (9999 : Int32)))]) ck_9 (hs45.k k0_284) (c_X9_writes Z hs45 x4 (f_X9_held (mI M 290 (((80 : Int32) * x1) + x4).toNatClampNeg) (9999 : Int32)) (f_X9_held (mI M 290 (((80 : Int32) * x2) + x4).toNatClampNeg) (f_X9_held (mI M 290 (((80 : Int32) * x1) + x4).toNatClampNeg) (9999 : Int32))) e50) mk_X9_writes vk_X9_writes rfl wd_1457 hR (by decide +kernel) ⟨rfl, rfl⟩ rfl (Nat.le_of_ble_eq_true rfl) dX9_hear_245 (fun hs47 => ?_)
      refine G.iinc 248 6 (x4 + 1) [(4, .int (x4 + 1)), (6, .int (f_X9_held (mI M 290 (((80 : Int32) * x1) + x4).toNatClampNeg) (9999 : Int32))), (5, .int (0 : Int32)), (0, .ref (zs Z + 284)), (1, .int x1), (2, .int x2), (3, .int x3)] dX9_hear_248 rfl (congrArg (fun z => x4 + z) (by decide +kernel)) (Nat.le_of_ble_eq_true rfl) rfl ?_
      refine G.goto 251 111 dX9_hear_251 (by decide) ?_
      refine G.locs [3, 4, 5, 6, 0] rfl ?_
      exact hrc_111 x1 x2 x3 (x4 + 1) q49 hs47 hf
set_option maxRecDepth 100000 in
set_option maxHeartbeats 4000000 in
theorem l_X9_hear_111 (Z : Sys) (X : Cx) (hR : xR X = rm_X9_hear) {q : Int32 × Mem} (hq : RetOk Z X (some .int) False (PostI q.1 q.2) 0 0) : ∀ (n : Nat) (x1 : Int32) (x2 : Int32) (x3 : Int32) (x4 : Int32) (M : Mem) (hs : St M) (hf : L_X9_hear_111 n x1 x2 x3 x4 M = some q), G Z X Y_X9_hear False 0 0 111 [(0, .ref (zs Z + 284)), (1, .int x1), (2, .int x2), (3, .int x3), (4, .int x4)] [] M := by
  intro n
  induction n with
  | zero => intro x1 x2 x3 x4 M hs  hf; cases hf
  | succ n ih =>
    intro x1 x2 x3 x4 M hs  hf
    unfold L_X9_hear_111 at hf
    refine G.iload 111 4 dX9_hear_111 rfl ?_
    refine G.aload_n 113 0 dX9_hear_113 rfl rfl ?_
    refine G.getp 114 ck_9 0 285 (hs.k k0_284) (pc_9_0 hs) (by decide) (by decide +kernel) wd_1305 dX9_hear_114 ?_
    refine G.sipush 117 (1192 : Int32) dX9_hear_117 (by decide +kernel) ?_
    refine G.ia 120 1192 (hs.k k0_285) (by decide +kernel) (by decide +kernel) dX9_hear_120 ?_
    refine G.icmp_ge 121 254 dX9_hear_121 (by decide) (fun h16 => ?_) (fun h16 => ?_)
    · replace hf := (if_pos h16).symm.trans hf
      refine G.locs [0] rfl ?_
      exact b_X9_hear_254 Z X hR hq hs hf
    · replace hf := (if_neg h16).symm.trans hf
      refine G.iload 124 4 dX9_hear_124 rfl ?_
      refine G.aload_n 126 0 dX9_hear_126 rfl rfl ?_
      refine G.getp 127 ck_9 4 289 (hs.k k0_284) (pc_9_4 hs) (by decide) (by decide +kernel) wd_1309 dX9_hear_127 ?_
      refine G.iload_n 130 1 dX9_hear_130 rfl rfl ?_
      obtain ⟨g21, hf⟩ := gd_e hf
      refine G.ia 131 x1.toNatClampNeg (hs.k k0_289) g21 rfl dX9_hear_131 ?_
      refine G.icmp_ge 132 182 dX9_hear_132 (by decide) (fun h22 => ?_) (fun h22 => ?_)
      · replace hf := (if_pos h22).symm.trans hf
        exact b_X9_hear_182 Z X hR hq (L_X9_hear_111 n) ih x1 x2 x3 x4 hs hf
      · replace hf := (if_neg h22).symm.trans hf
        refine G.iload 135 4 dX9_hear_135 rfl ?_
        refine G.aload_n 137 0 dX9_hear_137 rfl rfl ?_
        refine G.getp 138 ck_9 4 289 (hs.k k0_284) (pc_9_4 hs) (by decide) (by decide +kernel) wd_1309 dX9_hear_138 ?_
        refine G.iload_n 141 2 dX9_hear_141 rfl rfl ?_
        obtain ⟨g51, hf⟩ := gd_e hf
        refine G.ia 142 x2.toNatClampNeg (hs.k k0_289) g51 rfl dX9_hear_142 ?_
        refine G.icmp_ge 143 182 dX9_hear_143 (by decide) (fun h52 => ?_) (fun h52 => ?_)
        · replace hf := (if_pos h52).symm.trans hf
          exact b_X9_hear_182 Z X hR hq (L_X9_hear_111 n) ih x1 x2 x3 x4 hs hf
        · replace hf := (if_neg h52).symm.trans hf
          refine G.aload_n 146 0 dX9_hear_146 rfl rfl ?_
          refine G.getp 147 ck_9 5 290 (hs.k k0_284) (pc_9_5 hs) (by decide) (by decide +kernel) wd_1310 dX9_hear_147 ?_
          refine G.bipush 150 (80 : Int32) dX9_hear_150 (by decide +kernel) ?_
          refine G.iload_n 152 1 dX9_hear_152 rfl rfl ?_
          refine G.imul 153 dX9_hear_153 ?_
          refine G.iload 154 4 dX9_hear_154 rfl ?_
          refine G.iadd 156 dX9_hear_156 ?_
          obtain ⟨g53, hf⟩ := gd_e hf
          refine G.ia 157 (((80 : Int32) * x1) + x4).toNatClampNeg (hs.k k0_290) g53 rfl dX9_hear_157 ?_
          refine G.iload_n 158 3 dX9_hear_158 rfl rfl ?_
          refine G.icmp_eq 159 182 dX9_hear_159 (by decide) (fun h54 => ?_) (fun h54 => ?_)
          · replace hf := (if_pos h54).symm.trans hf
            exact b_X9_hear_182 Z X hR hq (L_X9_hear_111 n) ih x1 x2 x3 x4 hs hf
          · replace hf := (if_neg h54).symm.trans hf
            refine G.aload_n 162 0 dX9_hear_162 rfl rfl ?_
            refine G.getp 163 ck_9 5 290 (hs.k k0_284) (pc_9_5 hs) (by decide) (by decide +kernel) wd_1310 dX9_hear_163 ?_
            refine G.bipush 166 (80 : Int32) dX9_hear_166 (by decide +kernel) ?_
            refine G.iload_n 168 2 dX9_hear_168 rfl rfl ?_
            refine G.imul 169 dX9_hear_169 ?_
            refine G.iload 170 4 dX9_hear_170 rfl ?_
            refine G.iadd 172 dX9_hear_172 ?_
            obtain ⟨g55, hf⟩ := gd_e hf
            refine G.ia 173 (((80 : Int32) * x2) + x4).toNatClampNeg (hs.k k0_290) g55 rfl dX9_hear_173 ?_
            refine G.iload_n 174 3 dX9_hear_174 rfl rfl ?_
            refine G.icmp_eq 175 182 dX9_hear_175 (by decide) (fun h56 => ?_) (fun h56 => ?_)
            · replace hf := (if_pos h56).symm.trans hf
              exact b_X9_hear_182 Z X hR hq (L_X9_hear_111 n) ih x1 x2 x3 x4 hs hf
            · replace hf := (if_neg h56).symm.trans hf
              refine G.iconst 178 (1 : Int32) dX9_hear_178 (by decide +kernel) ?_
              refine G.goto 179 183 dX9_hear_179 (by decide) ?_
              refine G.istore 183 [(5, .int (1 : Int32)), (0, .ref (zs Z + 284)), (1, .int x1), (2, .int x2), (3, .int x3), (4, .int x4)] dX9_hear_183 (Nat.le_of_ble_eq_true rfl) rfl ?_
              refine G.iload 185 0 dX9_hear_185 rfl ?_
              refine G.if_eq 187 211 dX9_hear_187 (by decide) (fun h57 => ?_) (fun h57 => ?_)
              · replace hf := (if_pos h57).symm.trans hf
                refine G.iconst 211 (-1 : Int32) dX9_hear_211 (by decide +kernel) ?_
                refine G.istore 212 [(6, .int (-1 : Int32)), (5, .int (1 : Int32)), (0, .ref (zs Z + 284)), (1, .int x1), (2, .int x2), (3, .int x3), (4, .int x4)] dX9_hear_212 (Nat.le_of_ble_eq_true rfl) rfl ?_
                refine G.aload_n 214 2 dX9_hear_214 rfl rfl ?_
                refine G.iload 215 6 dX9_hear_215 rfl ?_
                refine G.iload 217 0 dX9_hear_217 rfl ?_
                refine G.iload 219 1 dX9_hear_219 rfl ?_
                refine G.if_eq 221 244 dX9_hear_221 (by decide) (fun h58 => ?_) (fun h58 => ?_)
                · replace hf := (if_pos h58).symm.trans hf
                  refine G.iconst 244 (0 : Int32) dX9_hear_244 (by decide +kernel) ?_
                  obtain ⟨q61, e62, hf⟩ := bd_e hf
                  refine G.cvV 245 (As := [.int x4, .int (-1 : Int32), .int (0 : Int32)]) ck_9 (hs.k k0_284) (c_X9_writes Z hs x4 (-1 : Int32) (0 : Int32) e62) mk_X9_writes vk_X9_writes rfl wd_1457 hR (by decide +kernel) ⟨rfl, rfl⟩ rfl (Nat.le_of_ble_eq_true rfl) dX9_hear_245 (fun hs59 => ?_)
                  refine G.iinc 248 6 (x4 + 1) [(4, .int (x4 + 1)), (6, .int (-1 : Int32)), (5, .int (1 : Int32)), (0, .ref (zs Z + 284)), (1, .int x1), (2, .int x2), (3, .int x3)] dX9_hear_248 rfl (congrArg (fun z => x4 + z) (by decide +kernel)) (Nat.le_of_ble_eq_true rfl) rfl ?_
                  refine G.goto 251 111 dX9_hear_251 (by decide) ?_
                  refine G.locs [3, 4, 5, 6, 0] rfl ?_
                  exact ih x1 x2 x3 (x4 + 1) q61 hs59 hf
                · replace hf := (if_neg h58).symm.trans hf
                  refine G.aload_n 224 2 dX9_hear_224 rfl rfl ?_
                  refine G.getp 225 ck_9 5 290 (hs.k k0_284) (pc_9_5 hs) (by decide) (by decide +kernel) wd_1310 dX9_hear_225 ?_
                  refine G.bipush 228 (80 : Int32) dX9_hear_228 (by decide +kernel) ?_
                  refine G.iload_n 230 4 dX9_hear_230 rfl rfl ?_
                  refine G.imul 231 dX9_hear_231 ?_
                  refine G.iload 232 6 dX9_hear_232 rfl ?_
                  refine G.iadd 234 dX9_hear_234 ?_
                  refine G.ia 235 (((80 : Int32) * x2) + x4).toNatClampNeg (hs.k k0_290) g55 rfl dX9_hear_235 ?_
                  refine G.iload 236 0 dX9_hear_236 rfl ?_
                  refine G.csI 238 (As := [.int (mI M 290 (((80 : Int32) * x2) + x4).toNatClampNeg), .int (-1 : Int32)]) (c_X9_held Z hs (mI M 290 (((80 : Int32) * x2) + x4).toNatClampNeg) (-1 : Int32) rfl) mk_X9_held wd_1474 wd_1473 hR (by decide +kernel) ⟨rfl, rfl⟩ rfl (Nat.le_of_ble_eq_true rfl) dX9_hear_238 (fun hs63 => ?_)
                  refine G.goto 241 245 dX9_hear_241 (by decide) ?_
                  obtain ⟨q67, e68, hf⟩ := bd_e hf
                  refine G.cvV 245 (As := [.int x4, .int (-1 : Int32), .int (f_X9_held (mI M 290 (((80 : Int32) * x2) + x4).toNatClampNeg) (-1 : Int32))]) ck_9 (hs63.k k0_284) (c_X9_writes Z hs63 x4 (-1 : Int32) (f_X9_held (mI M 290 (((80 : Int32) * x2) + x4).toNatClampNeg) (-1 : Int32)) e68) mk_X9_writes vk_X9_writes rfl wd_1457 hR (by decide +kernel) ⟨rfl, rfl⟩ rfl (Nat.le_of_ble_eq_true rfl) dX9_hear_245 (fun hs65 => ?_)
                  refine G.iinc 248 6 (x4 + 1) [(4, .int (x4 + 1)), (6, .int (-1 : Int32)), (5, .int (1 : Int32)), (0, .ref (zs Z + 284)), (1, .int x1), (2, .int x2), (3, .int x3)] dX9_hear_248 rfl (congrArg (fun z => x4 + z) (by decide +kernel)) (Nat.le_of_ble_eq_true rfl) rfl ?_
                  refine G.goto 251 111 dX9_hear_251 (by decide) ?_
                  refine G.locs [3, 4, 5, 6, 0] rfl ?_
                  exact ih x1 x2 x3 (x4 + 1) q67 hs65 hf
              · replace hf := (if_neg h57).symm.trans hf
                refine G.aload_n 190 1 dX9_hear_190 rfl rfl ?_
                refine G.getp 191 ck_9 5 290 (hs.k k0_284) (pc_9_5 hs) (by decide) (by decide +kernel) wd_1310 dX9_hear_191 ?_
                refine G.bipush 194 (80 : Int32) dX9_hear_194 (by decide +kernel) ?_
                refine G.iload_n 196 2 dX9_hear_196 rfl rfl ?_
                refine G.imul 197 dX9_hear_197 ?_
                refine G.iload 198 5 dX9_hear_198 rfl ?_
                refine G.iadd 200 dX9_hear_200 ?_
                refine G.ia 201 (((80 : Int32) * x1) + x4).toNatClampNeg (hs.k k0_290) g53 rfl dX9_hear_201 ?_
                refine G.sipush 202 (9999 : Int32) dX9_hear_202 (by decide +kernel) ?_
                refine G.csI 205 (As := [.int (mI M 290 (((80 : Int32) * x1) + x4).toNatClampNeg), .int (9999 : Int32)]) (c_X9_held Z hs (mI M 290 (((80 : Int32) * x1) + x4).toNatClampNeg) (9999 : Int32) rfl) mk_X9_held wd_1474 wd_1473 hR (by decide +kernel) ⟨rfl, rfl⟩ rfl (Nat.le_of_ble_eq_true rfl) dX9_hear_205 (fun hs69 => ?_)
                refine G.goto 208 212 dX9_hear_208 (by decide) ?_
                refine G.istore 212 [(6, .int (f_X9_held (mI M 290 (((80 : Int32) * x1) + x4).toNatClampNeg) (9999 : Int32))), (5, .int (1 : Int32)), (0, .ref (zs Z + 284)), (1, .int x1), (2, .int x2), (3, .int x3), (4, .int x4)] dX9_hear_212 (Nat.le_of_ble_eq_true rfl) rfl ?_
                refine G.aload_n 214 2 dX9_hear_214 rfl rfl ?_
                refine G.iload 215 6 dX9_hear_215 rfl ?_
                refine G.iload 217 0 dX9_hear_217 rfl ?_
                refine G.iload 219 1 dX9_hear_219 rfl ?_
                refine G.if_eq 221 244 dX9_hear_221 (by decide) (fun h71 => ?_) (fun h71 => ?_)
                · replace hf := (if_pos h71).symm.trans hf
                  refine G.iconst 244 (0 : Int32) dX9_hear_244 (by decide +kernel) ?_
                  obtain ⟨q74, e75, hf⟩ := bd_e hf
                  refine G.cvV 245 (As := [.int x4, .int (f_X9_held (mI M 290 (((80 : Int32) * x1) + x4).toNatClampNeg) (9999 : Int32)), .int (0 : Int32)]) ck_9 (hs69.k k0_284) (c_X9_writes Z hs69 x4 (f_X9_held (mI M 290 (((80 : Int32) * x1) + x4).toNatClampNeg) (9999 : Int32)) (0 : Int32) e75) mk_X9_writes vk_X9_writes rfl wd_1457 hR (by decide +kernel) ⟨rfl, rfl⟩ rfl (Nat.le_of_ble_eq_true rfl) dX9_hear_245 (fun hs72 => ?_)
                  refine G.iinc 248 6 (x4 + 1) [(4, .int (x4 + 1)), (6, .int (f_X9_held (mI M 290 (((80 : Int32) * x1) + x4).toNatClampNeg) (9999 : Int32))), (5, .int (1 : Int32)), (0, .ref (zs Z + 284)), (1, .int x1), (2, .int x2), (3, .int x3)] dX9_hear_248 rfl (congrArg (fun z => x4 + z) (by decide +kernel)) (Nat.le_of_ble_eq_true rfl) rfl ?_
                  refine G.goto 251 111 dX9_hear_251 (by decide) ?_
                  refine G.locs [3, 4, 5, 6, 0] rfl ?_
                  exact ih x1 x2 x3 (x4 + 1) q74 hs72 hf
                · replace hf := (if_neg h71).symm.trans hf
                  refine G.aload_n 224 2 dX9_hear_224 rfl rfl ?_
                  refine G.getp 225 ck_9 5 290 (hs69.k k0_284) (pc_9_5 hs69) (by decide) (by decide +kernel) wd_1310 dX9_hear_225 ?_
                  refine G.bipush 228 (80 : Int32) dX9_hear_228 (by decide +kernel) ?_
                  refine G.iload_n 230 4 dX9_hear_230 rfl rfl ?_
                  refine G.imul 231 dX9_hear_231 ?_
                  refine G.iload 232 6 dX9_hear_232 rfl ?_
                  refine G.iadd 234 dX9_hear_234 ?_
                  refine G.ia 235 (((80 : Int32) * x2) + x4).toNatClampNeg (hs69.k k0_290) g55 rfl dX9_hear_235 ?_
                  refine G.iload 236 0 dX9_hear_236 rfl ?_
                  refine G.csI 238 (As := [.int (mI M 290 (((80 : Int32) * x2) + x4).toNatClampNeg), .int (f_X9_held (mI M 290 (((80 : Int32) * x1) + x4).toNatClampNeg) (9999 : Int32))]) (c_X9_held Z hs69 (mI M 290 (((80 : Int32) * x2) + x4).toNatClampNeg) (f_X9_held (mI M 290 (((80 : Int32) * x1) + x4).toNatClampNeg) (9999 : Int32)) rfl) mk_X9_held wd_1474 wd_1473 hR (by decide +kernel) ⟨rfl, rfl⟩ rfl (Nat.le_of_ble_eq_true rfl) dX9_hear_238 (fun hs76 => ?_)
                  refine G.goto 241 245 dX9_hear_241 (by decide) ?_
                  obtain ⟨q80, e81, hf⟩ := bd_e hf
                  refine G.cvV 245 (As := [.int x4, .int (f_X9_held (mI M 290 (((80 : Int32) * x1) + x4).toNatClampNeg) (9999 : Int32)), .int (f_X9_held (mI M 290 (((80 : Int32) * x2) + x4).toNatClampNeg) (f_X9_held (mI M 290 (((80 : Int32) * x1) + x4).toNatClampNeg) (9999 : Int32)))]) ck_9 (hs76.k k0_284) (c_X9_writes Z hs76 x4 (f_X9_held (mI M 290 (((80 : Int32) * x1) + x4).toNatClampNeg) (9999 : Int32)) (f_X9_held (mI M 290 (((80 : Int32) * x2) + x4).toNatClampNeg) (f_X9_held (mI M 290 (((80 : Int32) * x1) + x4).toNatClampNeg) (9999 : Int32))) e81) mk_X9_writes vk_X9_writes rfl wd_1457 hR (by decide +kernel) ⟨rfl, rfl⟩ rfl (Nat.le_of_ble_eq_true rfl) dX9_hear_245 (fun hs78 => ?_)
                  refine G.iinc 248 6 (x4 + 1) [(4, .int (x4 + 1)), (6, .int (f_X9_held (mI M 290 (((80 : Int32) * x1) + x4).toNatClampNeg) (9999 : Int32))), (5, .int (1 : Int32)), (0, .ref (zs Z + 284)), (1, .int x1), (2, .int x2), (3, .int x3)] dX9_hear_248 rfl (congrArg (fun z => x4 + z) (by decide +kernel)) (Nat.le_of_ble_eq_true rfl) rfl ?_
                  refine G.goto 251 111 dX9_hear_251 (by decide) ?_
                  refine G.locs [3, 4, 5, 6, 0] rfl ?_
                  exact ih x1 x2 x3 (x4 + 1) q80 hs78 hf
set_option maxRecDepth 100000 in
set_option maxHeartbeats 4000000 in
theorem c_X9_hear (Z : Sys) {M : Mem} (hs : St M) (x1 : Int32) (x2 : Int32) {q : Int32 × Mem} (hf : f_X9_hear x1 x2 M = some q) : Ct Z yX9_hear cX9_hear 7 (some .int) rm_X9_hear [.ref (zs Z + 284), .int x1, .int x2] M False (PostI q.1 q.2) := by
  refine Ct.of (by decide +kernel) (Nat.le_of_ble_eq_true rfl) (fun X hR hq _ => ?_)
  show G Z X Y_X9_hear False 0 0 0 [(0, .ref (zs Z + 284)), (1, .int x1), (2, .int x2)] [] M
  replace hq : RetOk Z X (some .int) False (PostI q.1 q.2) 0 0 := hq
  unfold f_X9_hear at hf
  refine G.iload_n 0 1 dX9_hear_0 rfl rfl ?_
  refine G.csZ 1 (As := [.int x1]) (c_X9_isShelf Z hs x1 rfl) mk_X9_isShelf wd_1470 wd_1469 hR (by decide +kernel) ⟨rfl, rfl⟩ rfl (Nat.le_of_ble_eq_true rfl) dX9_hear_1 (fun hs1 z2 => ?_)
  refine G.if_eq 4 14 dX9_hear_4 (by decide) (fun h3 => ?_) (fun h3 => ?_)
  · replace hf := (if_pos h3).symm.trans hf
    refine G.iconst 14 (-1 : Int32) dX9_hear_14 (by decide +kernel) ?_
    (have hf9 := Option.some.inj hf; subst hf9)
    exact G.rI 15 hq dX9_hear_15 hs1
  · replace hf := (if_neg h3).symm.trans hf
    refine G.iload_n 7 2 dX9_hear_7 rfl rfl ?_
    refine G.csZ 8 (As := [.int x2]) (c_X9_isShelf Z hs1 x2 rfl) mk_X9_isShelf wd_1470 wd_1469 hR (by decide +kernel) ⟨rfl, rfl⟩ rfl (Nat.le_of_ble_eq_true rfl) dX9_hear_8 (fun hs4 z5 => ?_)
    refine G.if_ne 11 16 dX9_hear_11 (by decide) (fun h6 => ?_) (fun h6 => ?_)
    · replace hf := (if_neg h6).symm.trans hf
      refine G.aload_n 16 0 dX9_hear_16 rfl rfl ?_
      refine G.getp 17 ck_9 2 287 (hs4.k k0_284) (pc_9_2 hs4) (by decide) (by decide +kernel) wd_1307 dX9_hear_17 ?_
      refine G.iload_n 20 1 dX9_hear_20 rfl rfl ?_
      obtain ⟨g7, hf⟩ := gd_e hf
      refine G.ia 21 x1.toNatClampNeg (hs4.k k0_287) g7 rfl dX9_hear_21 ?_
      refine G.if_eq 22 34 dX9_hear_22 (by decide) (fun h8 => ?_) (fun h8 => ?_)
      · replace hf := (if_pos h8).symm.trans hf
        refine G.bipush 34 (-11 : Int32) dX9_hear_34 (by decide +kernel) ?_
        (have hf9 := Option.some.inj hf; subst hf9)
        exact G.rI 36 hq dX9_hear_36 hs4
      · replace hf := (if_neg h8).symm.trans hf
        refine G.aload_n 25 0 dX9_hear_25 rfl rfl ?_
        refine G.getp 26 ck_9 2 287 (hs4.k k0_284) (pc_9_2 hs4) (by decide) (by decide +kernel) wd_1307 dX9_hear_26 ?_
        refine G.iload_n 29 2 dX9_hear_29 rfl rfl ?_
        obtain ⟨g9, hf⟩ := gd_e hf
        refine G.ia 30 x2.toNatClampNeg (hs4.k k0_287) g9 rfl dX9_hear_30 ?_
        refine G.if_ne 31 37 dX9_hear_31 (by decide) (fun h10 => ?_) (fun h10 => ?_)
        · replace hf := (if_neg h10).symm.trans hf
          refine G.aload_n 37 0 dX9_hear_37 rfl rfl ?_
          refine G.getp 38 ck_9 2 287 (hs4.k k0_284) (pc_9_2 hs4) (by decide) (by decide +kernel) wd_1307 dX9_hear_38 ?_
          refine G.iload_n 41 1 dX9_hear_41 rfl rfl ?_
          refine G.ia 42 x1.toNatClampNeg (hs4.k k0_287) g7 rfl dX9_hear_42 ?_
          refine G.iconst 43 (2 : Int32) dX9_hear_43 (by decide +kernel) ?_
          refine G.icmp_ne 44 72 dX9_hear_44 (by decide) (fun h11 => ?_) (fun h11 => ?_)
          · replace hf := (if_neg h11).symm.trans hf
            refine G.bipush 72 (-12 : Int32) dX9_hear_72 (by decide +kernel) ?_
            (have hf9 := Option.some.inj hf; subst hf9)
            exact G.rI 74 hq dX9_hear_74 hs4
          · replace hf := (if_pos h11).symm.trans hf
            refine G.aload_n 47 0 dX9_hear_47 rfl rfl ?_
            refine G.getp 48 ck_9 2 287 (hs4.k k0_284) (pc_9_2 hs4) (by decide) (by decide +kernel) wd_1307 dX9_hear_48 ?_
            refine G.iload_n 51 2 dX9_hear_51 rfl rfl ?_
            refine G.ia 52 x2.toNatClampNeg (hs4.k k0_287) g9 rfl dX9_hear_52 ?_
            refine G.iconst 53 (2 : Int32) dX9_hear_53 (by decide +kernel) ?_
            refine G.icmp_ne 54 72 dX9_hear_54 (by decide) (fun h12 => ?_) (fun h12 => ?_)
            · replace hf := (if_neg h12).symm.trans hf
              refine G.bipush 72 (-12 : Int32) dX9_hear_72 (by decide +kernel) ?_
              (have hf9 := Option.some.inj hf; subst hf9)
              exact G.rI 74 hq dX9_hear_74 hs4
            · replace hf := (if_pos h12).symm.trans hf
              refine G.aload_n 57 0 dX9_hear_57 rfl rfl ?_
              refine G.getp 58 ck_9 3 288 (hs4.k k0_284) (pc_9_3 hs4) (by decide) (by decide +kernel) wd_1308 dX9_hear_58 ?_
              refine G.iload_n 61 1 dX9_hear_61 rfl rfl ?_
              refine G.ia 62 x1.toNatClampNeg (hs4.k k0_288) g7 rfl dX9_hear_62 ?_
              refine G.aload_n 63 0 dX9_hear_63 rfl rfl ?_
              refine G.getp 64 ck_9 3 288 (hs4.k k0_284) (pc_9_3 hs4) (by decide) (by decide +kernel) wd_1308 dX9_hear_64 ?_
              refine G.iload_n 67 2 dX9_hear_67 rfl rfl ?_
              refine G.ia 68 x2.toNatClampNeg (hs4.k k0_288) g9 rfl dX9_hear_68 ?_
              refine G.icmp_eq 69 75 dX9_hear_69 (by decide) (fun h13 => ?_) (fun h13 => ?_)
              · replace hf := (if_pos h13).symm.trans hf
                refine G.aload_n 75 0 dX9_hear_75 rfl rfl ?_
                refine G.getp 76 ck_9 3 288 (hs4.k k0_284) (pc_9_3 hs4) (by decide) (by decide +kernel) wd_1308 dX9_hear_76 ?_
                refine G.iload_n 79 1 dX9_hear_79 rfl rfl ?_
                refine G.ia 80 x1.toNatClampNeg (hs4.k k0_288) g7 rfl dX9_hear_80 ?_
                refine G.if_ne 81 89 dX9_hear_81 (by decide) (fun h14 => ?_) (fun h14 => ?_)
                · replace hf := (if_neg h14).symm.trans hf
                  refine G.aload_n 89 0 dX9_hear_89 rfl rfl ?_
                  refine G.getp 90 ck_9 3 288 (hs4.k k0_284) (pc_9_3 hs4) (by decide) (by decide +kernel) wd_1308 dX9_hear_90 ?_
                  refine G.iload_n 93 1 dX9_hear_93 rfl rfl ?_
                  refine G.ia 94 x1.toNatClampNeg (hs4.k k0_288) g7 rfl dX9_hear_94 ?_
                  refine G.iconst 95 (1 : Int32) dX9_hear_95 (by decide +kernel) ?_
                  refine G.icmp_ne 96 105 dX9_hear_96 (by decide) (fun h15 => ?_) (fun h15 => ?_)
                  · replace hf := (if_neg h15).symm.trans hf
                    refine G.ldc 105 (-2147483648 : Int32) wd_1472 dX9_hear_105 ?_
                    refine G.istore_n 107 [(3, .int (-2147483648 : Int32)), (0, .ref (zs Z + 284)), (1, .int x1), (2, .int x2)] dX9_hear_107 rfl (Nat.le_of_ble_eq_true rfl) rfl ?_
                    refine G.iconst 108 (0 : Int32) dX9_hear_108 (by decide +kernel) ?_
                    refine G.istore 109 [(4, .int (0 : Int32)), (3, .int (-2147483648 : Int32)), (0, .ref (zs Z + 284)), (1, .int x1), (2, .int x2)] dX9_hear_109 (Nat.le_of_ble_eq_true rfl) rfl ?_
                    refine G.locs [2, 3, 4, 1, 0] rfl ?_
                    exact l_X9_hear_111 Z X hR hq FU x1 x2 (-2147483648 : Int32) (0 : Int32) M hs4 hf
                  · replace hf := (if_pos h15).symm.trans hf
                    refine G.sipush 99 (-32768 : Int32) dX9_hear_99 (by decide +kernel) ?_
                    refine G.goto 102 107 dX9_hear_102 (by decide) ?_
                    refine G.istore_n 107 [(3, .int (-32768 : Int32)), (0, .ref (zs Z + 284)), (1, .int x1), (2, .int x2)] dX9_hear_107 rfl (Nat.le_of_ble_eq_true rfl) rfl ?_
                    refine G.iconst 108 (0 : Int32) dX9_hear_108 (by decide +kernel) ?_
                    refine G.istore 109 [(4, .int (0 : Int32)), (3, .int (-32768 : Int32)), (0, .ref (zs Z + 284)), (1, .int x1), (2, .int x2)] dX9_hear_109 (Nat.le_of_ble_eq_true rfl) rfl ?_
                    refine G.locs [2, 3, 4, 1, 0] rfl ?_
                    exact l_X9_hear_111 Z X hR hq FU x1 x2 (-32768 : Int32) (0 : Int32) M hs4 hf
                · replace hf := (if_pos h14).symm.trans hf
                  refine G.bipush 84 (-128 : Int32) dX9_hear_84 (by decide +kernel) ?_
                  refine G.goto 86 107 dX9_hear_86 (by decide) ?_
                  refine G.istore_n 107 [(3, .int (-128 : Int32)), (0, .ref (zs Z + 284)), (1, .int x1), (2, .int x2)] dX9_hear_107 rfl (Nat.le_of_ble_eq_true rfl) rfl ?_
                  refine G.iconst 108 (0 : Int32) dX9_hear_108 (by decide +kernel) ?_
                  refine G.istore 109 [(4, .int (0 : Int32)), (3, .int (-128 : Int32)), (0, .ref (zs Z + 284)), (1, .int x1), (2, .int x2)] dX9_hear_109 (Nat.le_of_ble_eq_true rfl) rfl ?_
                  refine G.locs [2, 3, 4, 1, 0] rfl ?_
                  exact l_X9_hear_111 Z X hR hq FU x1 x2 (-128 : Int32) (0 : Int32) M hs4 hf
              · replace hf := (if_neg h13).symm.trans hf
                refine G.bipush 72 (-12 : Int32) dX9_hear_72 (by decide +kernel) ?_
                (have hf9 := Option.some.inj hf; subst hf9)
                exact G.rI 74 hq dX9_hear_74 hs4
        · replace hf := (if_pos h10).symm.trans hf
          refine G.bipush 34 (-11 : Int32) dX9_hear_34 (by decide +kernel) ?_
          (have hf9 := Option.some.inj hf; subst hf9)
          exact G.rI 36 hq dX9_hear_36 hs4
    · replace hf := (if_pos h6).symm.trans hf
      refine G.iconst 14 (-1 : Int32) dX9_hear_14 (by decide +kernel) ?_
      (have hf9 := Option.some.inj hf; subst hf9)
      exact G.rI 15 hq dX9_hear_15 hs4
