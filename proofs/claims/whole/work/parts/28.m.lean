abbrev Y_X8_copy : My := (cX8_copy, RX8, 7)
def rm_X8_copy : Room := { frames := 4, cells := 0, slots := 0, locals := 264 }
theorem dX8_copy_0 : decode cX8_copy 0 = .ok (.aload_n 0, 1) := by decide +kernel
theorem dX8_copy_1 : decode cX8_copy 1 = .ok (.iload_n 1, 1) := by decide +kernel
theorem dX8_copy_2 : decode cX8_copy 2 = .ok (.iload_n 3, 1) := by decide +kernel
theorem dX8_copy_3 : decode cX8_copy 3 = .ok (.invokevirtual 128, 3) := by decide +kernel
theorem dX8_copy_6 : decode cX8_copy 6 = .ok (.istore 6, 2) := by decide +kernel
theorem dX8_copy_8 : decode cX8_copy 8 = .ok (.iload 6, 2) := by decide +kernel
theorem dX8_copy_10 : decode cX8_copy 10 = .ok (.ifCond .eq 6, 3) := by decide +kernel
theorem dX8_copy_13 : decode cX8_copy 13 = .ok (.iload 6, 2) := by decide +kernel
theorem dX8_copy_15 : decode cX8_copy 15 = .ok (.ireturn, 1) := by decide +kernel
theorem dX8_copy_16 : decode cX8_copy 16 = .ok (.aload_n 0, 1) := by decide +kernel
theorem dX8_copy_17 : decode cX8_copy 17 = .ok (.getfield 24, 3) := by decide +kernel
theorem dX8_copy_20 : decode cX8_copy 20 = .ok (.iload_n 1, 1) := by decide +kernel
theorem dX8_copy_21 : decode cX8_copy 21 = .ok (.aaload, 1) := by decide +kernel
theorem dX8_copy_22 : decode cX8_copy 22 = .ok (.iload_n 2, 1) := by decide +kernel
theorem dX8_copy_23 : decode cX8_copy 23 = .ok (.iload 5, 2) := by decide +kernel
theorem dX8_copy_25 : decode cX8_copy 25 = .ok (.invokevirtual 339, 3) := by decide +kernel
theorem dX8_copy_28 : decode cX8_copy 28 = .ok (.ifCond .eq 19, 3) := by decide +kernel
theorem dX8_copy_31 : decode cX8_copy 31 = .ok (.aload_n 0, 1) := by decide +kernel
theorem dX8_copy_32 : decode cX8_copy 32 = .ok (.getfield 24, 3) := by decide +kernel
theorem dX8_copy_35 : decode cX8_copy 35 = .ok (.iload_n 3, 1) := by decide +kernel
theorem dX8_copy_36 : decode cX8_copy 36 = .ok (.aaload, 1) := by decide +kernel
theorem dX8_copy_37 : decode cX8_copy 37 = .ok (.iload 4, 2) := by decide +kernel
theorem dX8_copy_39 : decode cX8_copy 39 = .ok (.iload 5, 2) := by decide +kernel
theorem dX8_copy_41 : decode cX8_copy 41 = .ok (.invokevirtual 339, 3) := by decide +kernel
theorem dX8_copy_44 : decode cX8_copy 44 = .ok (.ifCond .ne 6, 3) := by decide +kernel
theorem dX8_copy_47 : decode cX8_copy 47 = .ok (.bipush (-13), 2) := by decide +kernel
theorem dX8_copy_49 : decode cX8_copy 49 = .ok (.ireturn, 1) := by decide +kernel
theorem dX8_copy_50 : decode cX8_copy 50 = .ok (.aload_n 0, 1) := by decide +kernel
theorem dX8_copy_51 : decode cX8_copy 51 = .ok (.getfield 24, 3) := by decide +kernel
theorem dX8_copy_54 : decode cX8_copy 54 = .ok (.iload_n 1, 1) := by decide +kernel
theorem dX8_copy_55 : decode cX8_copy 55 = .ok (.aaload, 1) := by decide +kernel
theorem dX8_copy_56 : decode cX8_copy 56 = .ok (.getfield 139, 3) := by decide +kernel
theorem dX8_copy_59 : decode cX8_copy 59 = .ok (.iload_n 2, 1) := by decide +kernel
theorem dX8_copy_60 : decode cX8_copy 60 = .ok (.aload_n 0, 1) := by decide +kernel
theorem dX8_copy_61 : decode cX8_copy 61 = .ok (.getfield 24, 3) := by decide +kernel
theorem dX8_copy_64 : decode cX8_copy 64 = .ok (.iload_n 3, 1) := by decide +kernel
theorem dX8_copy_65 : decode cX8_copy 65 = .ok (.aaload, 1) := by decide +kernel
theorem dX8_copy_66 : decode cX8_copy 66 = .ok (.getfield 139, 3) := by decide +kernel
theorem dX8_copy_69 : decode cX8_copy 69 = .ok (.iload 4, 2) := by decide +kernel
theorem dX8_copy_71 : decode cX8_copy 71 = .ok (.iload 5, 2) := by decide +kernel
theorem dX8_copy_73 : decode cX8_copy 73 = .ok (.invokestatic 342, 3) := by decide +kernel
theorem dX8_copy_76 : decode cX8_copy 76 = .ok (.iload 5, 2) := by decide +kernel
theorem dX8_copy_78 : decode cX8_copy 78 = .ok (.ireturn, 1) := by decide +kernel
def f_X8_copy (x1 : Int32) (x2 : Int32) (x3 : Int32) (x4 : Int32) (x5 : Int32) (M : Mem) : Option (Int32 × Mem) := (f_X8_rowsRefusal x1 x3 M).bind fun q3 => if q3 = 0 then gd (inR x1 8) (if (f_X6_hasPlaces (253 + 7 + 3 * x1.toNatClampNeg) x2 x5 M) = 0 then some ((-13 : Int32), M) else gd (inR x3 8) (if (f_X6_hasPlaces (253 + 7 + 3 * x3.toNatClampNeg) x4 x5 M) = 0 then some ((-13 : Int32), M) else gd (¬ x2 < 0) (gd (¬ x4 < 0) (gd (¬ x5 < 0) (gd (x2.toNatClampNeg + x5.toNatClampNeg ≤ 80) (gd (x4.toNatClampNeg + x5.toNatClampNeg ≤ 80) (some (x5, (cI M ((253 + 7 + 3 * x1.toNatClampNeg) + 2) x2.toNatClampNeg ((253 + 7 + 3 * x3.toNatClampNeg) + 2) x4.toNatClampNeg x5.toNatClampNeg))))))))) else some (q3, M)
set_option maxRecDepth 100000 in
set_option maxHeartbeats 4000000 in
theorem c_X8_copy (Z : Sys) {M : Mem} (hs : St M) (x1 : Int32) (x2 : Int32) (x3 : Int32) (x4 : Int32) (x5 : Int32) {q : Int32 × Mem} (hf : f_X8_copy x1 x2 x3 x4 x5 M = some q) : Ct Z yX8_copy cX8_copy 7 (some .int) rm_X8_copy [.ref (zs Z + 0), .int x1, .int x2, .int x3, .int x4, .int x5] M False (PostI q.1 q.2) := by
  refine Ct.of (by decide +kernel) (Nat.le_of_ble_eq_true rfl) (fun X hR hq _ => ?_)
  show G Z X Y_X8_copy False 0 0 0 [(0, .ref (zs Z + 0)), (1, .int x1), (2, .int x2), (3, .int x3), (4, .int x4), (5, .int x5)] [] M
  replace hq : RetOk Z X (some .int) False (PostI q.1 q.2) 0 0 := hq
  unfold f_X8_copy at hf
  refine G.aload_n 0 0 dX8_copy_0 rfl rfl ?_
  refine G.iload_n 1 1 dX8_copy_1 rfl rfl ?_
  refine G.iload_n 2 3 dX8_copy_2 rfl rfl ?_
  obtain ⟨q3, e4, hf⟩ := bd_e hf
  refine G.cvI 3 (As := [.int x1, .int x3]) ck_8 (hs.k k0_0) (c_X8_rowsRefusal Z hs x1 x3 e4) mk_X8_rowsRefusal vk_X8_rowsRefusal rfl wd_517 hR (by decide +kernel) ⟨rfl, rfl⟩ rfl (Nat.le_of_ble_eq_true rfl) dX8_copy_3 (fun hs1 => ?_)
  refine G.istore 6 [(6, .int q3), (0, .ref (zs Z + 0)), (1, .int x1), (2, .int x2), (3, .int x3), (4, .int x4), (5, .int x5)] dX8_copy_6 (Nat.le_of_ble_eq_true rfl) rfl ?_
  refine G.iload 8 0 dX8_copy_8 rfl ?_
  refine G.if_eq 10 16 dX8_copy_10 (by decide) (fun h5 => ?_) (fun h5 => ?_)
  · replace hf := (if_pos h5).symm.trans hf
    refine G.aload_n 16 1 dX8_copy_16 rfl rfl ?_
    refine G.getp 17 ck_8 4 253 (hs1.k k0_0) (pc_8_4 hs1) (by decide) (by decide +kernel) wd_404 dX8_copy_17 ?_
    refine G.iload_n 20 2 dX8_copy_20 rfl rfl ?_
    obtain ⟨g6, hf⟩ := gd_e hf
    refine G.aa 21 x1.toNatClampNeg (253 + 7 + 3 * x1.toNatClampNeg) (hs1.k k0_253) (by decide) rfl rfl g6 rfl (pa_14 hs1 k0_253 (inlt g6)).1 dX8_copy_21 ?_
    refine G.iload_n 22 3 dX8_copy_22 rfl rfl ?_
    refine G.iload 23 6 dX8_copy_23 rfl ?_
    refine G.cvZ 25 (As := [.int x2, .int x5]) ck_6 (hs1.k (pa_14 hs1 k0_253 (inlt g6)).2) (c_X6_hasPlaces Z hs1 (253 + 7 + 3 * x1.toNatClampNeg) x2 x5 (pa_14 hs1 k0_253 (inlt g6)).2 rfl) mk_X6_hasPlaces vk_X6_hasPlaces rfl wd_1135 hR (by decide +kernel) ⟨rfl, rfl⟩ rfl (Nat.le_of_ble_eq_true rfl) dX8_copy_25 (fun hs7 z8 => ?_)
    refine G.if_eq 28 47 dX8_copy_28 (by decide) (fun h9 => ?_) (fun h9 => ?_)
    · replace hf := (if_pos h9).symm.trans hf
      refine G.bipush 47 (-13 : Int32) dX8_copy_47 (by decide +kernel) ?_
      (have hf9 := Option.some.inj hf; subst hf9)
      exact G.rI 49 hq dX8_copy_49 hs7
    · replace hf := (if_neg h9).symm.trans hf
      refine G.aload_n 31 1 dX8_copy_31 rfl rfl ?_
      refine G.getp 32 ck_8 4 253 (hs7.k k0_0) (pc_8_4 hs7) (by decide) (by decide +kernel) wd_404 dX8_copy_32 ?_
      refine G.iload_n 35 4 dX8_copy_35 rfl rfl ?_
      obtain ⟨g10, hf⟩ := gd_e hf
      refine G.aa 36 x3.toNatClampNeg (253 + 7 + 3 * x3.toNatClampNeg) (hs7.k k0_253) (by decide) rfl rfl g10 rfl (pa_14 hs7 k0_253 (inlt g10)).1 dX8_copy_36 ?_
      refine G.iload 37 5 dX8_copy_37 rfl ?_
      refine G.iload 39 6 dX8_copy_39 rfl ?_
      refine G.cvZ 41 (As := [.int x4, .int x5]) ck_6 (hs7.k (pa_14 hs7 k0_253 (inlt g10)).2) (c_X6_hasPlaces Z hs7 (253 + 7 + 3 * x3.toNatClampNeg) x4 x5 (pa_14 hs7 k0_253 (inlt g10)).2 rfl) mk_X6_hasPlaces vk_X6_hasPlaces rfl wd_1135 hR (by decide +kernel) ⟨rfl, rfl⟩ rfl (Nat.le_of_ble_eq_true rfl) dX8_copy_41 (fun hs11 z12 => ?_)
      refine G.if_ne 44 50 dX8_copy_44 (by decide) (fun h13 => ?_) (fun h13 => ?_)
      · replace hf := (if_neg h13).symm.trans hf
        refine G.aload_n 50 1 dX8_copy_50 rfl rfl ?_
        refine G.getp 51 ck_8 4 253 (hs11.k k0_0) (pc_8_4 hs11) (by decide) (by decide +kernel) wd_404 dX8_copy_51 ?_
        refine G.iload_n 54 2 dX8_copy_54 rfl rfl ?_
        refine G.aa 55 x1.toNatClampNeg (253 + 7 + 3 * x1.toNatClampNeg) (hs11.k k0_253) (by decide) rfl rfl g6 rfl (pa_14 hs11 k0_253 (inlt g6)).1 dX8_copy_55 ?_
        refine G.getp 56 ck_6 6 ((253 + 7 + 3 * x1.toNatClampNeg) + 2) (hs11.k (pa_14 hs11 k0_253 (inlt g6)).2) (pt_6_6 hs11 (pa_14 hs11 k0_253 (inlt g6)).2).1 (by decide) (by decide +kernel) wd_384 dX8_copy_56 ?_
        refine G.iload_n 59 3 dX8_copy_59 rfl rfl ?_
        refine G.aload_n 60 1 dX8_copy_60 rfl rfl ?_
        refine G.getp 61 ck_8 4 253 (hs11.k k0_0) (pc_8_4 hs11) (by decide) (by decide +kernel) wd_404 dX8_copy_61 ?_
        refine G.iload_n 64 4 dX8_copy_64 rfl rfl ?_
        refine G.aa 65 x3.toNatClampNeg (253 + 7 + 3 * x3.toNatClampNeg) (hs11.k k0_253) (by decide) rfl rfl g10 rfl (pa_14 hs11 k0_253 (inlt g10)).1 dX8_copy_65 ?_
        refine G.getp 66 ck_6 6 ((253 + 7 + 3 * x3.toNatClampNeg) + 2) (hs11.k (pa_14 hs11 k0_253 (inlt g10)).2) (pt_6_6 hs11 (pa_14 hs11 k0_253 (inlt g10)).2).1 (by decide) (by decide +kernel) wd_384 dX8_copy_66 ?_
        refine G.iload 69 5 dX8_copy_69 rfl ?_
        refine G.iload 71 6 dX8_copy_71 rfl ?_
        obtain ⟨g14, hf⟩ := gd_e hf
        obtain ⟨g15, hf⟩ := gd_e hf
        obtain ⟨g16, hf⟩ := gd_e hf
        obtain ⟨g17, hf⟩ := gd_e hf
        obtain ⟨g18, hf⟩ := gd_e hf
        refine G.copyi 73 (hs11.k (pt_6_6 hs11 (pa_14 hs11 k0_253 (inlt g6)).2).2) (hs11.k (pt_6_6 hs11 (pa_14 hs11 k0_253 (inlt g10)).2).2) wd_1139 wd_845 wd_844 wd_90 g14 g15 g16 g17 g18 hR ⟨Nat.le_of_ble_eq_true rfl, Nat.le_of_ble_eq_true rfl⟩ dX8_copy_73 ?_
        refine G.iload 76 6 dX8_copy_76 rfl ?_
        (have hf9 := Option.some.inj hf; subst hf9)
        exact G.rI 78 hq dX8_copy_78 (St.c hs11)
      · replace hf := (if_pos h13).symm.trans hf
        refine G.bipush 47 (-13 : Int32) dX8_copy_47 (by decide +kernel) ?_
        (have hf9 := Option.some.inj hf; subst hf9)
        exact G.rI 49 hq dX8_copy_49 hs11
  · replace hf := (if_neg h5).symm.trans hf
    refine G.iload 13 0 dX8_copy_13 rfl ?_
    (have hf9 := Option.some.inj hf; subst hf9)
    exact G.rI 15 hq dX8_copy_15 hs1
abbrev Y_X8_cost : My := (cX8_cost, RX8, 1)
def rm_X8_cost : Room := { frames := 4, cells := 0, slots := 0, locals := 264 }
theorem dX8_cost_0 : decode cX8_cost 0 = .ok (.aload_n 0, 1) := by decide +kernel
theorem dX8_cost_1 : decode cX8_cost 1 = .ok (.getfield 31, 3) := by decide +kernel
theorem dX8_cost_4 : decode cX8_cost 4 = .ok (.aload_n 0, 1) := by decide +kernel
theorem dX8_cost_5 : decode cX8_cost 5 = .ok (.getfield 10, 3) := by decide +kernel
theorem dX8_cost_8 : decode cX8_cost 8 = .ok (.invokevirtual 186, 3) := by decide +kernel
theorem dX8_cost_11 : decode cX8_cost 11 = .ok (.aload_n 0, 1) := by decide +kernel
theorem dX8_cost_12 : decode cX8_cost 12 = .ok (.getfield 31, 3) := by decide +kernel
theorem dX8_cost_15 : decode cX8_cost 15 = .ok (.invokevirtual 190, 3) := by decide +kernel
theorem dX8_cost_18 : decode cX8_cost 18 = .ok (.ifCond .ne 6, 3) := by decide +kernel
theorem dX8_cost_21 : decode cX8_cost 21 = .ok (.ldc 172, 2) := by decide +kernel
theorem dX8_cost_23 : decode cX8_cost 23 = .ok (.ireturn, 1) := by decide +kernel
theorem dX8_cost_24 : decode cX8_cost 24 = .ok (.aload_n 0, 1) := by decide +kernel
theorem dX8_cost_25 : decode cX8_cost 25 = .ok (.getfield 31, 3) := by decide +kernel
theorem dX8_cost_28 : decode cX8_cost 28 = .ok (.invokevirtual 194, 3) := by decide +kernel
theorem dX8_cost_31 : decode cX8_cost 31 = .ok (.ireturn, 1) := by decide +kernel
def f_X8_cost (M : Mem) : Option (Int32 × Mem) := (f_X7_look 1 M).bind fun q3 => if (f_X7_areSome q3) = 0 then some ((-1000000004 : Int32), q3) else some ((f_X7_worth q3), q3)
set_option maxRecDepth 100000 in
set_option maxHeartbeats 4000000 in
theorem c_X8_cost (Z : Sys) {M : Mem} (hs : St M) {q : Int32 × Mem} (hf : f_X8_cost M = some q) : Ct Z yX8_cost cX8_cost 1 (some .int) rm_X8_cost [.ref (zs Z + 0)] M False (PostI q.1 q.2) := by
  refine Ct.of (by decide +kernel) (Nat.le_of_ble_eq_true rfl) (fun X hR hq _ => ?_)
  show G Z X Y_X8_cost False 0 0 0 [(0, .ref (zs Z + 0))] [] M
  replace hq : RetOk Z X (some .int) False (PostI q.1 q.2) 0 0 := hq
  unfold f_X8_cost at hf
  refine G.aload_n 0 0 dX8_cost_0 rfl rfl ?_
  refine G.getp 1 ck_8 5 254 (hs.k k0_0) (pc_8_5 hs) (by decide) (by decide +kernel) wd_405 dX8_cost_1 ?_
  refine G.aload_n 4 0 dX8_cost_4 rfl rfl ?_
  refine G.getp 5 ck_8 0 1 (hs.k k0_0) (pc_8_0 hs) (by decide) (by decide +kernel) wd_400 dX8_cost_5 ?_
  obtain ⟨q3, e4, hf⟩ := bd_e hf
  refine G.cvV 8 (As := [.ref (zs Z + 1)]) ck_7 (hs.k k0_254) (c_X7_look Z hs 1 k0_1 e4) mk_X7_look vk_X7_look rfl wd_646 hR (by decide +kernel) ⟨rfl, rfl⟩ rfl (Nat.le_of_ble_eq_true rfl) dX8_cost_8 (fun hs1 => ?_)
  refine G.aload_n 11 0 dX8_cost_11 rfl rfl ?_
  refine G.getp 12 ck_8 5 254 (hs1.k k0_0) (pc_8_5 hs1) (by decide) (by decide +kernel) wd_405 dX8_cost_12 ?_
  refine G.cvZ 15 (As := []) ck_7 (hs1.k k0_254) (c_X7_areSome Z hs1 rfl) mk_X7_areSome vk_X7_areSome rfl wd_651 hR (by decide +kernel) ⟨rfl, rfl⟩ rfl (Nat.le_of_ble_eq_true rfl) dX8_cost_15 (fun hs5 z6 => ?_)
  refine G.if_ne 18 24 dX8_cost_18 (by decide) (fun h7 => ?_) (fun h7 => ?_)
  · replace hf := (if_neg h7).symm.trans hf
    refine G.aload_n 24 0 dX8_cost_24 rfl rfl ?_
    refine G.getp 25 ck_8 5 254 (hs5.k k0_0) (pc_8_5 hs5) (by decide) (by decide +kernel) wd_405 dX8_cost_25 ?_
    refine G.cvI 28 (As := []) ck_7 (hs5.k k0_254) (c_X7_worth Z hs5 rfl) mk_X7_worth vk_X7_worth rfl wd_655 hR (by decide +kernel) ⟨rfl, rfl⟩ rfl (Nat.le_of_ble_eq_true rfl) dX8_cost_28 (fun hs8 => ?_)
    (have hf9 := Option.some.inj hf; subst hf9)
    exact G.rI 31 hq dX8_cost_31 hs8
  · replace hf := (if_pos h7).symm.trans hf
    refine G.ldc 21 (-1000000004 : Int32) wd_624 dX8_cost_21 ?_
    (have hf9 := Option.some.inj hf; subst hf9)
    exact G.rI 23 hq dX8_cost_23 hs5
abbrev Y_X8_count : My := (cX8_count, RX8, 2)
def rm_X8_count : Room := { frames := 3, cells := 0, slots := 0, locals := 245 }
theorem dX8_count_0 : decode cX8_count 0 = .ok (.iload_n 1, 1) := by decide +kernel
theorem dX8_count_1 : decode cX8_count 1 = .ok (.tableswitch 107 0 6 #[43, 51, 67, 75, 83, 91, 99], 43) := by decide +kernel
theorem dX8_count_44 : decode cX8_count 44 = .ok (.aload_n 0, 1) := by decide +kernel
theorem dX8_count_45 : decode cX8_count 45 = .ok (.getfield 10, 3) := by decide +kernel
theorem dX8_count_48 : decode cX8_count 48 = .ok (.getfield 118, 3) := by decide +kernel
theorem dX8_count_51 : decode cX8_count 51 = .ok (.ireturn, 1) := by decide +kernel
theorem dX8_count_52 : decode cX8_count 52 = .ok (.aload_n 0, 1) := by decide +kernel
theorem dX8_count_53 : decode cX8_count 53 = .ok (.getfield 10, 3) := by decide +kernel
theorem dX8_count_56 : decode cX8_count 56 = .ok (.getfield 118, 3) := by decide +kernel
theorem dX8_count_59 : decode cX8_count 59 = .ok (.aload_n 0, 1) := by decide +kernel
theorem dX8_count_60 : decode cX8_count 60 = .ok (.getfield 10, 3) := by decide +kernel
theorem dX8_count_63 : decode cX8_count 63 = .ok (.invokevirtual 125, 3) := by decide +kernel
theorem dX8_count_66 : decode cX8_count 66 = .ok (.isub, 1) := by decide +kernel
theorem dX8_count_67 : decode cX8_count 67 = .ok (.ireturn, 1) := by decide +kernel
theorem dX8_count_68 : decode cX8_count 68 = .ok (.aload_n 0, 1) := by decide +kernel
theorem dX8_count_69 : decode cX8_count 69 = .ok (.getfield 10, 3) := by decide +kernel
theorem dX8_count_72 : decode cX8_count 72 = .ok (.getfield 284, 3) := by decide +kernel
theorem dX8_count_75 : decode cX8_count 75 = .ok (.ireturn, 1) := by decide +kernel
theorem dX8_count_76 : decode cX8_count 76 = .ok (.aload_n 0, 1) := by decide +kernel
theorem dX8_count_77 : decode cX8_count 77 = .ok (.getfield 10, 3) := by decide +kernel
theorem dX8_count_80 : decode cX8_count 80 = .ok (.invokevirtual 296, 3) := by decide +kernel
theorem dX8_count_83 : decode cX8_count 83 = .ok (.ireturn, 1) := by decide +kernel
theorem dX8_count_84 : decode cX8_count 84 = .ok (.aload_n 0, 1) := by decide +kernel
theorem dX8_count_85 : decode cX8_count 85 = .ok (.getfield 10, 3) := by decide +kernel
theorem dX8_count_88 : decode cX8_count 88 = .ok (.invokevirtual 299, 3) := by decide +kernel
theorem dX8_count_91 : decode cX8_count 91 = .ok (.ireturn, 1) := by decide +kernel
theorem dX8_count_92 : decode cX8_count 92 = .ok (.aload_n 0, 1) := by decide +kernel
theorem dX8_count_93 : decode cX8_count 93 = .ok (.getfield 10, 3) := by decide +kernel
theorem dX8_count_96 : decode cX8_count 96 = .ok (.invokevirtual 302, 3) := by decide +kernel
theorem dX8_count_99 : decode cX8_count 99 = .ok (.ireturn, 1) := by decide +kernel
theorem dX8_count_100 : decode cX8_count 100 = .ok (.aload_n 0, 1) := by decide +kernel
theorem dX8_count_101 : decode cX8_count 101 = .ok (.getfield 10, 3) := by decide +kernel
theorem dX8_count_104 : decode cX8_count 104 = .ok (.invokevirtual 305, 3) := by decide +kernel
theorem dX8_count_107 : decode cX8_count 107 = .ok (.ireturn, 1) := by decide +kernel
theorem dX8_count_108 : decode cX8_count 108 = .ok (.iconst (-1), 1) := by decide +kernel
theorem dX8_count_109 : decode cX8_count 109 = .ok (.ireturn, 1) := by decide +kernel
def f_X8_count (x1 : Int32) (M : Mem) : Option Int32 := if x1 = (0 : Int32) then some (mI M 1 1) else if x1 = (1 : Int32) then (f_X0_writtenCount 1 M).bind fun q5 => some ((mI M 1 1) - q5) else if x1 = (2 : Int32) then some (mI M 1 8) else if x1 = (3 : Int32) then (f_X0_allLists 1 M).bind fun q11 => some q11 else if x1 = (4 : Int32) then (f_X0_watchedCount 1 M).bind fun q16 => some q16 else if x1 = (5 : Int32) then (f_X0_allWrittenCame 1 M).bind fun q21 => some q21 else if x1 = (6 : Int32) then (f_X0_allWrittenOurs 1 M).bind fun q26 => some q26 else some (-1 : Int32)
set_option maxRecDepth 100000 in
set_option maxHeartbeats 4000000 in
theorem c_X8_count (Z : Sys) {M : Mem} (hs : St M) (x1 : Int32) {q : Int32} (hf : f_X8_count x1 M = some q) : Ct Z yX8_count cX8_count 2 (some .int) rm_X8_count [.ref (zs Z + 0), .int x1] M False (PostI q M) := by
  refine Ct.of (by decide +kernel) (Nat.le_of_ble_eq_true rfl) (fun X hR hq _ => ?_)
  show G Z X Y_X8_count False 0 0 0 [(0, .ref (zs Z + 0)), (1, .int x1)] [] M
  replace hq : RetOk Z X (some .int) False (PostI q M) 0 0 := hq
  unfold f_X8_count at hf
  refine G.iload_n 0 1 dX8_count_0 rfl rfl ?_
  by_cases h1 : x1 = (0 : Int32)
  · replace hf := (if_pos h1).symm.trans hf
    refine G.tableIn 1 44 (off := 43) dX8_count_1 (by rw [h1]; decide +kernel) (by rw [h1]; decide +kernel) (by rw [h1]; decide +kernel) (by decide) ?_
    refine G.aload_n 44 0 dX8_count_44 rfl rfl ?_
    refine G.getp 45 ck_8 0 1 (hs.k k0_0) (pc_8_0 hs) (by decide) (by decide +kernel) wd_400 dX8_count_45 ?_
    refine G.geti 48 ck_0 1 (hs.k k0_1) (by decide) (by decide +kernel) wd_264 dX8_count_48 ?_
    (have hf9 := Option.some.inj hf; subst hf9)
    exact G.rI 51 hq dX8_count_51 hs
  · replace hf := (if_neg h1).symm.trans hf
    by_cases h2 : x1 = (1 : Int32)
    · replace hf := (if_pos h2).symm.trans hf
      refine G.tableIn 1 52 (off := 51) dX8_count_1 (by rw [h2]; decide +kernel) (by rw [h2]; decide +kernel) (by rw [h2]; decide +kernel) (by decide) ?_
      refine G.aload_n 52 0 dX8_count_52 rfl rfl ?_
      refine G.getp 53 ck_8 0 1 (hs.k k0_0) (pc_8_0 hs) (by decide) (by decide +kernel) wd_400 dX8_count_53 ?_
      refine G.geti 56 ck_0 1 (hs.k k0_1) (by decide) (by decide +kernel) wd_264 dX8_count_56 ?_
      refine G.aload_n 59 0 dX8_count_59 rfl rfl ?_
      refine G.getp 60 ck_8 0 1 (hs.k k0_0) (pc_8_0 hs) (by decide) (by decide +kernel) wd_400 dX8_count_60 ?_
      obtain ⟨q5, e6, hf⟩ := bd_e hf
      refine G.cvI 63 (As := []) ck_0 (hs.k k0_1) (c_X0_writtenCount Z hs 1 k0_1 e6) mk_X0_writtenCount vk_X0_writtenCount rfl wd_509 hR (by decide +kernel) ⟨rfl, rfl⟩ rfl (Nat.le_of_ble_eq_true rfl) dX8_count_63 (fun hs3 => ?_)
      refine G.isub 66 dX8_count_66 ?_
      (have hf9 := Option.some.inj hf; subst hf9)
      exact G.rI 67 hq dX8_count_67 hs3
    · replace hf := (if_neg h2).symm.trans hf
      by_cases h7 : x1 = (2 : Int32)
      · replace hf := (if_pos h7).symm.trans hf
        refine G.tableIn 1 68 (off := 67) dX8_count_1 (by rw [h7]; decide +kernel) (by rw [h7]; decide +kernel) (by rw [h7]; decide +kernel) (by decide) ?_
        refine G.aload_n 68 0 dX8_count_68 rfl rfl ?_
        refine G.getp 69 ck_8 0 1 (hs.k k0_0) (pc_8_0 hs) (by decide) (by decide +kernel) wd_400 dX8_count_69 ?_
        refine G.geti 72 ck_0 8 (hs.k k0_1) (by decide) (by decide +kernel) wd_276 dX8_count_72 ?_
        (have hf9 := Option.some.inj hf; subst hf9)
        exact G.rI 75 hq dX8_count_75 hs
      · replace hf := (if_neg h7).symm.trans hf
        by_cases h8 : x1 = (3 : Int32)
        · replace hf := (if_pos h8).symm.trans hf
          refine G.tableIn 1 76 (off := 75) dX8_count_1 (by rw [h8]; decide +kernel) (by rw [h8]; decide +kernel) (by rw [h8]; decide +kernel) (by decide) ?_
          refine G.aload_n 76 0 dX8_count_76 rfl rfl ?_
          refine G.getp 77 ck_8 0 1 (hs.k k0_0) (pc_8_0 hs) (by decide) (by decide +kernel) wd_400 dX8_count_77 ?_
          obtain ⟨q11, e12, hf⟩ := bd_e hf
          refine G.cvI 80 (As := []) ck_0 (hs.k k0_1) (c_X0_allLists Z hs 1 k0_1 e12) mk_X0_allLists vk_X0_allLists rfl wd_1094 hR (by decide +kernel) ⟨rfl, rfl⟩ rfl (Nat.le_of_ble_eq_true rfl) dX8_count_80 (fun hs9 => ?_)
          (have hf9 := Option.some.inj hf; subst hf9)
          exact G.rI 83 hq dX8_count_83 hs9
        · replace hf := (if_neg h8).symm.trans hf
          by_cases h13 : x1 = (4 : Int32)
          · replace hf := (if_pos h13).symm.trans hf
            refine G.tableIn 1 84 (off := 83) dX8_count_1 (by rw [h13]; decide +kernel) (by rw [h13]; decide +kernel) (by rw [h13]; decide +kernel) (by decide) ?_
            refine G.aload_n 84 0 dX8_count_84 rfl rfl ?_
            refine G.getp 85 ck_8 0 1 (hs.k k0_0) (pc_8_0 hs) (by decide) (by decide +kernel) wd_400 dX8_count_85 ?_
            obtain ⟨q16, e17, hf⟩ := bd_e hf
            refine G.cvI 88 (As := []) ck_0 (hs.k k0_1) (c_X0_watchedCount Z hs 1 k0_1 e17) mk_X0_watchedCount vk_X0_watchedCount rfl wd_1098 hR (by decide +kernel) ⟨rfl, rfl⟩ rfl (Nat.le_of_ble_eq_true rfl) dX8_count_88 (fun hs14 => ?_)
            (have hf9 := Option.some.inj hf; subst hf9)
            exact G.rI 91 hq dX8_count_91 hs14
          · replace hf := (if_neg h13).symm.trans hf
            by_cases h18 : x1 = (5 : Int32)
            · replace hf := (if_pos h18).symm.trans hf
              refine G.tableIn 1 92 (off := 91) dX8_count_1 (by rw [h18]; decide +kernel) (by rw [h18]; decide +kernel) (by rw [h18]; decide +kernel) (by decide) ?_
              refine G.aload_n 92 0 dX8_count_92 rfl rfl ?_
              refine G.getp 93 ck_8 0 1 (hs.k k0_0) (pc_8_0 hs) (by decide) (by decide +kernel) wd_400 dX8_count_93 ?_
              obtain ⟨q21, e22, hf⟩ := bd_e hf
              refine G.cvI 96 (As := []) ck_0 (hs.k k0_1) (c_X0_allWrittenCame Z hs 1 k0_1 e22) mk_X0_allWrittenCame vk_X0_allWrittenCame rfl wd_1102 hR (by decide +kernel) ⟨rfl, rfl⟩ rfl (Nat.le_of_ble_eq_true rfl) dX8_count_96 (fun hs19 => ?_)
              (have hf9 := Option.some.inj hf; subst hf9)
              exact G.rI 99 hq dX8_count_99 hs19
            · replace hf := (if_neg h18).symm.trans hf
              by_cases h23 : x1 = (6 : Int32)
              · replace hf := (if_pos h23).symm.trans hf
                refine G.tableIn 1 100 (off := 99) dX8_count_1 (by rw [h23]; decide +kernel) (by rw [h23]; decide +kernel) (by rw [h23]; decide +kernel) (by decide) ?_
                refine G.aload_n 100 0 dX8_count_100 rfl rfl ?_
                refine G.getp 101 ck_8 0 1 (hs.k k0_0) (pc_8_0 hs) (by decide) (by decide +kernel) wd_400 dX8_count_101 ?_
                obtain ⟨q26, e27, hf⟩ := bd_e hf
                refine G.cvI 104 (As := []) ck_0 (hs.k k0_1) (c_X0_allWrittenOurs Z hs 1 k0_1 e27) mk_X0_allWrittenOurs vk_X0_allWrittenOurs rfl wd_1103 hR (by decide +kernel) ⟨rfl, rfl⟩ rfl (Nat.le_of_ble_eq_true rfl) dX8_count_104 (fun hs24 => ?_)
                (have hf9 := Option.some.inj hf; subst hf9)
                exact G.rI 107 hq dX8_count_107 hs24
              · replace hf := (if_neg h23).symm.trans hf
                have t_h1 := ti (0 : Int32) (0) (by decide +kernel) h1
                have t_h2 := ti (1 : Int32) (1) (by decide +kernel) h2
                have t_h7 := ti (2 : Int32) (2) (by decide +kernel) h7
                have t_h8 := ti (3 : Int32) (3) (by decide +kernel) h8
                have t_h13 := ti (4 : Int32) (4) (by decide +kernel) h13
                have t_h18 := ti (5 : Int32) (5) (by decide +kernel) h18
                have t_h23 := ti (6 : Int32) (6) (by decide +kernel) h23
                refine G.tableOut 1 108 dX8_count_1 (by omega) (by decide) ?_
                refine G.iconst 108 (-1 : Int32) dX8_count_108 (by decide +kernel) ?_
                (have hf9 := Option.some.inj hf; subst hf9)
                exact G.rI 109 hq dX8_count_109 hs
abbrev Y_X8_isDistrict : My := (cX8_isDistrict, RX8, 1)
def rm_X8_isDistrict : Room := { frames := 2, cells := 0, slots := 0, locals := 222 }
theorem dX8_isDistrict_0 : decode cX8_isDistrict 0 = .ok (.iload_n 0, 1) := by decide +kernel
theorem dX8_isDistrict_1 : decode cX8_isDistrict 1 = .ok (.iconst 0, 1) := by decide +kernel
theorem dX8_isDistrict_2 : decode cX8_isDistrict 2 = .ok (.iconst 3, 1) := by decide +kernel
theorem dX8_isDistrict_3 : decode cX8_isDistrict 3 = .ok (.invokestatic 50, 3) := by decide +kernel
theorem dX8_isDistrict_6 : decode cX8_isDistrict 6 = .ok (.ireturn, 1) := by decide +kernel
def f_X8_isDistrict (x0 : Int32) : Int32 := (f_X8_within x0 (0 : Int32) (3 : Int32))
set_option maxRecDepth 100000 in
set_option maxHeartbeats 4000000 in
theorem c_X8_isDistrict (Z : Sys) {M : Mem} (hs : St M) (x0 : Int32) {q : Int32} (hf : f_X8_isDistrict x0 = q) : Ct Z yX8_isDistrict cX8_isDistrict 1 (some .boolean) rm_X8_isDistrict [.int x0] M False (PostZ q M) := by
  refine Ct.of (by decide +kernel) (Nat.le_of_ble_eq_true rfl) (fun X hR hq _ => ?_)
  show G Z X Y_X8_isDistrict False 0 0 0 [(0, .int x0)] [] M
  replace hq : RetOk Z X (some .boolean) False (PostZ q M) 0 0 := hq
  unfold f_X8_isDistrict at hf
  refine G.iload_n 0 0 dX8_isDistrict_0 rfl rfl ?_
  refine G.iconst 1 (0 : Int32) dX8_isDistrict_1 (by decide +kernel) ?_
  refine G.iconst 2 (3 : Int32) dX8_isDistrict_2 (by decide +kernel) ?_
  refine G.csZ 3 (As := [.int x0, .int (0 : Int32), .int (3 : Int32)]) (c_X8_within Z hs x0 (0 : Int32) (3 : Int32) rfl) mk_X8_within wd_430 wd_429 hR (by decide +kernel) ⟨rfl, rfl⟩ rfl (Nat.le_of_ble_eq_true rfl) dX8_isDistrict_3 (fun hs1 z2 => ?_)
  subst hf
  exact G.rZ 6 hq dX8_isDistrict_6 hs1 z2
abbrev Y_X8_down : My := (cX8_down, RX8, 3)
def rm_X8_down : Room := { frames := 3, cells := 0, slots := 0, locals := 242 }
theorem dX8_down_0 : decode cX8_down 0 = .ok (.iload_n 1, 1) := by decide +kernel
theorem dX8_down_1 : decode cX8_down 1 = .ok (.invokestatic 204, 3) := by decide +kernel
theorem dX8_down_4 : decode cX8_down 4 = .ok (.ifCond .ne 5, 3) := by decide +kernel
theorem dX8_down_7 : decode cX8_down 7 = .ok (.iconst (-1), 1) := by decide +kernel
theorem dX8_down_8 : decode cX8_down 8 = .ok (.ireturn, 1) := by decide +kernel
theorem dX8_down_9 : decode cX8_down 9 = .ok (.aload_n 0, 1) := by decide +kernel
theorem dX8_down_10 : decode cX8_down 10 = .ok (.getfield 10, 3) := by decide +kernel
theorem dX8_down_13 : decode cX8_down 13 = .ok (.getfield 208, 3) := by decide +kernel
theorem dX8_down_16 : decode cX8_down 16 = .ok (.iload_n 1, 1) := by decide +kernel
theorem dX8_down_17 : decode cX8_down 17 = .ok (.baload, 1) := by decide +kernel
theorem dX8_down_18 : decode cX8_down 18 = .ok (.ifCond .eq 7, 3) := by decide +kernel
theorem dX8_down_21 : decode cX8_down 21 = .ok (.iconst 1, 1) := by decide +kernel
theorem dX8_down_22 : decode cX8_down 22 = .ok (.goto 4, 3) := by decide +kernel
theorem dX8_down_25 : decode cX8_down 25 = .ok (.iconst 0, 1) := by decide +kernel
theorem dX8_down_26 : decode cX8_down 26 = .ok (.istore_n 2, 1) := by decide +kernel
theorem dX8_down_27 : decode cX8_down 27 = .ok (.aload_n 0, 1) := by decide +kernel
theorem dX8_down_28 : decode cX8_down 28 = .ok (.getfield 10, 3) := by decide +kernel
theorem dX8_down_31 : decode cX8_down 31 = .ok (.getfield 208, 3) := by decide +kernel
theorem dX8_down_34 : decode cX8_down 34 = .ok (.iload_n 1, 1) := by decide +kernel
theorem dX8_down_35 : decode cX8_down 35 = .ok (.iconst 0, 1) := by decide +kernel
theorem dX8_down_36 : decode cX8_down 36 = .ok (.bastore, 1) := by decide +kernel
theorem dX8_down_37 : decode cX8_down 37 = .ok (.iload_n 2, 1) := by decide +kernel
theorem dX8_down_38 : decode cX8_down 38 = .ok (.ireturn, 1) := by decide +kernel
def f_X8_down (x1 : Int32) (M : Mem) : Option (Int32 × Mem) := if (f_X8_isDistrict x1) = 0 then some ((-1 : Int32), M) else gd (inR x1 4) (if (mI M 4 x1.toNatClampNeg) = 0 then some ((0 : Int32), (sI M 4 x1.toNatClampNeg (0 : Int32))) else some ((1 : Int32), (sI M 4 x1.toNatClampNeg (0 : Int32))))
set_option maxRecDepth 100000 in
set_option maxHeartbeats 4000000 in
theorem c_X8_down (Z : Sys) {M : Mem} (hs : St M) (x1 : Int32) {q : Int32 × Mem} (hf : f_X8_down x1 M = some q) : Ct Z yX8_down cX8_down 3 (some .int) rm_X8_down [.ref (zs Z + 0), .int x1] M False (PostI q.1 q.2) := by
  refine Ct.of (by decide +kernel) (Nat.le_of_ble_eq_true rfl) (fun X hR hq _ => ?_)
  show G Z X Y_X8_down False 0 0 0 [(0, .ref (zs Z + 0)), (1, .int x1)] [] M
  replace hq : RetOk Z X (some .int) False (PostI q.1 q.2) 0 0 := hq
  unfold f_X8_down at hf
  refine G.iload_n 0 1 dX8_down_0 rfl rfl ?_
  refine G.csZ 1 (As := [.int x1]) (c_X8_isDistrict Z hs x1 rfl) mk_X8_isDistrict wd_687 wd_686 hR (by decide +kernel) ⟨rfl, rfl⟩ rfl (Nat.le_of_ble_eq_true rfl) dX8_down_1 (fun hs1 z2 => ?_)
  refine G.if_ne 4 9 dX8_down_4 (by decide) (fun h3 => ?_) (fun h3 => ?_)
  · replace hf := (if_neg h3).symm.trans hf
    refine G.aload_n 9 0 dX8_down_9 rfl rfl ?_
    refine G.getp 10 ck_8 0 1 (hs1.k k0_0) (pc_8_0 hs1) (by decide) (by decide +kernel) wd_400 dX8_down_10 ?_
    refine G.getp 13 ck_0 3 4 (hs1.k k0_1) (pt_0_3 hs1 k0_1).1 (by decide) (by decide +kernel) wd_268 dX8_down_13 ?_
    refine G.iload_n 16 1 dX8_down_16 rfl rfl ?_
    obtain ⟨g4, hf⟩ := gd_e hf
    refine G.za 17 x1.toNatClampNeg (hs1.k k0_4) g4 rfl dX8_down_17 ?_
    refine G.if_eq 18 25 dX8_down_18 (by decide) (fun h5 => ?_) (fun h5 => ?_)
    · replace hf := (if_pos h5).symm.trans hf
      refine G.iconst 25 (0 : Int32) dX8_down_25 (by decide +kernel) ?_
      refine G.istore_n 26 [(2, .int (0 : Int32)), (0, .ref (zs Z + 0)), (1, .int x1)] dX8_down_26 rfl (Nat.le_of_ble_eq_true rfl) rfl ?_
      refine G.aload_n 27 1 dX8_down_27 rfl rfl ?_
      refine G.getp 28 ck_8 0 1 (hs1.k k0_0) (pc_8_0 hs1) (by decide) (by decide +kernel) wd_400 dX8_down_28 ?_
      refine G.getp 31 ck_0 3 4 (hs1.k k0_1) (pt_0_3 hs1 k0_1).1 (by decide) (by decide +kernel) wd_268 dX8_down_31 ?_
      refine G.iload_n 34 2 dX8_down_34 rfl rfl ?_
      refine G.iconst 35 (0 : Int32) dX8_down_35 (by decide +kernel) ?_
      refine G.zt 36 x1.toNatClampNeg (0 : Int32) (hs1.k k0_4) g4 rfl (by decide +kernel) dX8_down_36 ?_
      refine G.iload_n 37 0 dX8_down_37 rfl rfl ?_
      (have hf9 := Option.some.inj hf; subst hf9)
      exact G.rI 38 hq dX8_down_38 (St.i hs1)
    · replace hf := (if_neg h5).symm.trans hf
      refine G.iconst 21 (1 : Int32) dX8_down_21 (by decide +kernel) ?_
      refine G.goto 22 26 dX8_down_22 (by decide) ?_
      refine G.istore_n 26 [(2, .int (1 : Int32)), (0, .ref (zs Z + 0)), (1, .int x1)] dX8_down_26 rfl (Nat.le_of_ble_eq_true rfl) rfl ?_
      refine G.aload_n 27 1 dX8_down_27 rfl rfl ?_
      refine G.getp 28 ck_8 0 1 (hs1.k k0_0) (pc_8_0 hs1) (by decide) (by decide +kernel) wd_400 dX8_down_28 ?_
      refine G.getp 31 ck_0 3 4 (hs1.k k0_1) (pt_0_3 hs1 k0_1).1 (by decide) (by decide +kernel) wd_268 dX8_down_31 ?_
      refine G.iload_n 34 2 dX8_down_34 rfl rfl ?_
      refine G.iconst 35 (0 : Int32) dX8_down_35 (by decide +kernel) ?_
      refine G.zt 36 x1.toNatClampNeg (0 : Int32) (hs1.k k0_4) g4 rfl (by decide +kernel) dX8_down_36 ?_
      refine G.iload_n 37 0 dX8_down_37 rfl rfl ?_
      (have hf9 := Option.some.inj hf; subst hf9)
      exact G.rI 38 hq dX8_down_38 (St.i hs1)
  · replace hf := (if_pos h3).symm.trans hf
    refine G.iconst 7 (-1 : Int32) dX8_down_7 (by decide +kernel) ?_
    (have hf9 := Option.some.inj hf; subst hf9)
    exact G.rI 8 hq dX8_down_8 hs1
abbrev Y_X8_rowRefusal : My := (cX8_rowRefusal, RX8, 2)
def rm_X8_rowRefusal : Room := { frames := 4, cells := 0, slots := 0, locals := 264 }
theorem dX8_rowRefusal_0 : decode cX8_rowRefusal 0 = .ok (.aload_n 0, 1) := by decide +kernel
theorem dX8_rowRefusal_1 : decode cX8_rowRefusal 1 = .ok (.iload_n 1, 1) := by decide +kernel
theorem dX8_rowRefusal_2 : decode cX8_rowRefusal 2 = .ok (.iload_n 1, 1) := by decide +kernel
theorem dX8_rowRefusal_3 : decode cX8_rowRefusal 3 = .ok (.invokevirtual 128, 3) := by decide +kernel
theorem dX8_rowRefusal_6 : decode cX8_rowRefusal 6 = .ok (.ireturn, 1) := by decide +kernel
def f_X8_rowRefusal (x1 : Int32) (M : Mem) : Option Int32 := (f_X8_rowsRefusal x1 x1 M).bind fun q3 => some q3
set_option maxRecDepth 100000 in
set_option maxHeartbeats 4000000 in
theorem c_X8_rowRefusal (Z : Sys) {M : Mem} (hs : St M) (x1 : Int32) {q : Int32} (hf : f_X8_rowRefusal x1 M = some q) : Ct Z yX8_rowRefusal cX8_rowRefusal 2 (some .int) rm_X8_rowRefusal [.ref (zs Z + 0), .int x1] M False (PostI q M) := by
  refine Ct.of (by decide +kernel) (Nat.le_of_ble_eq_true rfl) (fun X hR hq _ => ?_)
  show G Z X Y_X8_rowRefusal False 0 0 0 [(0, .ref (zs Z + 0)), (1, .int x1)] [] M
  replace hq : RetOk Z X (some .int) False (PostI q M) 0 0 := hq
  unfold f_X8_rowRefusal at hf
  refine G.aload_n 0 0 dX8_rowRefusal_0 rfl rfl ?_
  refine G.iload_n 1 1 dX8_rowRefusal_1 rfl rfl ?_
  refine G.iload_n 2 1 dX8_rowRefusal_2 rfl rfl ?_
  obtain ⟨q3, e4, hf⟩ := bd_e hf
  refine G.cvI 3 (As := [.int x1, .int x1]) ck_8 (hs.k k0_0) (c_X8_rowsRefusal Z hs x1 x1 e4) mk_X8_rowsRefusal vk_X8_rowsRefusal rfl wd_517 hR (by decide +kernel) ⟨rfl, rfl⟩ rfl (Nat.le_of_ble_eq_true rfl) dX8_rowRefusal_3 (fun hs1 => ?_)
  (have hf9 := Option.some.inj hf; subst hf9)
  exact G.rI 6 hq dX8_rowRefusal_6 hs1
abbrev Y_X8_textRefusal : My := (cX8_textRefusal, RX8, 3)
def rm_X8_textRefusal : Room := { frames := 5, cells := 0, slots := 0, locals := 285 }
theorem dX8_textRefusal_0 : decode cX8_textRefusal 0 = .ok (.aload_n 0, 1) := by decide +kernel
theorem dX8_textRefusal_1 : decode cX8_textRefusal 1 = .ok (.iload_n 1, 1) := by decide +kernel
theorem dX8_textRefusal_2 : decode cX8_textRefusal 2 = .ok (.invokevirtual 318, 3) := by decide +kernel
theorem dX8_textRefusal_5 : decode cX8_textRefusal 5 = .ok (.istore_n 2, 1) := by decide +kernel
theorem dX8_textRefusal_6 : decode cX8_textRefusal 6 = .ok (.iload_n 2, 1) := by decide +kernel
theorem dX8_textRefusal_7 : decode cX8_textRefusal 7 = .ok (.ifCond .eq 5, 3) := by decide +kernel
theorem dX8_textRefusal_10 : decode cX8_textRefusal 10 = .ok (.iload_n 2, 1) := by decide +kernel
theorem dX8_textRefusal_11 : decode cX8_textRefusal 11 = .ok (.ireturn, 1) := by decide +kernel
theorem dX8_textRefusal_12 : decode cX8_textRefusal 12 = .ok (.aload_n 0, 1) := by decide +kernel
theorem dX8_textRefusal_13 : decode cX8_textRefusal 13 = .ok (.getfield 24, 3) := by decide +kernel
theorem dX8_textRefusal_16 : decode cX8_textRefusal 16 = .ok (.iload_n 1, 1) := by decide +kernel
theorem dX8_textRefusal_17 : decode cX8_textRefusal 17 = .ok (.aaload, 1) := by decide +kernel
theorem dX8_textRefusal_18 : decode cX8_textRefusal 18 = .ok (.getfield 366, 3) := by decide +kernel
theorem dX8_textRefusal_21 : decode cX8_textRefusal 21 = .ok (.ifCond .ne 7, 3) := by decide +kernel
theorem dX8_textRefusal_24 : decode cX8_textRefusal 24 = .ok (.iconst 0, 1) := by decide +kernel
theorem dX8_textRefusal_25 : decode cX8_textRefusal 25 = .ok (.goto 5, 3) := by decide +kernel
theorem dX8_textRefusal_28 : decode cX8_textRefusal 28 = .ok (.bipush (-12), 2) := by decide +kernel
theorem dX8_textRefusal_30 : decode cX8_textRefusal 30 = .ok (.ireturn, 1) := by decide +kernel
def f_X8_textRefusal (x1 : Int32) (M : Mem) : Option Int32 := (f_X8_rowRefusal x1 M).bind fun q3 => if q3 = 0 then gd (inR x1 8) (if (mI M (253 + 7 + 3 * x1.toNatClampNeg) 4) = 0 then some (0 : Int32) else some (-12 : Int32)) else some q3
set_option maxRecDepth 100000 in
set_option maxHeartbeats 4000000 in
theorem c_X8_textRefusal (Z : Sys) {M : Mem} (hs : St M) (x1 : Int32) {q : Int32} (hf : f_X8_textRefusal x1 M = some q) : Ct Z yX8_textRefusal cX8_textRefusal 3 (some .int) rm_X8_textRefusal [.ref (zs Z + 0), .int x1] M False (PostI q M) := by
  refine Ct.of (by decide +kernel) (Nat.le_of_ble_eq_true rfl) (fun X hR hq _ => ?_)
  show G Z X Y_X8_textRefusal False 0 0 0 [(0, .ref (zs Z + 0)), (1, .int x1)] [] M
  replace hq : RetOk Z X (some .int) False (PostI q M) 0 0 := hq
  unfold f_X8_textRefusal at hf
  refine G.aload_n 0 0 dX8_textRefusal_0 rfl rfl ?_
  refine G.iload_n 1 1 dX8_textRefusal_1 rfl rfl ?_
  obtain ⟨q3, e4, hf⟩ := bd_e hf
  refine G.cvI 2 (As := [.int x1]) ck_8 (hs.k k0_0) (c_X8_rowRefusal Z hs x1 e4) mk_X8_rowRefusal vk_X8_rowRefusal rfl wd_878 hR (by decide +kernel) ⟨rfl, rfl⟩ rfl (Nat.le_of_ble_eq_true rfl) dX8_textRefusal_2 (fun hs1 => ?_)
  refine G.istore_n 5 [(2, .int q3), (0, .ref (zs Z + 0)), (1, .int x1)] dX8_textRefusal_5 rfl (Nat.le_of_ble_eq_true rfl) rfl ?_
  refine G.iload_n 6 0 dX8_textRefusal_6 rfl rfl ?_
  refine G.if_eq 7 12 dX8_textRefusal_7 (by decide) (fun h5 => ?_) (fun h5 => ?_)
  · replace hf := (if_pos h5).symm.trans hf
    refine G.aload_n 12 1 dX8_textRefusal_12 rfl rfl ?_
    refine G.getp 13 ck_8 4 253 (hs1.k k0_0) (pc_8_4 hs1) (by decide) (by decide +kernel) wd_404 dX8_textRefusal_13 ?_
    refine G.iload_n 16 2 dX8_textRefusal_16 rfl rfl ?_
    obtain ⟨g6, hf⟩ := gd_e hf
    refine G.aa 17 x1.toNatClampNeg (253 + 7 + 3 * x1.toNatClampNeg) (hs1.k k0_253) (by decide) rfl rfl g6 rfl (pa_14 hs1 k0_253 (inlt g6)).1 dX8_textRefusal_17 ?_
    refine G.geti 18 ck_6 4 (hs1.k (pa_14 hs1 k0_253 (inlt g6)).2) (by decide) (by decide +kernel) wd_380 dX8_textRefusal_18 ?_
    refine G.if_ne 21 28 dX8_textRefusal_21 (by decide) (fun h7 => ?_) (fun h7 => ?_)
    · replace hf := (if_neg h7).symm.trans hf
      refine G.bipush 28 (-12 : Int32) dX8_textRefusal_28 (by decide +kernel) ?_
      (have hf9 := Option.some.inj hf; subst hf9)
      exact G.rI 30 hq dX8_textRefusal_30 hs1
    · replace hf := (if_pos h7).symm.trans hf
      refine G.iconst 24 (0 : Int32) dX8_textRefusal_24 (by decide +kernel) ?_
      refine G.goto 25 30 dX8_textRefusal_25 (by decide) ?_
      (have hf9 := Option.some.inj hf; subst hf9)
      exact G.rI 30 hq dX8_textRefusal_30 hs1
  · replace hf := (if_neg h5).symm.trans hf
    refine G.iload_n 10 0 dX8_textRefusal_10 rfl rfl ?_
    (have hf9 := Option.some.inj hf; subst hf9)
    exact G.rI 11 hq dX8_textRefusal_11 hs1
abbrev Y_X8_fault : My := (cX8_fault, RX8, 4)
def rm_X8_fault : Room := { frames := 10, cells := 0, slots := 0, locals := 397 }
theorem dX8_fault_0 : decode cX8_fault 0 = .ok (.aload_n 0, 1) := by decide +kernel
theorem dX8_fault_1 : decode cX8_fault 1 = .ok (.iload_n 1, 1) := by decide +kernel
theorem dX8_fault_2 : decode cX8_fault 2 = .ok (.invokevirtual 271, 3) := by decide +kernel
theorem dX8_fault_5 : decode cX8_fault 5 = .ok (.istore_n 2, 1) := by decide +kernel
theorem dX8_fault_6 : decode cX8_fault 6 = .ok (.iload_n 2, 1) := by decide +kernel
theorem dX8_fault_7 : decode cX8_fault 7 = .ok (.ifCond .eq 5, 3) := by decide +kernel
theorem dX8_fault_10 : decode cX8_fault 10 = .ok (.iload_n 2, 1) := by decide +kernel
theorem dX8_fault_11 : decode cX8_fault 11 = .ok (.ireturn, 1) := by decide +kernel
theorem dX8_fault_12 : decode cX8_fault 12 = .ok (.aload_n 0, 1) := by decide +kernel
theorem dX8_fault_13 : decode cX8_fault 13 = .ok (.getfield 45, 3) := by decide +kernel
theorem dX8_fault_16 : decode cX8_fault 16 = .ok (.aload_n 0, 1) := by decide +kernel
theorem dX8_fault_17 : decode cX8_fault 17 = .ok (.getfield 24, 3) := by decide +kernel
theorem dX8_fault_20 : decode cX8_fault 20 = .ok (.iload_n 1, 1) := by decide +kernel
theorem dX8_fault_21 : decode cX8_fault 21 = .ok (.aaload, 1) := by decide +kernel
theorem dX8_fault_22 : decode cX8_fault 22 = .ok (.getfield 139, 3) := by decide +kernel
theorem dX8_fault_25 : decode cX8_fault 25 = .ok (.aload_n 0, 1) := by decide +kernel
theorem dX8_fault_26 : decode cX8_fault 26 = .ok (.getfield 24, 3) := by decide +kernel
theorem dX8_fault_29 : decode cX8_fault 29 = .ok (.iload_n 1, 1) := by decide +kernel
theorem dX8_fault_30 : decode cX8_fault 30 = .ok (.aaload, 1) := by decide +kernel
theorem dX8_fault_31 : decode cX8_fault 31 = .ok (.getfield 274, 3) := by decide +kernel
theorem dX8_fault_34 : decode cX8_fault 34 = .ok (.invokevirtual 277, 3) := by decide +kernel
theorem dX8_fault_37 : decode cX8_fault 37 = .ok (.istore_n 3, 1) := by decide +kernel
theorem dX8_fault_38 : decode cX8_fault 38 = .ok (.iload_n 3, 1) := by decide +kernel
theorem dX8_fault_39 : decode cX8_fault 39 = .ok (.iconst (-1), 1) := by decide +kernel
theorem dX8_fault_40 : decode cX8_fault 40 = .ok (.if_icmp .ne 8, 3) := by decide +kernel
theorem dX8_fault_43 : decode cX8_fault 43 = .ok (.bipush (-4), 2) := by decide +kernel
theorem dX8_fault_45 : decode cX8_fault 45 = .ok (.goto 4, 3) := by decide +kernel
theorem dX8_fault_48 : decode cX8_fault 48 = .ok (.iload_n 3, 1) := by decide +kernel
theorem dX8_fault_49 : decode cX8_fault 49 = .ok (.ireturn, 1) := by decide +kernel
def f_X8_fault (x1 : Int32) (M : Mem) : Option (Int32 × Mem) := (f_X8_textRefusal x1 M).bind fun q3 => if q3 = 0 then gd (inR x1 8) ((f_X2_faultOf ((253 + 7 + 3 * x1.toNatClampNeg) + 2) (mI M (253 + 7 + 3 * x1.toNatClampNeg) 5) M).bind fun q9 => if q9.1 = (-1 : Int32) then some ((-4 : Int32), q9.2) else some (q9.1, q9.2)) else some (q3, M)
set_option maxRecDepth 100000 in
set_option maxHeartbeats 4000000 in
theorem c_X8_fault (Z : Sys) {M : Mem} (hs : St M) (x1 : Int32) {q : Int32 × Mem} (hf : f_X8_fault x1 M = some q) : Ct Z yX8_fault cX8_fault 4 (some .int) rm_X8_fault [.ref (zs Z + 0), .int x1] M False (PostI q.1 q.2) := by
  refine Ct.of (by decide +kernel) (Nat.le_of_ble_eq_true rfl) (fun X hR hq _ => ?_)
  show G Z X Y_X8_fault False 0 0 0 [(0, .ref (zs Z + 0)), (1, .int x1)] [] M
  replace hq : RetOk Z X (some .int) False (PostI q.1 q.2) 0 0 := hq
  unfold f_X8_fault at hf
  refine G.aload_n 0 0 dX8_fault_0 rfl rfl ?_
  refine G.iload_n 1 1 dX8_fault_1 rfl rfl ?_
  obtain ⟨q3, e4, hf⟩ := bd_e hf
  refine G.cvI 2 (As := [.int x1]) ck_8 (hs.k k0_0) (c_X8_textRefusal Z hs x1 e4) mk_X8_textRefusal vk_X8_textRefusal rfl wd_874 hR (by decide +kernel) ⟨rfl, rfl⟩ rfl (Nat.le_of_ble_eq_true rfl) dX8_fault_2 (fun hs1 => ?_)
  refine G.istore_n 5 [(2, .int q3), (0, .ref (zs Z + 0)), (1, .int x1)] dX8_fault_5 rfl (Nat.le_of_ble_eq_true rfl) rfl ?_
  refine G.iload_n 6 0 dX8_fault_6 rfl rfl ?_
  refine G.if_eq 7 12 dX8_fault_7 (by decide) (fun h5 => ?_) (fun h5 => ?_)
  · replace hf := (if_pos h5).symm.trans hf
    refine G.aload_n 12 1 dX8_fault_12 rfl rfl ?_
    refine G.getp 13 ck_8 7 259 (hs1.k k0_0) (pc_8_7 hs1) (by decide) (by decide +kernel) wd_407 dX8_fault_13 ?_
    refine G.aload_n 16 1 dX8_fault_16 rfl rfl ?_
    refine G.getp 17 ck_8 4 253 (hs1.k k0_0) (pc_8_4 hs1) (by decide) (by decide +kernel) wd_404 dX8_fault_17 ?_
    refine G.iload_n 20 2 dX8_fault_20 rfl rfl ?_
    obtain ⟨g6, hf⟩ := gd_e hf
    refine G.aa 21 x1.toNatClampNeg (253 + 7 + 3 * x1.toNatClampNeg) (hs1.k k0_253) (by decide) rfl rfl g6 rfl (pa_14 hs1 k0_253 (inlt g6)).1 dX8_fault_21 ?_
    refine G.getp 22 ck_6 6 ((253 + 7 + 3 * x1.toNatClampNeg) + 2) (hs1.k (pa_14 hs1 k0_253 (inlt g6)).2) (pt_6_6 hs1 (pa_14 hs1 k0_253 (inlt g6)).2).1 (by decide) (by decide +kernel) wd_384 dX8_fault_22 ?_
    refine G.aload_n 25 1 dX8_fault_25 rfl rfl ?_
    refine G.getp 26 ck_8 4 253 (hs1.k k0_0) (pc_8_4 hs1) (by decide) (by decide +kernel) wd_404 dX8_fault_26 ?_
    refine G.iload_n 29 2 dX8_fault_29 rfl rfl ?_
    refine G.aa 30 x1.toNatClampNeg (253 + 7 + 3 * x1.toNatClampNeg) (hs1.k k0_253) (by decide) rfl rfl g6 rfl (pa_14 hs1 k0_253 (inlt g6)).1 dX8_fault_30 ?_
    refine G.geti 31 ck_6 5 (hs1.k (pa_14 hs1 k0_253 (inlt g6)).2) (by decide) (by decide +kernel) wd_382 dX8_fault_31 ?_
    obtain ⟨q9, e10, hf⟩ := bd_e hf
    refine G.cvI 34 (As := [.ref (zs Z + ((253 + 7 + 3 * x1.toNatClampNeg) + 2)), .int (mI M (253 + 7 + 3 * x1.toNatClampNeg) 5)]) ck_2 (hs1.k k0_259) (c_X2_faultOf Z hs1 ((253 + 7 + 3 * x1.toNatClampNeg) + 2) (mI M (253 + 7 + 3 * x1.toNatClampNeg) 5) (ln_k (pt_6_6 hs1 (pa_14 hs1 k0_253 (inlt g6)).2).2) e10) mk_X2_faultOf vk_X2_faultOf rfl wd_882 hR (by decide +kernel) ⟨rfl, rfl⟩ rfl (Nat.le_of_ble_eq_true rfl) dX8_fault_34 (fun hs7 => ?_)
    refine G.istore_n 37 [(3, .int q9.1), (2, .int q3), (0, .ref (zs Z + 0)), (1, .int x1)] dX8_fault_37 rfl (Nat.le_of_ble_eq_true rfl) rfl ?_
    refine G.iload_n 38 0 dX8_fault_38 rfl rfl ?_
    refine G.iconst 39 (-1 : Int32) dX8_fault_39 (by decide +kernel) ?_
    refine G.icmp_ne 40 48 dX8_fault_40 (by decide) (fun h11 => ?_) (fun h11 => ?_)
    · replace hf := (if_neg h11).symm.trans hf
      refine G.iload_n 48 0 dX8_fault_48 rfl rfl ?_
      (have hf9 := Option.some.inj hf; subst hf9)
      exact G.rI 49 hq dX8_fault_49 hs7
    · replace hf := (if_pos h11).symm.trans hf
      refine G.bipush 43 (-4 : Int32) dX8_fault_43 (by decide +kernel) ?_
      refine G.goto 45 49 dX8_fault_45 (by decide) ?_
      (have hf9 := Option.some.inj hf; subst hf9)
      exact G.rI 49 hq dX8_fault_49 hs7
  · replace hf := (if_neg h5).symm.trans hf
    refine G.iload_n 10 0 dX8_fault_10 rfl rfl ?_
    (have hf9 := Option.some.inj hf; subst hf9)
    exact G.rI 11 hq dX8_fault_11 hs1
abbrev Y_X8_figures : My := (cX8_figures, RX8, 3)
def rm_X8_figures : Room := { frames := 4, cells := 0, slots := 0, locals := 269 }
theorem dX8_figures_0 : decode cX8_figures 0 = .ok (.iload_n 1, 1) := by decide +kernel
theorem dX8_figures_1 : decode cX8_figures 1 = .ok (.iconst 0, 1) := by decide +kernel
theorem dX8_figures_2 : decode cX8_figures 2 = .ok (.bipush 9, 2) := by decide +kernel
theorem dX8_figures_4 : decode cX8_figures 4 = .ok (.invokestatic 50, 3) := by decide +kernel
theorem dX8_figures_7 : decode cX8_figures 7 = .ok (.ifCond .eq 12, 3) := by decide +kernel
theorem dX8_figures_10 : decode cX8_figures 10 = .ok (.iload_n 2, 1) := by decide +kernel
theorem dX8_figures_11 : decode cX8_figures 11 = .ok (.iconst 0, 1) := by decide +kernel
theorem dX8_figures_12 : decode cX8_figures 12 = .ok (.iconst 1, 1) := by decide +kernel
theorem dX8_figures_13 : decode cX8_figures 13 = .ok (.invokestatic 50, 3) := by decide +kernel
theorem dX8_figures_16 : decode cX8_figures 16 = .ok (.ifCond .ne 5, 3) := by decide +kernel
theorem dX8_figures_19 : decode cX8_figures 19 = .ok (.iconst (-1), 1) := by decide +kernel
theorem dX8_figures_20 : decode cX8_figures 20 = .ok (.ireturn, 1) := by decide +kernel
theorem dX8_figures_21 : decode cX8_figures 21 = .ok (.aload_n 0, 1) := by decide +kernel
theorem dX8_figures_22 : decode cX8_figures 22 = .ok (.getfield 10, 3) := by decide +kernel
theorem dX8_figures_25 : decode cX8_figures 25 = .ok (.iload_n 1, 1) := by decide +kernel
theorem dX8_figures_26 : decode cX8_figures 26 = .ok (.iload_n 2, 1) := by decide +kernel
theorem dX8_figures_27 : decode cX8_figures 27 = .ok (.iconst 1, 1) := by decide +kernel
theorem dX8_figures_28 : decode cX8_figures 28 = .ok (.if_icmp .ne 7, 3) := by decide +kernel
theorem dX8_figures_31 : decode cX8_figures 31 = .ok (.iconst 1, 1) := by decide +kernel
theorem dX8_figures_32 : decode cX8_figures 32 = .ok (.goto 4, 3) := by decide +kernel
theorem dX8_figures_35 : decode cX8_figures 35 = .ok (.iconst 0, 1) := by decide +kernel
theorem dX8_figures_36 : decode cX8_figures 36 = .ok (.invokevirtual 145, 3) := by decide +kernel
theorem dX8_figures_39 : decode cX8_figures 39 = .ok (.ireturn, 1) := by decide +kernel
def f_X8_figures (x1 : Int32) (x2 : Int32) (M : Mem) : Option (Int32 × Mem) := if (f_X8_within x1 (0 : Int32) (9 : Int32)) = 0 then some ((-1 : Int32), M) else if (f_X8_within x2 (0 : Int32) (1 : Int32)) = 0 then some ((-1 : Int32), M) else if x2 = (1 : Int32) then (f_X0_figureCount 1 x1 (1 : Int32) M).bind fun q14 => some (q14.1, q14.2) else (f_X0_figureCount 1 x1 (0 : Int32) M).bind fun q10 => some (q10.1, q10.2)
set_option maxRecDepth 100000 in
set_option maxHeartbeats 4000000 in
theorem c_X8_figures (Z : Sys) {M : Mem} (hs : St M) (x1 : Int32) (x2 : Int32) {q : Int32 × Mem} (hf : f_X8_figures x1 x2 M = some q) : Ct Z yX8_figures cX8_figures 3 (some .int) rm_X8_figures [.ref (zs Z + 0), .int x1, .int x2] M False (PostI q.1 q.2) := by
  refine Ct.of (by decide +kernel) (Nat.le_of_ble_eq_true rfl) (fun X hR hq _ => ?_)
  show G Z X Y_X8_figures False 0 0 0 [(0, .ref (zs Z + 0)), (1, .int x1), (2, .int x2)] [] M
  replace hq : RetOk Z X (some .int) False (PostI q.1 q.2) 0 0 := hq
  unfold f_X8_figures at hf
  refine G.iload_n 0 1 dX8_figures_0 rfl rfl ?_
  refine G.iconst 1 (0 : Int32) dX8_figures_1 (by decide +kernel) ?_
  refine G.bipush 2 (9 : Int32) dX8_figures_2 (by decide +kernel) ?_
  refine G.csZ 4 (As := [.int x1, .int (0 : Int32), .int (9 : Int32)]) (c_X8_within Z hs x1 (0 : Int32) (9 : Int32) rfl) mk_X8_within wd_430 wd_429 hR (by decide +kernel) ⟨rfl, rfl⟩ rfl (Nat.le_of_ble_eq_true rfl) dX8_figures_4 (fun hs1 z2 => ?_)
  refine G.if_eq 7 19 dX8_figures_7 (by decide) (fun h3 => ?_) (fun h3 => ?_)
  · replace hf := (if_pos h3).symm.trans hf
    refine G.iconst 19 (-1 : Int32) dX8_figures_19 (by decide +kernel) ?_
    (have hf9 := Option.some.inj hf; subst hf9)
    exact G.rI 20 hq dX8_figures_20 hs1
  · replace hf := (if_neg h3).symm.trans hf
    refine G.iload_n 10 2 dX8_figures_10 rfl rfl ?_
    refine G.iconst 11 (0 : Int32) dX8_figures_11 (by decide +kernel) ?_
    refine G.iconst 12 (1 : Int32) dX8_figures_12 (by decide +kernel) ?_
    refine G.csZ 13 (As := [.int x2, .int (0 : Int32), .int (1 : Int32)]) (c_X8_within Z hs1 x2 (0 : Int32) (1 : Int32) rfl) mk_X8_within wd_430 wd_429 hR (by decide +kernel) ⟨rfl, rfl⟩ rfl (Nat.le_of_ble_eq_true rfl) dX8_figures_13 (fun hs4 z5 => ?_)
    refine G.if_ne 16 21 dX8_figures_16 (by decide) (fun h6 => ?_) (fun h6 => ?_)
    · replace hf := (if_neg h6).symm.trans hf
      refine G.aload_n 21 0 dX8_figures_21 rfl rfl ?_
      refine G.getp 22 ck_8 0 1 (hs4.k k0_0) (pc_8_0 hs4) (by decide) (by decide +kernel) wd_400 dX8_figures_22 ?_
      refine G.iload_n 25 1 dX8_figures_25 rfl rfl ?_
      refine G.iload_n 26 2 dX8_figures_26 rfl rfl ?_
      refine G.iconst 27 (1 : Int32) dX8_figures_27 (by decide +kernel) ?_
      refine G.icmp_ne 28 35 dX8_figures_28 (by decide) (fun h7 => ?_) (fun h7 => ?_)
      · replace hf := (if_neg h7).symm.trans hf
        refine G.iconst 35 (0 : Int32) dX8_figures_35 (by decide +kernel) ?_
        obtain ⟨q10, e11, hf⟩ := bd_e hf
        refine G.cvI 36 (As := [.int x1, .int (0 : Int32)]) ck_0 (hs4.k k0_1) (c_X0_figureCount Z hs4 1 x1 (0 : Int32) k0_1 e11) mk_X0_figureCount vk_X0_figureCount rfl wd_552 hR (by decide +kernel) ⟨rfl, rfl⟩ rfl (Nat.le_of_ble_eq_true rfl) dX8_figures_36 (fun hs8 => ?_)
        (have hf9 := Option.some.inj hf; subst hf9)
        exact G.rI 39 hq dX8_figures_39 hs8
      · replace hf := (if_pos h7).symm.trans hf
        refine G.iconst 31 (1 : Int32) dX8_figures_31 (by decide +kernel) ?_
        refine G.goto 32 36 dX8_figures_32 (by decide) ?_
        obtain ⟨q14, e15, hf⟩ := bd_e hf
        refine G.cvI 36 (As := [.int x1, .int (1 : Int32)]) ck_0 (hs4.k k0_1) (c_X0_figureCount Z hs4 1 x1 (1 : Int32) k0_1 e15) mk_X0_figureCount vk_X0_figureCount rfl wd_552 hR (by decide +kernel) ⟨rfl, rfl⟩ rfl (Nat.le_of_ble_eq_true rfl) dX8_figures_36 (fun hs12 => ?_)
        (have hf9 := Option.some.inj hf; subst hf9)
        exact G.rI 39 hq dX8_figures_39 hs12
    · replace hf := (if_pos h6).symm.trans hf
      refine G.iconst 19 (-1 : Int32) dX8_figures_19 (by decide +kernel) ?_
      (have hf9 := Option.some.inj hf; subst hf9)
      exact G.rI 20 hq dX8_figures_20 hs4
abbrev Y_X8_hall : My := (cX8_hall, RX8, 4)
def rm_X8_hall : Room := { frames := 3, cells := 0, slots := 0, locals := 246 }
theorem dX8_hall_0 : decode cX8_hall 0 = .ok (.iload_n 1, 1) := by decide +kernel
theorem dX8_hall_1 : decode cX8_hall 1 = .ok (.iconst 1, 1) := by decide +kernel
theorem dX8_hall_2 : decode cX8_hall 2 = .ok (.sipush 999, 3) := by decide +kernel
theorem dX8_hall_5 : decode cX8_hall 5 = .ok (.invokestatic 50, 3) := by decide +kernel
theorem dX8_hall_8 : decode cX8_hall 8 = .ok (.ifCond .eq 24, 3) := by decide +kernel
theorem dX8_hall_11 : decode cX8_hall 11 = .ok (.iload_n 2, 1) := by decide +kernel
theorem dX8_hall_12 : decode cX8_hall 12 = .ok (.iconst 0, 1) := by decide +kernel
theorem dX8_hall_13 : decode cX8_hall 13 = .ok (.sipush 1999, 3) := by decide +kernel
theorem dX8_hall_16 : decode cX8_hall 16 = .ok (.invokestatic 50, 3) := by decide +kernel
theorem dX8_hall_19 : decode cX8_hall 19 = .ok (.ifCond .eq 13, 3) := by decide +kernel
theorem dX8_hall_22 : decode cX8_hall 22 = .ok (.iload_n 3, 1) := by decide +kernel
theorem dX8_hall_23 : decode cX8_hall 23 = .ok (.iconst 0, 1) := by decide +kernel
theorem dX8_hall_24 : decode cX8_hall 24 = .ok (.bipush 100, 2) := by decide +kernel
theorem dX8_hall_26 : decode cX8_hall 26 = .ok (.invokestatic 50, 3) := by decide +kernel
theorem dX8_hall_29 : decode cX8_hall 29 = .ok (.ifCond .ne 5, 3) := by decide +kernel
theorem dX8_hall_32 : decode cX8_hall 32 = .ok (.iconst (-1), 1) := by decide +kernel
theorem dX8_hall_33 : decode cX8_hall 33 = .ok (.ireturn, 1) := by decide +kernel
theorem dX8_hall_34 : decode cX8_hall 34 = .ok (.iload_n 2, 1) := by decide +kernel
theorem dX8_hall_35 : decode cX8_hall 35 = .ok (.bipush 100, 2) := by decide +kernel
theorem dX8_hall_37 : decode cX8_hall 37 = .ok (.idiv, 1) := by decide +kernel
theorem dX8_hall_38 : decode cX8_hall 38 = .ok (.bipush 10, 2) := by decide +kernel
theorem dX8_hall_40 : decode cX8_hall 40 = .ok (.irem, 1) := by decide +kernel
theorem dX8_hall_41 : decode cX8_hall 41 = .ok (.bipush 6, 2) := by decide +kernel
theorem dX8_hall_43 : decode cX8_hall 43 = .ok (.if_icmp .ge 21, 3) := by decide +kernel
theorem dX8_hall_46 : decode cX8_hall 46 = .ok (.iload_n 2, 1) := by decide +kernel
theorem dX8_hall_47 : decode cX8_hall 47 = .ok (.bipush 10, 2) := by decide +kernel
theorem dX8_hall_49 : decode cX8_hall 49 = .ok (.idiv, 1) := by decide +kernel
theorem dX8_hall_50 : decode cX8_hall 50 = .ok (.bipush 10, 2) := by decide +kernel
theorem dX8_hall_52 : decode cX8_hall 52 = .ok (.irem, 1) := by decide +kernel
theorem dX8_hall_53 : decode cX8_hall 53 = .ok (.iconst 4, 1) := by decide +kernel
theorem dX8_hall_54 : decode cX8_hall 54 = .ok (.if_icmp .ge 10, 3) := by decide +kernel
theorem dX8_hall_57 : decode cX8_hall 57 = .ok (.iload_n 2, 1) := by decide +kernel
theorem dX8_hall_58 : decode cX8_hall 58 = .ok (.bipush 10, 2) := by decide +kernel
theorem dX8_hall_60 : decode cX8_hall 60 = .ok (.irem, 1) := by decide +kernel
theorem dX8_hall_61 : decode cX8_hall 61 = .ok (.ifCond .eq 5, 3) := by decide +kernel
theorem dX8_hall_64 : decode cX8_hall 64 = .ok (.iconst (-1), 1) := by decide +kernel
theorem dX8_hall_65 : decode cX8_hall 65 = .ok (.ireturn, 1) := by decide +kernel
theorem dX8_hall_66 : decode cX8_hall 66 = .ok (.aload_n 0, 1) := by decide +kernel
theorem dX8_hall_67 : decode cX8_hall 67 = .ok (.getfield 10, 3) := by decide +kernel
theorem dX8_hall_70 : decode cX8_hall 70 = .ok (.iload_n 1, 1) := by decide +kernel
theorem dX8_hall_71 : decode cX8_hall 71 = .ok (.iload_n 2, 1) := by decide +kernel
theorem dX8_hall_72 : decode cX8_hall 72 = .ok (.iload_n 3, 1) := by decide +kernel
theorem dX8_hall_73 : decode cX8_hall 73 = .ok (.invokevirtual 54, 3) := by decide +kernel
theorem dX8_hall_76 : decode cX8_hall 76 = .ok (.ireturn, 1) := by decide +kernel
def f_X8_hall (x1 : Int32) (x2 : Int32) (x3 : Int32) (M : Mem) : Option (Int32 × Mem) := if (f_X8_within x1 (1 : Int32) (999 : Int32)) = 0 then some ((-1 : Int32), M) else if (f_X8_within x2 (0 : Int32) (1999 : Int32)) = 0 then some ((-1 : Int32), M) else if (f_X8_within x3 (0 : Int32) (100 : Int32)) = 0 then some ((-1 : Int32), M) else if (6 : Int32) ≤ (jrem (x2 / (100 : Int32)) (10 : Int32)) then some ((-1 : Int32), M) else if (4 : Int32) ≤ (jrem (x2 / (10 : Int32)) (10 : Int32)) then some ((-1 : Int32), M) else if (jrem x2 (10 : Int32)) = 0 then (f_X0_addHall 1 x1 x2 x3 M).bind fun q15 => some (q15.1, q15.2) else some ((-1 : Int32), M)
set_option maxRecDepth 100000 in
set_option maxHeartbeats 4000000 in
theorem c_X8_hall (Z : Sys) {M : Mem} (hs : St M) (x1 : Int32) (x2 : Int32) (x3 : Int32) {q : Int32 × Mem} (hf : f_X8_hall x1 x2 x3 M = some q) : Ct Z yX8_hall cX8_hall 4 (some .int) rm_X8_hall [.ref (zs Z + 0), .int x1, .int x2, .int x3] M False (PostI q.1 q.2) := by
  refine Ct.of (by decide +kernel) (Nat.le_of_ble_eq_true rfl) (fun X hR hq _ => ?_)
  show G Z X Y_X8_hall False 0 0 0 [(0, .ref (zs Z + 0)), (1, .int x1), (2, .int x2), (3, .int x3)] [] M
  replace hq : RetOk Z X (some .int) False (PostI q.1 q.2) 0 0 := hq
  unfold f_X8_hall at hf
  refine G.iload_n 0 1 dX8_hall_0 rfl rfl ?_
  refine G.iconst 1 (1 : Int32) dX8_hall_1 (by decide +kernel) ?_
  refine G.sipush 2 (999 : Int32) dX8_hall_2 (by decide +kernel) ?_
  refine G.csZ 5 (As := [.int x1, .int (1 : Int32), .int (999 : Int32)]) (c_X8_within Z hs x1 (1 : Int32) (999 : Int32) rfl) mk_X8_within wd_430 wd_429 hR (by decide +kernel) ⟨rfl, rfl⟩ rfl (Nat.le_of_ble_eq_true rfl) dX8_hall_5 (fun hs1 z2 => ?_)
  refine G.if_eq 8 32 dX8_hall_8 (by decide) (fun h3 => ?_) (fun h3 => ?_)
  · replace hf := (if_pos h3).symm.trans hf
    refine G.iconst 32 (-1 : Int32) dX8_hall_32 (by decide +kernel) ?_
    (have hf9 := Option.some.inj hf; subst hf9)
    exact G.rI 33 hq dX8_hall_33 hs1
  · replace hf := (if_neg h3).symm.trans hf
    refine G.iload_n 11 2 dX8_hall_11 rfl rfl ?_
    refine G.iconst 12 (0 : Int32) dX8_hall_12 (by decide +kernel) ?_
    refine G.sipush 13 (1999 : Int32) dX8_hall_13 (by decide +kernel) ?_
    refine G.csZ 16 (As := [.int x2, .int (0 : Int32), .int (1999 : Int32)]) (c_X8_within Z hs1 x2 (0 : Int32) (1999 : Int32) rfl) mk_X8_within wd_430 wd_429 hR (by decide +kernel) ⟨rfl, rfl⟩ rfl (Nat.le_of_ble_eq_true rfl) dX8_hall_16 (fun hs4 z5 => ?_)
    refine G.if_eq 19 32 dX8_hall_19 (by decide) (fun h6 => ?_) (fun h6 => ?_)
    · replace hf := (if_pos h6).symm.trans hf
      refine G.iconst 32 (-1 : Int32) dX8_hall_32 (by decide +kernel) ?_
      (have hf9 := Option.some.inj hf; subst hf9)
      exact G.rI 33 hq dX8_hall_33 hs4
    · replace hf := (if_neg h6).symm.trans hf
      refine G.iload_n 22 3 dX8_hall_22 rfl rfl ?_
      refine G.iconst 23 (0 : Int32) dX8_hall_23 (by decide +kernel) ?_
      refine G.bipush 24 (100 : Int32) dX8_hall_24 (by decide +kernel) ?_
      refine G.csZ 26 (As := [.int x3, .int (0 : Int32), .int (100 : Int32)]) (c_X8_within Z hs4 x3 (0 : Int32) (100 : Int32) rfl) mk_X8_within wd_430 wd_429 hR (by decide +kernel) ⟨rfl, rfl⟩ rfl (Nat.le_of_ble_eq_true rfl) dX8_hall_26 (fun hs7 z8 => ?_)
      refine G.if_ne 29 34 dX8_hall_29 (by decide) (fun h9 => ?_) (fun h9 => ?_)
      · replace hf := (if_neg h9).symm.trans hf
        refine G.iload_n 34 2 dX8_hall_34 rfl rfl ?_
        refine G.bipush 35 (100 : Int32) dX8_hall_35 (by decide +kernel) ?_
        refine G.idiv 37 dX8_hall_37 (by decide +kernel) ?_
        refine G.bipush 38 (10 : Int32) dX8_hall_38 (by decide +kernel) ?_
        refine G.iremJ 40 dX8_hall_40 (by decide +kernel) ?_
        refine G.bipush 41 (6 : Int32) dX8_hall_41 (by decide +kernel) ?_
        refine G.icmp_ge 43 64 dX8_hall_43 (by decide) (fun h10 => ?_) (fun h10 => ?_)
        · replace hf := (if_pos h10).symm.trans hf
          refine G.iconst 64 (-1 : Int32) dX8_hall_64 (by decide +kernel) ?_
          (have hf9 := Option.some.inj hf; subst hf9)
          exact G.rI 65 hq dX8_hall_65 hs7
        · replace hf := (if_neg h10).symm.trans hf
          refine G.iload_n 46 2 dX8_hall_46 rfl rfl ?_
          refine G.bipush 47 (10 : Int32) dX8_hall_47 (by decide +kernel) ?_
          refine G.idiv 49 dX8_hall_49 (by decide +kernel) ?_
          refine G.bipush 50 (10 : Int32) dX8_hall_50 (by decide +kernel) ?_
          refine G.iremJ 52 dX8_hall_52 (by decide +kernel) ?_
          refine G.iconst 53 (4 : Int32) dX8_hall_53 (by decide +kernel) ?_
          refine G.icmp_ge 54 64 dX8_hall_54 (by decide) (fun h11 => ?_) (fun h11 => ?_)
          · replace hf := (if_pos h11).symm.trans hf
            refine G.iconst 64 (-1 : Int32) dX8_hall_64 (by decide +kernel) ?_
            (have hf9 := Option.some.inj hf; subst hf9)
            exact G.rI 65 hq dX8_hall_65 hs7
          · replace hf := (if_neg h11).symm.trans hf
            refine G.iload_n 57 2 dX8_hall_57 rfl rfl ?_
            refine G.bipush 58 (10 : Int32) dX8_hall_58 (by decide +kernel) ?_
            refine G.iremJ 60 dX8_hall_60 (by decide +kernel) ?_
            refine G.if_eq 61 66 dX8_hall_61 (by decide) (fun h12 => ?_) (fun h12 => ?_)
            · replace hf := (if_pos h12).symm.trans hf
              refine G.aload_n 66 0 dX8_hall_66 rfl rfl ?_
              refine G.getp 67 ck_8 0 1 (hs7.k k0_0) (pc_8_0 hs7) (by decide) (by decide +kernel) wd_400 dX8_hall_67 ?_
              refine G.iload_n 70 1 dX8_hall_70 rfl rfl ?_
              refine G.iload_n 71 2 dX8_hall_71 rfl rfl ?_
              refine G.iload_n 72 3 dX8_hall_72 rfl rfl ?_
              obtain ⟨q15, e16, hf⟩ := bd_e hf
              refine G.cvI 73 (As := [.int x1, .int x2, .int x3]) ck_0 (hs7.k k0_1) (c_X0_addHall Z hs7 1 x1 x2 x3 k0_1 e16) mk_X0_addHall vk_X0_addHall rfl wd_432 hR (by decide +kernel) ⟨rfl, rfl⟩ rfl (Nat.le_of_ble_eq_true rfl) dX8_hall_73 (fun hs13 => ?_)
              (have hf9 := Option.some.inj hf; subst hf9)
              exact G.rI 76 hq dX8_hall_76 hs13
            · replace hf := (if_neg h12).symm.trans hf
              refine G.iconst 64 (-1 : Int32) dX8_hall_64 (by decide +kernel) ?_
              (have hf9 := Option.some.inj hf; subst hf9)
              exact G.rI 65 hq dX8_hall_65 hs7
      · replace hf := (if_pos h9).symm.trans hf
        refine G.iconst 32 (-1 : Int32) dX8_hall_32 (by decide +kernel) ?_
        (have hf9 := Option.some.inj hf; subst hf9)
        exact G.rI 33 hq dX8_hall_33 hs7
abbrev Y_X8_hearOne : My := (cX8_hearOne, RX8, 5)
def rm_X8_hearOne : Room := { frames := 4, cells := 0, slots := 0, locals := 264 }
theorem dX8_hearOne_0 : decode cX8_hearOne 0 = .ok (.aload_n 1, 1) := by decide +kernel
theorem dX8_hearOne_1 : decode cX8_hearOne 1 = .ok (.iload_n 3, 1) := by decide +kernel
theorem dX8_hearOne_2 : decode cX8_hearOne 2 = .ok (.invokevirtual 136, 3) := by decide +kernel
theorem dX8_hearOne_5 : decode cX8_hearOne 5 = .ok (.ifCond .eq 47, 3) := by decide +kernel
theorem dX8_hearOne_8 : decode cX8_hearOne 8 = .ok (.aload_n 2, 1) := by decide +kernel
theorem dX8_hearOne_9 : decode cX8_hearOne 9 = .ok (.iload_n 3, 1) := by decide +kernel
theorem dX8_hearOne_10 : decode cX8_hearOne 10 = .ok (.invokevirtual 136, 3) := by decide +kernel
theorem dX8_hearOne_13 : decode cX8_hearOne 13 = .ok (.ifCond .eq 39, 3) := by decide +kernel
theorem dX8_hearOne_16 : decode cX8_hearOne 16 = .ok (.aload_n 1, 1) := by decide +kernel
theorem dX8_hearOne_17 : decode cX8_hearOne 17 = .ok (.getfield 139, 3) := by decide +kernel
theorem dX8_hearOne_20 : decode cX8_hearOne 20 = .ok (.iload_n 3, 1) := by decide +kernel
theorem dX8_hearOne_21 : decode cX8_hearOne 21 = .ok (.iaload, 1) := by decide +kernel
theorem dX8_hearOne_22 : decode cX8_hearOne 22 = .ok (.iconst 0, 1) := by decide +kernel
theorem dX8_hearOne_23 : decode cX8_hearOne 23 = .ok (.sipush 9999, 3) := by decide +kernel
theorem dX8_hearOne_26 : decode cX8_hearOne 26 = .ok (.invokestatic 142, 3) := by decide +kernel
theorem dX8_hearOne_29 : decode cX8_hearOne 29 = .ok (.istore 4, 2) := by decide +kernel
theorem dX8_hearOne_31 : decode cX8_hearOne 31 = .ok (.aload_n 0, 1) := by decide +kernel
theorem dX8_hearOne_32 : decode cX8_hearOne 32 = .ok (.iload 4, 2) := by decide +kernel
theorem dX8_hearOne_34 : decode cX8_hearOne 34 = .ok (.aload_n 2, 1) := by decide +kernel
theorem dX8_hearOne_35 : decode cX8_hearOne 35 = .ok (.getfield 139, 3) := by decide +kernel
theorem dX8_hearOne_38 : decode cX8_hearOne 38 = .ok (.iload_n 3, 1) := by decide +kernel
theorem dX8_hearOne_39 : decode cX8_hearOne 39 = .ok (.iaload, 1) := by decide +kernel
theorem dX8_hearOne_40 : decode cX8_hearOne 40 = .ok (.iconst 0, 1) := by decide +kernel
theorem dX8_hearOne_41 : decode cX8_hearOne 41 = .ok (.iload 4, 2) := by decide +kernel
theorem dX8_hearOne_43 : decode cX8_hearOne 43 = .ok (.invokestatic 142, 3) := by decide +kernel
theorem dX8_hearOne_46 : decode cX8_hearOne 46 = .ok (.invokevirtual 121, 3) := by decide +kernel
theorem dX8_hearOne_49 : decode cX8_hearOne 49 = .ok (.goto 8, 3) := by decide +kernel
theorem dX8_hearOne_52 : decode cX8_hearOne 52 = .ok (.aload_n 0, 1) := by decide +kernel
theorem dX8_hearOne_53 : decode cX8_hearOne 53 = .ok (.iconst 1, 1) := by decide +kernel
theorem dX8_hearOne_54 : decode cX8_hearOne 54 = .ok (.putfield 105, 3) := by decide +kernel
theorem dX8_hearOne_57 : decode cX8_hearOne 57 = .ok (.return_, 1) := by decide +kernel
def f_X8_hearOne (a0 : Nat) (a1 : Nat) (a2 : Nat) (x3 : Int32) (M : Mem) : Option Mem := (f_X6_tellsNumber a1 x3 M).bind fun q3 => if q3 = 0 then some (sI M a0 9 (1 : Int32)) else (f_X6_tellsNumber a2 x3 M).bind fun q8 => if q8 = 0 then some (sI M a0 9 (1 : Int32)) else gd (inR x3 80) ((f_X1_write a0 (f_X8_heldTo (mI M (a1 + 2) x3.toNatClampNeg) (0 : Int32) (9999 : Int32)) (f_X8_heldTo (mI M (a2 + 2) x3.toNatClampNeg) (0 : Int32) (f_X8_heldTo (mI M (a1 + 2) x3.toNatClampNeg) (0 : Int32) (9999 : Int32))) M).bind fun q18 => some q18)
set_option maxRecDepth 100000 in
set_option maxHeartbeats 4000000 in
theorem c_X8_hearOne (Z : Sys) {M : Mem} (hs : St M) (a0 : Nat) (a1 : Nat) (a2 : Nat) (x3 : Int32) (k_a0 : K0[a0]? = some (1, 12)) (k_a1 : K0[a1]? = some (6, 7)) (k_a2 : K0[a2]? = some (6, 7)) {q : Mem} (hf : f_X8_hearOne a0 a1 a2 x3 M = some q) : Ct Z yX8_hearOne cX8_hearOne 5 none rm_X8_hearOne [.ref (zs Z + a0), .ref (zs Z + a1), .ref (zs Z + a2), .int x3] M False (PostV q) := by
  refine Ct.of (by decide +kernel) (Nat.le_of_ble_eq_true rfl) (fun X hR hq _ => ?_)
  show G Z X Y_X8_hearOne False 0 0 0 [(0, .ref (zs Z + a0)), (1, .ref (zs Z + a1)), (2, .ref (zs Z + a2)), (3, .int x3)] [] M
  replace hq : RetOk Z X none False (PostV q) 0 0 := hq
  unfold f_X8_hearOne at hf
  refine G.aload_n 0 1 dX8_hearOne_0 rfl rfl ?_
  refine G.iload_n 1 3 dX8_hearOne_1 rfl rfl ?_
  obtain ⟨q3, e4, hf⟩ := bd_e hf
  refine G.cvZ 2 (As := [.int x3]) ck_6 (hs.k k_a1) (c_X6_tellsNumber Z hs a1 x3 k_a1 e4) mk_X6_tellsNumber vk_X6_tellsNumber rfl wd_527 hR (by decide +kernel) ⟨rfl, rfl⟩ rfl (Nat.le_of_ble_eq_true rfl) dX8_hearOne_2 (fun hs1 z2 => ?_)
  refine G.if_eq 5 52 dX8_hearOne_5 (by decide) (fun h5 => ?_) (fun h5 => ?_)
  · replace hf := (if_pos h5).symm.trans hf
    refine G.aload_n 52 0 dX8_hearOne_52 rfl rfl ?_
    refine G.iconst 53 (1 : Int32) dX8_hearOne_53 (by decide +kernel) ?_
    refine G.puti 54 ck_1 9 (hs1.k k_a0) (by decide) (by decide +kernel) rfl wd_221 rfl rfl dX8_hearOne_54 ?_
    (have hf9 := Option.some.inj hf; subst hf9)
    exact G.rV 57 hq dX8_hearOne_57 (St.i hs1)
  · replace hf := (if_neg h5).symm.trans hf
    refine G.aload_n 8 2 dX8_hearOne_8 rfl rfl ?_
    refine G.iload_n 9 3 dX8_hearOne_9 rfl rfl ?_
    obtain ⟨q8, e9, hf⟩ := bd_e hf
    refine G.cvZ 10 (As := [.int x3]) ck_6 (hs1.k k_a2) (c_X6_tellsNumber Z hs1 a2 x3 k_a2 e9) mk_X6_tellsNumber vk_X6_tellsNumber rfl wd_527 hR (by decide +kernel) ⟨rfl, rfl⟩ rfl (Nat.le_of_ble_eq_true rfl) dX8_hearOne_10 (fun hs6 z7 => ?_)
    refine G.if_eq 13 52 dX8_hearOne_13 (by decide) (fun h10 => ?_) (fun h10 => ?_)
    · replace hf := (if_pos h10).symm.trans hf
      refine G.aload_n 52 0 dX8_hearOne_52 rfl rfl ?_
      refine G.iconst 53 (1 : Int32) dX8_hearOne_53 (by decide +kernel) ?_
      refine G.puti 54 ck_1 9 (hs6.k k_a0) (by decide) (by decide +kernel) rfl wd_221 rfl rfl dX8_hearOne_54 ?_
      (have hf9 := Option.some.inj hf; subst hf9)
      exact G.rV 57 hq dX8_hearOne_57 (St.i hs6)
    · replace hf := (if_neg h10).symm.trans hf
      refine G.aload_n 16 1 dX8_hearOne_16 rfl rfl ?_
      refine G.getp 17 ck_6 6 (a1 + 2) (hs6.k k_a1) (pt_6_6 hs6 k_a1).1 (by decide) (by decide +kernel) wd_384 dX8_hearOne_17 ?_
      refine G.iload_n 20 3 dX8_hearOne_20 rfl rfl ?_
      obtain ⟨g11, hf⟩ := gd_e hf
      refine G.ia 21 x3.toNatClampNeg (hs6.k (pt_6_6 hs6 k_a1).2) g11 rfl dX8_hearOne_21 ?_
      refine G.iconst 22 (0 : Int32) dX8_hearOne_22 (by decide +kernel) ?_
      refine G.sipush 23 (9999 : Int32) dX8_hearOne_23 (by decide +kernel) ?_
      refine G.csI 26 (As := [.int (mI M (a1 + 2) x3.toNatClampNeg), .int (0 : Int32), .int (9999 : Int32)]) (c_X8_heldTo Z hs6 (mI M (a1 + 2) x3.toNatClampNeg) (0 : Int32) (9999 : Int32) rfl) mk_X8_heldTo wd_542 wd_541 hR (by decide +kernel) ⟨rfl, rfl⟩ rfl (Nat.le_of_ble_eq_true rfl) dX8_hearOne_26 (fun hs12 => ?_)
      refine G.istore 29 [(4, .int (f_X8_heldTo (mI M (a1 + 2) x3.toNatClampNeg) (0 : Int32) (9999 : Int32))), (0, .ref (zs Z + a0)), (1, .ref (zs Z + a1)), (2, .ref (zs Z + a2)), (3, .int x3)] dX8_hearOne_29 (Nat.le_of_ble_eq_true rfl) rfl ?_
      refine G.aload_n 31 1 dX8_hearOne_31 rfl rfl ?_
      refine G.iload 32 0 dX8_hearOne_32 rfl ?_
      refine G.aload_n 34 3 dX8_hearOne_34 rfl rfl ?_
      refine G.getp 35 ck_6 6 (a2 + 2) (hs12.k k_a2) (pt_6_6 hs12 k_a2).1 (by decide) (by decide +kernel) wd_384 dX8_hearOne_35 ?_
      refine G.iload_n 38 4 dX8_hearOne_38 rfl rfl ?_
      refine G.ia 39 x3.toNatClampNeg (hs12.k (pt_6_6 hs12 k_a2).2) g11 rfl dX8_hearOne_39 ?_
      refine G.iconst 40 (0 : Int32) dX8_hearOne_40 (by decide +kernel) ?_
      refine G.iload 41 0 dX8_hearOne_41 rfl ?_
      refine G.csI 43 (As := [.int (mI M (a2 + 2) x3.toNatClampNeg), .int (0 : Int32), .int (f_X8_heldTo (mI M (a1 + 2) x3.toNatClampNeg) (0 : Int32) (9999 : Int32))]) (c_X8_heldTo Z hs12 (mI M (a2 + 2) x3.toNatClampNeg) (0 : Int32) (f_X8_heldTo (mI M (a1 + 2) x3.toNatClampNeg) (0 : Int32) (9999 : Int32)) rfl) mk_X8_heldTo wd_542 wd_541 hR (by decide +kernel) ⟨rfl, rfl⟩ rfl (Nat.le_of_ble_eq_true rfl) dX8_hearOne_43 (fun hs14 => ?_)
      obtain ⟨q18, e19, hf⟩ := bd_e hf
      refine G.cvV 46 (As := [.int (f_X8_heldTo (mI M (a1 + 2) x3.toNatClampNeg) (0 : Int32) (9999 : Int32)), .int (f_X8_heldTo (mI M (a2 + 2) x3.toNatClampNeg) (0 : Int32) (f_X8_heldTo (mI M (a1 + 2) x3.toNatClampNeg) (0 : Int32) (9999 : Int32)))]) ck_1 (hs14.k k_a0) (c_X1_write Z hs14 a0 (f_X8_heldTo (mI M (a1 + 2) x3.toNatClampNeg) (0 : Int32) (9999 : Int32)) (f_X8_heldTo (mI M (a2 + 2) x3.toNatClampNeg) (0 : Int32) (f_X8_heldTo (mI M (a1 + 2) x3.toNatClampNeg) (0 : Int32) (9999 : Int32))) k_a0 e19) mk_X1_write vk_X1_write rfl wd_505 hR (by decide +kernel) ⟨rfl, rfl⟩ rfl (Nat.le_of_ble_eq_true rfl) dX8_hearOne_46 (fun hs16 => ?_)
      refine G.goto 49 57 dX8_hearOne_49 (by decide) ?_
      (have hf9 := Option.some.inj hf; subst hf9)
      exact G.rV 57 hq dX8_hearOne_57 hs16
abbrev Y_X8_hear : My := (cX8_hear, RX8, 5)
def rm_X8_hear : Room := { frames := 5, cells := 0, slots := 0, locals := 288 }
theorem dX8_hear_0 : decode cX8_hear 0 = .ok (.aload_n 0, 1) := by decide +kernel
theorem dX8_hear_1 : decode cX8_hear 1 = .ok (.iload_n 1, 1) := by decide +kernel
theorem dX8_hear_2 : decode cX8_hear 2 = .ok (.iload_n 2, 1) := by decide +kernel
theorem dX8_hear_3 : decode cX8_hear 3 = .ok (.invokevirtual 128, 3) := by decide +kernel
theorem dX8_hear_6 : decode cX8_hear 6 = .ok (.istore_n 3, 1) := by decide +kernel
theorem dX8_hear_7 : decode cX8_hear 7 = .ok (.iload_n 3, 1) := by decide +kernel
theorem dX8_hear_8 : decode cX8_hear 8 = .ok (.ifCond .eq 5, 3) := by decide +kernel
theorem dX8_hear_11 : decode cX8_hear 11 = .ok (.iload_n 3, 1) := by decide +kernel
theorem dX8_hear_12 : decode cX8_hear 12 = .ok (.ireturn, 1) := by decide +kernel
theorem dX8_hear_13 : decode cX8_hear 13 = .ok (.iconst 0, 1) := by decide +kernel
theorem dX8_hear_14 : decode cX8_hear 14 = .ok (.istore 4, 2) := by decide +kernel
theorem dX8_hear_16 : decode cX8_hear 16 = .ok (.iload 4, 2) := by decide +kernel
theorem dX8_hear_18 : decode cX8_hear 18 = .ok (.aload_n 0, 1) := by decide +kernel
theorem dX8_hear_19 : decode cX8_hear 19 = .ok (.getfield 10, 3) := by decide +kernel
theorem dX8_hear_22 : decode cX8_hear 22 = .ok (.getfield 118, 3) := by decide +kernel
theorem dX8_hear_25 : decode cX8_hear 25 = .ok (.if_icmp .ge 36, 3) := by decide +kernel
theorem dX8_hear_28 : decode cX8_hear 28 = .ok (.aload_n 0, 1) := by decide +kernel
theorem dX8_hear_29 : decode cX8_hear 29 = .ok (.getfield 10, 3) := by decide +kernel
theorem dX8_hear_32 : decode cX8_hear 32 = .ok (.getfield 62, 3) := by decide +kernel
theorem dX8_hear_35 : decode cX8_hear 35 = .ok (.iload 4, 2) := by decide +kernel
theorem dX8_hear_37 : decode cX8_hear 37 = .ok (.aaload, 1) := by decide +kernel
theorem dX8_hear_38 : decode cX8_hear 38 = .ok (.aload_n 0, 1) := by decide +kernel
theorem dX8_hear_39 : decode cX8_hear 39 = .ok (.getfield 24, 3) := by decide +kernel
theorem dX8_hear_42 : decode cX8_hear 42 = .ok (.iload_n 1, 1) := by decide +kernel
theorem dX8_hear_43 : decode cX8_hear 43 = .ok (.aaload, 1) := by decide +kernel
theorem dX8_hear_44 : decode cX8_hear 44 = .ok (.aload_n 0, 1) := by decide +kernel
theorem dX8_hear_45 : decode cX8_hear 45 = .ok (.getfield 24, 3) := by decide +kernel
theorem dX8_hear_48 : decode cX8_hear 48 = .ok (.iload_n 2, 1) := by decide +kernel
theorem dX8_hear_49 : decode cX8_hear 49 = .ok (.aaload, 1) := by decide +kernel
theorem dX8_hear_50 : decode cX8_hear 50 = .ok (.iload 4, 2) := by decide +kernel
theorem dX8_hear_52 : decode cX8_hear 52 = .ok (.invokestatic 132, 3) := by decide +kernel
theorem dX8_hear_55 : decode cX8_hear 55 = .ok (.iinc 4 1, 3) := by decide +kernel
theorem dX8_hear_58 : decode cX8_hear 58 = .ok (.goto (-42), 3) := by decide +kernel
theorem dX8_hear_61 : decode cX8_hear 61 = .ok (.aload_n 0, 1) := by decide +kernel
theorem dX8_hear_62 : decode cX8_hear 62 = .ok (.getfield 10, 3) := by decide +kernel
theorem dX8_hear_65 : decode cX8_hear 65 = .ok (.invokevirtual 125, 3) := by decide +kernel
theorem dX8_hear_68 : decode cX8_hear 68 = .ok (.ireturn, 1) := by decide +kernel
def B_X8_hear_61 (M : Mem) : Option (Int32 × Mem) := (f_X0_writtenCount 1 M).bind fun q9 => some (q9, M)
def L_X8_hear_16 : Nat → Int32 → Int32 → Int32 → Mem → Option (Int32 × Mem)
  | 0, _, _, _, _ => none
  | n + 1, x1, x2, x4, M => if (mI M 1 1) ≤ x4 then B_X8_hear_61 M else gd (inR x4 30) (gd (inR x1 8) (gd (inR x2 8) ((f_X8_hearOne (2 + 23 + 2 * x4.toNatClampNeg) (253 + 7 + 3 * x1.toNatClampNeg) (253 + 7 + 3 * x2.toNatClampNeg) x4 M).bind fun q16 => L_X8_hear_16 n x1 x2 (x4 + 1) q16)))
def f_X8_hear (x1 : Int32) (x2 : Int32) (M : Mem) : Option (Int32 × Mem) := (f_X8_rowsRefusal x1 x2 M).bind fun q3 => if q3 = 0 then L_X8_hear_16 FU x1 x2 (0 : Int32) M else some (q3, M)
set_option maxRecDepth 100000 in
set_option maxHeartbeats 4000000 in
theorem b_X8_hear_61 (Z : Sys) (X : Cx) (hR : xR X = rm_X8_hear) {q : Int32 × Mem} (hq : RetOk Z X (some .int) False (PostI q.1 q.2) 0 0) {M : Mem} (hs : St M) (hf : B_X8_hear_61 M = some q) : G Z X Y_X8_hear False 0 0 61 [(0, .ref (zs Z + 0))] [] M := by
  unfold B_X8_hear_61 at hf
  refine G.aload_n 61 0 dX8_hear_61 rfl rfl ?_
  refine G.getp 62 ck_8 0 1 (hs.k k0_0) (pc_8_0 hs) (by decide) (by decide +kernel) wd_400 dX8_hear_62 ?_
  obtain ⟨q9, e10, hf⟩ := bd_e hf
  refine G.cvI 65 (As := []) ck_0 (hs.k k0_1) (c_X0_writtenCount Z hs 1 k0_1 e10) mk_X0_writtenCount vk_X0_writtenCount rfl wd_509 hR (by decide +kernel) ⟨rfl, rfl⟩ rfl (Nat.le_of_ble_eq_true rfl) dX8_hear_65 (fun hs7 => ?_)
  (have hf9 := Option.some.inj hf; subst hf9)
  exact G.rI 68 hq dX8_hear_68 hs7
set_option maxRecDepth 100000 in
set_option maxHeartbeats 4000000 in
theorem l_X8_hear_16 (Z : Sys) (X : Cx) (hR : xR X = rm_X8_hear) {q : Int32 × Mem} (hq : RetOk Z X (some .int) False (PostI q.1 q.2) 0 0) : ∀ (n : Nat) (x1 : Int32) (x2 : Int32) (x4 : Int32) (M : Mem) (hs : St M) (hf : L_X8_hear_16 n x1 x2 x4 M = some q), G Z X Y_X8_hear False 0 0 16 [(0, .ref (zs Z + 0)), (1, .int x1), (2, .int x2), (4, .int x4)] [] M := by
  intro n
  induction n with
  | zero => intro x1 x2 x4 M hs  hf; cases hf
  | succ n ih =>
    intro x1 x2 x4 M hs  hf
    unfold L_X8_hear_16 at hf
    refine G.iload 16 3 dX8_hear_16 rfl ?_
    refine G.aload_n 18 0 dX8_hear_18 rfl rfl ?_
    refine G.getp 19 ck_8 0 1 (hs.k k0_0) (pc_8_0 hs) (by decide) (by decide +kernel) wd_400 dX8_hear_19 ?_
    refine G.geti 22 ck_0 1 (hs.k k0_1) (by decide) (by decide +kernel) wd_264 dX8_hear_22 ?_
    refine G.icmp_ge 25 61 dX8_hear_25 (by decide) (fun h6 => ?_) (fun h6 => ?_)
    · replace hf := (if_pos h6).symm.trans hf
      refine G.locs [0] rfl ?_
      exact b_X8_hear_61 Z X hR hq hs hf
    · replace hf := (if_neg h6).symm.trans hf
      refine G.aload_n 28 0 dX8_hear_28 rfl rfl ?_
      refine G.getp 29 ck_8 0 1 (hs.k k0_0) (pc_8_0 hs) (by decide) (by decide +kernel) wd_400 dX8_hear_29 ?_
      refine G.getp 32 ck_0 0 2 (hs.k k0_1) (pt_0_0 hs k0_1).1 (by decide) (by decide +kernel) wd_260 dX8_hear_32 ?_
      refine G.iload 35 3 dX8_hear_35 rfl ?_
      obtain ⟨g11, hf⟩ := gd_e hf
      refine G.aa 37 x4.toNatClampNeg (2 + 23 + 2 * x4.toNatClampNeg) (hs.k k0_2) (by decide) rfl rfl g11 rfl (pa_13 hs k0_2 (inlt g11)).1 dX8_hear_37 ?_
      refine G.aload_n 38 0 dX8_hear_38 rfl rfl ?_
      refine G.getp 39 ck_8 4 253 (hs.k k0_0) (pc_8_4 hs) (by decide) (by decide +kernel) wd_404 dX8_hear_39 ?_
      refine G.iload_n 42 1 dX8_hear_42 rfl rfl ?_
      obtain ⟨g12, hf⟩ := gd_e hf
      refine G.aa 43 x1.toNatClampNeg (253 + 7 + 3 * x1.toNatClampNeg) (hs.k k0_253) (by decide) rfl rfl g12 rfl (pa_14 hs k0_253 (inlt g12)).1 dX8_hear_43 ?_
      refine G.aload_n 44 0 dX8_hear_44 rfl rfl ?_
      refine G.getp 45 ck_8 4 253 (hs.k k0_0) (pc_8_4 hs) (by decide) (by decide +kernel) wd_404 dX8_hear_45 ?_
      refine G.iload_n 48 2 dX8_hear_48 rfl rfl ?_
      obtain ⟨g13, hf⟩ := gd_e hf
      refine G.aa 49 x2.toNatClampNeg (253 + 7 + 3 * x2.toNatClampNeg) (hs.k k0_253) (by decide) rfl rfl g13 rfl (pa_14 hs k0_253 (inlt g13)).1 dX8_hear_49 ?_
      refine G.iload 50 3 dX8_hear_50 rfl ?_
      obtain ⟨q16, e17, hf⟩ := bd_e hf
      refine G.csV 52 (As := [.ref (zs Z + (2 + 23 + 2 * x4.toNatClampNeg)), .ref (zs Z + (253 + 7 + 3 * x1.toNatClampNeg)), .ref (zs Z + (253 + 7 + 3 * x2.toNatClampNeg)), .int x4]) (c_X8_hearOne Z hs (2 + 23 + 2 * x4.toNatClampNeg) (253 + 7 + 3 * x1.toNatClampNeg) (253 + 7 + 3 * x2.toNatClampNeg) x4 (pa_13 hs k0_2 (inlt g11)).2 (pa_14 hs k0_253 (inlt g12)).2 (pa_14 hs k0_253 (inlt g13)).2 e17) mk_X8_hearOne wd_525 wd_524 hR (by decide +kernel) ⟨rfl, rfl⟩ rfl (Nat.le_of_ble_eq_true rfl) dX8_hear_52 (fun hs14 => ?_)
      refine G.iinc 55 3 (x4 + 1) [(4, .int (x4 + 1)), (0, .ref (zs Z + 0)), (1, .int x1), (2, .int x2)] dX8_hear_55 rfl (congrArg (fun z => x4 + z) (by decide +kernel)) (Nat.le_of_ble_eq_true rfl) rfl ?_
      refine G.goto 58 16 dX8_hear_58 (by decide) ?_
      refine G.locs [1, 2, 3, 0] rfl ?_
      exact ih x1 x2 (x4 + 1) q16 hs14 hf
set_option maxRecDepth 100000 in
set_option maxHeartbeats 4000000 in
theorem c_X8_hear (Z : Sys) {M : Mem} (hs : St M) (x1 : Int32) (x2 : Int32) {q : Int32 × Mem} (hf : f_X8_hear x1 x2 M = some q) : Ct Z yX8_hear cX8_hear 5 (some .int) rm_X8_hear [.ref (zs Z + 0), .int x1, .int x2] M False (PostI q.1 q.2) := by
  refine Ct.of (by decide +kernel) (Nat.le_of_ble_eq_true rfl) (fun X hR hq _ => ?_)
  show G Z X Y_X8_hear False 0 0 0 [(0, .ref (zs Z + 0)), (1, .int x1), (2, .int x2)] [] M
  replace hq : RetOk Z X (some .int) False (PostI q.1 q.2) 0 0 := hq
  unfold f_X8_hear at hf
  refine G.aload_n 0 0 dX8_hear_0 rfl rfl ?_
  refine G.iload_n 1 1 dX8_hear_1 rfl rfl ?_
  refine G.iload_n 2 2 dX8_hear_2 rfl rfl ?_
  obtain ⟨q3, e4, hf⟩ := bd_e hf
  refine G.cvI 3 (As := [.int x1, .int x2]) ck_8 (hs.k k0_0) (c_X8_rowsRefusal Z hs x1 x2 e4) mk_X8_rowsRefusal vk_X8_rowsRefusal rfl wd_517 hR (by decide +kernel) ⟨rfl, rfl⟩ rfl (Nat.le_of_ble_eq_true rfl) dX8_hear_3 (fun hs1 => ?_)
  refine G.istore_n 6 [(3, .int q3), (0, .ref (zs Z + 0)), (1, .int x1), (2, .int x2)] dX8_hear_6 rfl (Nat.le_of_ble_eq_true rfl) rfl ?_
  refine G.iload_n 7 0 dX8_hear_7 rfl rfl ?_
  refine G.if_eq 8 13 dX8_hear_8 (by decide) (fun h5 => ?_) (fun h5 => ?_)
  · replace hf := (if_pos h5).symm.trans hf
    refine G.iconst 13 (0 : Int32) dX8_hear_13 (by decide +kernel) ?_
    refine G.istore 14 [(4, .int (0 : Int32)), (3, .int q3), (0, .ref (zs Z + 0)), (1, .int x1), (2, .int x2)] dX8_hear_14 (Nat.le_of_ble_eq_true rfl) rfl ?_
    refine G.locs [2, 3, 4, 0] rfl ?_
    exact l_X8_hear_16 Z X hR hq FU x1 x2 (0 : Int32) M hs1 hf
  · replace hf := (if_neg h5).symm.trans hf
    refine G.iload_n 11 0 dX8_hear_11 rfl rfl ?_
    (have hf9 := Option.some.inj hf; subst hf9)
    exact G.rI 12 hq dX8_hear_12 hs1
abbrev Y_X8_helped : My := (cX8_helped, RX8, 1)
def rm_X8_helped : Room := { frames := 4, cells := 0, slots := 0, locals := 266 }
theorem dX8_helped_0 : decode cX8_helped 0 = .ok (.aload_n 0, 1) := by decide +kernel
theorem dX8_helped_1 : decode cX8_helped 1 = .ok (.getfield 10, 3) := by decide +kernel
theorem dX8_helped_4 : decode cX8_helped 4 = .ok (.invokevirtual 228, 3) := by decide +kernel
theorem dX8_helped_7 : decode cX8_helped 7 = .ok (.aload_n 0, 1) := by decide +kernel
theorem dX8_helped_8 : decode cX8_helped 8 = .ok (.getfield 10, 3) := by decide +kernel
theorem dX8_helped_11 : decode cX8_helped 11 = .ok (.invokevirtual 231, 3) := by decide +kernel
theorem dX8_helped_14 : decode cX8_helped 14 = .ok (.isub, 1) := by decide +kernel
theorem dX8_helped_15 : decode cX8_helped 15 = .ok (.ireturn, 1) := by decide +kernel
def f_X8_helped (M : Mem) : Option Int32 := (f_X0_sentMargin 1 M).bind fun q3 => (f_X0_writtenMargin 1 M).bind fun q7 => some (q3 - q7)
set_option maxRecDepth 100000 in
set_option maxHeartbeats 4000000 in
theorem c_X8_helped (Z : Sys) {M : Mem} (hs : St M) {q : Int32} (hf : f_X8_helped M = some q) : Ct Z yX8_helped cX8_helped 1 (some .int) rm_X8_helped [.ref (zs Z + 0)] M False (PostI q M) := by
  refine Ct.of (by decide +kernel) (Nat.le_of_ble_eq_true rfl) (fun X hR hq _ => ?_)
  show G Z X Y_X8_helped False 0 0 0 [(0, .ref (zs Z + 0))] [] M
  replace hq : RetOk Z X (some .int) False (PostI q M) 0 0 := hq
  unfold f_X8_helped at hf
  refine G.aload_n 0 0 dX8_helped_0 rfl rfl ?_
  refine G.getp 1 ck_8 0 1 (hs.k k0_0) (pc_8_0 hs) (by decide) (by decide +kernel) wd_400 dX8_helped_1 ?_
  obtain ⟨q3, e4, hf⟩ := bd_e hf
  refine G.cvI 4 (As := []) ck_0 (hs.k k0_1) (c_X0_sentMargin Z hs 1 k0_1 e4) mk_X0_sentMargin vk_X0_sentMargin rfl wd_720 hR (by decide +kernel) ⟨rfl, rfl⟩ rfl (Nat.le_of_ble_eq_true rfl) dX8_helped_4 (fun hs1 => ?_)
  refine G.aload_n 7 0 dX8_helped_7 rfl rfl ?_
  refine G.getp 8 ck_8 0 1 (hs1.k k0_0) (pc_8_0 hs1) (by decide) (by decide +kernel) wd_400 dX8_helped_8 ?_
  obtain ⟨q7, e8, hf⟩ := bd_e hf
  refine G.cvI 11 (As := []) ck_0 (hs1.k k0_1) (c_X0_writtenMargin Z hs1 1 k0_1 e8) mk_X0_writtenMargin vk_X0_writtenMargin rfl wd_730 hR (by decide +kernel) ⟨rfl, rfl⟩ rfl (Nat.le_of_ble_eq_true rfl) dX8_helped_11 (fun hs5 => ?_)
  refine G.isub 14 dX8_helped_14 ?_
  (have hf9 := Option.some.inj hf; subst hf9)
  exact G.rI 15 hq dX8_helped_15 hs5
abbrev Y_X8_image : My := (cX8_image, RX8, 1)
def rm_X8_image : Room := { frames := 4, cells := 0, slots := 0, locals := 264 }
theorem dX8_image_0 : decode cX8_image 0 = .ok (.aload_n 0, 1) := by decide +kernel
theorem dX8_image_1 : decode cX8_image 1 = .ok (.getfield 16, 3) := by decide +kernel
theorem dX8_image_4 : decode cX8_image 4 = .ok (.aload_n 0, 1) := by decide +kernel
theorem dX8_image_5 : decode cX8_image 5 = .ok (.getfield 10, 3) := by decide +kernel
theorem dX8_image_8 : decode cX8_image 8 = .ok (.invokevirtual 262, 3) := by decide +kernel
theorem dX8_image_11 : decode cX8_image 11 = .ok (.aload_n 0, 1) := by decide +kernel
theorem dX8_image_12 : decode cX8_image 12 = .ok (.iconst 1, 1) := by decide +kernel
theorem dX8_image_13 : decode cX8_image 13 = .ok (.putfield 293, 3) := by decide +kernel
theorem dX8_image_16 : decode cX8_image 16 = .ok (.aload_n 0, 1) := by decide +kernel
theorem dX8_image_17 : decode cX8_image 17 = .ok (.getfield 10, 3) := by decide +kernel
theorem dX8_image_20 : decode cX8_image 20 = .ok (.getfield 118, 3) := by decide +kernel
theorem dX8_image_23 : decode cX8_image 23 = .ok (.ireturn, 1) := by decide +kernel
def f_X8_image (M : Mem) : Option (Int32 × Mem) := (f_X0_copyFrom 85 1 M).bind fun q3 => some ((mI (sI q3 0 3 (1 : Int32)) 1 1), (sI q3 0 3 (1 : Int32)))
set_option maxRecDepth 100000 in
set_option maxHeartbeats 4000000 in
theorem c_X8_image (Z : Sys) {M : Mem} (hs : St M) {q : Int32 × Mem} (hf : f_X8_image M = some q) : Ct Z yX8_image cX8_image 1 (some .int) rm_X8_image [.ref (zs Z + 0)] M False (PostI q.1 q.2) := by
  refine Ct.of (by decide +kernel) (Nat.le_of_ble_eq_true rfl) (fun X hR hq _ => ?_)
  show G Z X Y_X8_image False 0 0 0 [(0, .ref (zs Z + 0))] [] M
  replace hq : RetOk Z X (some .int) False (PostI q.1 q.2) 0 0 := hq
  unfold f_X8_image at hf
  refine G.aload_n 0 0 dX8_image_0 rfl rfl ?_
  refine G.getp 1 ck_8 1 85 (hs.k k0_0) (pc_8_1 hs) (by decide) (by decide +kernel) wd_401 dX8_image_1 ?_
  refine G.aload_n 4 0 dX8_image_4 rfl rfl ?_
  refine G.getp 5 ck_8 0 1 (hs.k k0_0) (pc_8_0 hs) (by decide) (by decide +kernel) wd_400 dX8_image_5 ?_
  obtain ⟨q3, e4, hf⟩ := bd_e hf
  refine G.cvV 8 (As := [.ref (zs Z + 1)]) ck_0 (hs.k k0_85) (c_X0_copyFrom Z hs 85 1 k0_85 k0_1 e4) mk_X0_copyFrom vk_X0_copyFrom rfl wd_831 hR (by decide +kernel) ⟨rfl, rfl⟩ rfl (Nat.le_of_ble_eq_true rfl) dX8_image_8 (fun hs1 => ?_)
  refine G.aload_n 11 0 dX8_image_11 rfl rfl ?_
  refine G.iconst 12 (1 : Int32) dX8_image_12 (by decide +kernel) ?_
  refine G.puti 13 ck_8 3 (hs1.k k0_0) (by decide) (by decide +kernel) rfl wd_403 rfl rfl dX8_image_13 ?_
  refine G.aload_n 16 0 dX8_image_16 rfl rfl ?_
  refine G.getp 17 ck_8 0 1 ((St.i hs1).k k0_0) (pc_8_0 (St.i hs1)) (by decide) (by decide +kernel) wd_400 dX8_image_17 ?_
  refine G.geti 20 ck_0 1 ((St.i hs1).k k0_1) (by decide) (by decide +kernel) wd_264 dX8_image_20 ?_
  (have hf9 := Option.some.inj hf; subst hf9)
  exact G.rI 23 hq dX8_image_23 (St.i hs1)
abbrev Y_X8_keep : My := (cX8_keep, RX8, 4)
def rm_X8_keep : Room := { frames := 3, cells := 0, slots := 0, locals := 243 }
theorem dX8_keep_0 : decode cX8_keep 0 = .ok (.iload_n 1, 1) := by decide +kernel
theorem dX8_keep_1 : decode cX8_keep 1 = .ok (.invokestatic 281, 3) := by decide +kernel
theorem dX8_keep_4 : decode cX8_keep 4 = .ok (.ifCond .ne 5, 3) := by decide +kernel
theorem dX8_keep_7 : decode cX8_keep 7 = .ok (.iconst (-1), 1) := by decide +kernel
theorem dX8_keep_8 : decode cX8_keep 8 = .ok (.ireturn, 1) := by decide +kernel
theorem dX8_keep_9 : decode cX8_keep 9 = .ok (.iload_n 2, 1) := by decide +kernel
theorem dX8_keep_10 : decode cX8_keep 10 = .ok (.ifCond .ne 15, 3) := by decide +kernel
theorem dX8_keep_13 : decode cX8_keep 13 = .ok (.aload_n 0, 1) := by decide +kernel
theorem dX8_keep_14 : decode cX8_keep 14 = .ok (.getfield 24, 3) := by decide +kernel
theorem dX8_keep_17 : decode cX8_keep 17 = .ok (.iload_n 1, 1) := by decide +kernel
theorem dX8_keep_18 : decode cX8_keep 18 = .ok (.aaload, 1) := by decide +kernel
theorem dX8_keep_19 : decode cX8_keep 19 = .ok (.iconst 0, 1) := by decide +kernel
theorem dX8_keep_20 : decode cX8_keep 20 = .ok (.putfield 308, 3) := by decide +kernel
theorem dX8_keep_23 : decode cX8_keep 23 = .ok (.iconst 0, 1) := by decide +kernel
theorem dX8_keep_24 : decode cX8_keep 24 = .ok (.ireturn, 1) := by decide +kernel
theorem dX8_keep_25 : decode cX8_keep 25 = .ok (.iload_n 2, 1) := by decide +kernel
theorem dX8_keep_26 : decode cX8_keep 26 = .ok (.iconst 1, 1) := by decide +kernel
theorem dX8_keep_27 : decode cX8_keep 27 = .ok (.if_icmp .ne 14, 3) := by decide +kernel
theorem dX8_keep_30 : decode cX8_keep 30 = .ok (.aload_n 0, 1) := by decide +kernel
theorem dX8_keep_31 : decode cX8_keep 31 = .ok (.getfield 10, 3) := by decide +kernel
theorem dX8_keep_34 : decode cX8_keep 34 = .ok (.iload_n 3, 1) := by decide +kernel
theorem dX8_keep_35 : decode cX8_keep 35 = .ok (.invokevirtual 58, 3) := by decide +kernel
theorem dX8_keep_38 : decode cX8_keep 38 = .ok (.ifCond .ne 5, 3) := by decide +kernel
theorem dX8_keep_41 : decode cX8_keep 41 = .ok (.iconst (-1), 1) := by decide +kernel
theorem dX8_keep_42 : decode cX8_keep 42 = .ok (.ireturn, 1) := by decide +kernel
theorem dX8_keep_43 : decode cX8_keep 43 = .ok (.aload_n 0, 1) := by decide +kernel
theorem dX8_keep_44 : decode cX8_keep 44 = .ok (.getfield 24, 3) := by decide +kernel
theorem dX8_keep_47 : decode cX8_keep 47 = .ok (.iload_n 1, 1) := by decide +kernel
theorem dX8_keep_48 : decode cX8_keep 48 = .ok (.aaload, 1) := by decide +kernel
theorem dX8_keep_49 : decode cX8_keep 49 = .ok (.iload_n 3, 1) := by decide +kernel
theorem dX8_keep_50 : decode cX8_keep 50 = .ok (.aload_n 0, 1) := by decide +kernel
theorem dX8_keep_51 : decode cX8_keep 51 = .ok (.getfield 10, 3) := by decide +kernel
theorem dX8_keep_54 : decode cX8_keep 54 = .ok (.getfield 62, 3) := by decide +kernel
theorem dX8_keep_57 : decode cX8_keep 57 = .ok (.iload_n 3, 1) := by decide +kernel
theorem dX8_keep_58 : decode cX8_keep 58 = .ok (.aaload, 1) := by decide +kernel
theorem dX8_keep_59 : decode cX8_keep 59 = .ok (.invokevirtual 311, 3) := by decide +kernel
theorem dX8_keep_62 : decode cX8_keep 62 = .ok (.iconst 0, 1) := by decide +kernel
theorem dX8_keep_63 : decode cX8_keep 63 = .ok (.ireturn, 1) := by decide +kernel
def f_X8_keep (x1 : Int32) (x2 : Int32) (x3 : Int32) (M : Mem) : Option (Int32 × Mem) := if (f_X8_isShelf x1) = 0 then some ((-1 : Int32), M) else if x2 = 0 then gd (inR x1 8) (some ((0 : Int32), (sI M (253 + 7 + 3 * x1.toNatClampNeg) 0 (0 : Int32)))) else if x2 = (1 : Int32) then if (f_X0_isHall 1 x3 M) = 0 then some ((-1 : Int32), M) else gd (inR x1 8) (gd (inR x3 30) ((f_X6_holdSheet (253 + 7 + 3 * x1.toNatClampNeg) x3 (2 + 23 + 2 * x3.toNatClampNeg) M).bind fun q13 => some ((0 : Int32), q13))) else some ((-1 : Int32), M)
set_option maxRecDepth 100000 in
set_option maxHeartbeats 4000000 in
theorem c_X8_keep (Z : Sys) {M : Mem} (hs : St M) (x1 : Int32) (x2 : Int32) (x3 : Int32) {q : Int32 × Mem} (hf : f_X8_keep x1 x2 x3 M = some q) : Ct Z yX8_keep cX8_keep 4 (some .int) rm_X8_keep [.ref (zs Z + 0), .int x1, .int x2, .int x3] M False (PostI q.1 q.2) := by
  refine Ct.of (by decide +kernel) (Nat.le_of_ble_eq_true rfl) (fun X hR hq _ => ?_)
  show G Z X Y_X8_keep False 0 0 0 [(0, .ref (zs Z + 0)), (1, .int x1), (2, .int x2), (3, .int x3)] [] M
  replace hq : RetOk Z X (some .int) False (PostI q.1 q.2) 0 0 := hq
  unfold f_X8_keep at hf
  refine G.iload_n 0 1 dX8_keep_0 rfl rfl ?_
  refine G.csZ 1 (As := [.int x1]) (c_X8_isShelf Z hs x1 rfl) mk_X8_isShelf wd_522 wd_521 hR (by decide +kernel) ⟨rfl, rfl⟩ rfl (Nat.le_of_ble_eq_true rfl) dX8_keep_1 (fun hs1 z2 => ?_)
  refine G.if_ne 4 9 dX8_keep_4 (by decide) (fun h3 => ?_) (fun h3 => ?_)
  · replace hf := (if_neg h3).symm.trans hf
    refine G.iload_n 9 2 dX8_keep_9 rfl rfl ?_
    refine G.if_ne 10 25 dX8_keep_10 (by decide) (fun h4 => ?_) (fun h4 => ?_)
    · replace hf := (if_neg h4).symm.trans hf
      refine G.iload_n 25 2 dX8_keep_25 rfl rfl ?_
      refine G.iconst 26 (1 : Int32) dX8_keep_26 (by decide +kernel) ?_
      refine G.icmp_ne 27 41 dX8_keep_27 (by decide) (fun h5 => ?_) (fun h5 => ?_)
      · replace hf := (if_neg h5).symm.trans hf
        refine G.iconst 41 (-1 : Int32) dX8_keep_41 (by decide +kernel) ?_
        (have hf9 := Option.some.inj hf; subst hf9)
        exact G.rI 42 hq dX8_keep_42 hs1
      · replace hf := (if_pos h5).symm.trans hf
        refine G.aload_n 30 0 dX8_keep_30 rfl rfl ?_
        refine G.getp 31 ck_8 0 1 (hs1.k k0_0) (pc_8_0 hs1) (by decide) (by decide +kernel) wd_400 dX8_keep_31 ?_
        refine G.iload_n 34 3 dX8_keep_34 rfl rfl ?_
        refine G.cvZ 35 (As := [.int x3]) ck_0 (hs1.k k0_1) (c_X0_isHall Z hs1 1 x3 k0_1 rfl) mk_X0_isHall vk_X0_isHall rfl wd_444 hR (by decide +kernel) ⟨rfl, rfl⟩ rfl (Nat.le_of_ble_eq_true rfl) dX8_keep_35 (fun hs6 z7 => ?_)
        refine G.if_ne 38 43 dX8_keep_38 (by decide) (fun h8 => ?_) (fun h8 => ?_)
        · replace hf := (if_neg h8).symm.trans hf
          refine G.aload_n 43 0 dX8_keep_43 rfl rfl ?_
          refine G.getp 44 ck_8 4 253 (hs6.k k0_0) (pc_8_4 hs6) (by decide) (by decide +kernel) wd_404 dX8_keep_44 ?_
          refine G.iload_n 47 1 dX8_keep_47 rfl rfl ?_
          obtain ⟨g9, hf⟩ := gd_e hf
          refine G.aa 48 x1.toNatClampNeg (253 + 7 + 3 * x1.toNatClampNeg) (hs6.k k0_253) (by decide) rfl rfl g9 rfl (pa_14 hs6 k0_253 (inlt g9)).1 dX8_keep_48 ?_
          refine G.iload_n 49 3 dX8_keep_49 rfl rfl ?_
          refine G.aload_n 50 0 dX8_keep_50 rfl rfl ?_
          refine G.getp 51 ck_8 0 1 (hs6.k k0_0) (pc_8_0 hs6) (by decide) (by decide +kernel) wd_400 dX8_keep_51 ?_
          refine G.getp 54 ck_0 0 2 (hs6.k k0_1) (pt_0_0 hs6 k0_1).1 (by decide) (by decide +kernel) wd_260 dX8_keep_54 ?_
          refine G.iload_n 57 3 dX8_keep_57 rfl rfl ?_
          obtain ⟨g10, hf⟩ := gd_e hf
          refine G.aa 58 x3.toNatClampNeg (2 + 23 + 2 * x3.toNatClampNeg) (hs6.k k0_2) (by decide) rfl rfl g10 rfl (pa_13 hs6 k0_2 (inlt g10)).1 dX8_keep_58 ?_
          obtain ⟨q13, e14, hf⟩ := bd_e hf
          refine G.cvV 59 (As := [.int x3, .ref (zs Z + (2 + 23 + 2 * x3.toNatClampNeg))]) ck_6 (hs6.k (pa_14 hs6 k0_253 (inlt g9)).2) (c_X6_holdSheet Z hs6 (253 + 7 + 3 * x1.toNatClampNeg) x3 (2 + 23 + 2 * x3.toNatClampNeg) (pa_14 hs6 k0_253 (inlt g9)).2 (pa_13 hs6 k0_2 (inlt g10)).2 e14) mk_X6_holdSheet vk_X6_holdSheet rfl wd_1108 hR (by decide +kernel) ⟨rfl, rfl⟩ rfl (Nat.le_of_ble_eq_true rfl) dX8_keep_59 (fun hs11 => ?_)
          refine G.iconst 62 (0 : Int32) dX8_keep_62 (by decide +kernel) ?_
          (have hf9 := Option.some.inj hf; subst hf9)
          exact G.rI 63 hq dX8_keep_63 hs11
        · replace hf := (if_pos h8).symm.trans hf
          refine G.iconst 41 (-1 : Int32) dX8_keep_41 (by decide +kernel) ?_
          (have hf9 := Option.some.inj hf; subst hf9)
          exact G.rI 42 hq dX8_keep_42 hs6
    · replace hf := (if_pos h4).symm.trans hf
      refine G.aload_n 13 0 dX8_keep_13 rfl rfl ?_
      refine G.getp 14 ck_8 4 253 (hs1.k k0_0) (pc_8_4 hs1) (by decide) (by decide +kernel) wd_404 dX8_keep_14 ?_
      refine G.iload_n 17 1 dX8_keep_17 rfl rfl ?_
      obtain ⟨g15, hf⟩ := gd_e hf
      refine G.aa 18 x1.toNatClampNeg (253 + 7 + 3 * x1.toNatClampNeg) (hs1.k k0_253) (by decide) rfl rfl g15 rfl (pa_14 hs1 k0_253 (inlt g15)).1 dX8_keep_18 ?_
      refine G.iconst 19 (0 : Int32) dX8_keep_19 (by decide +kernel) ?_
      refine G.puti 20 ck_6 0 (hs1.k (pa_14 hs1 k0_253 (inlt g15)).2) (by decide) (by decide +kernel) rfl wd_374 rfl rfl dX8_keep_20 ?_
      refine G.iconst 23 (0 : Int32) dX8_keep_23 (by decide +kernel) ?_
      (have hf9 := Option.some.inj hf; subst hf9)
      exact G.rI 24 hq dX8_keep_24 (St.i hs1)
  · replace hf := (if_pos h3).symm.trans hf
    refine G.iconst 7 (-1 : Int32) dX8_keep_7 (by decide +kernel) ?_
    (have hf9 := Option.some.inj hf; subst hf9)
    exact G.rI 8 hq dX8_keep_8 hs1
