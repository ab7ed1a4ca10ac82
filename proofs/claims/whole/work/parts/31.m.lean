abbrev Y_X8_turn : My := (cX8_turn, RX8, 1)
def rm_X8_turn : Room := { frames := 5, cells := 0, slots := 0, locals := 289 }
theorem dX8_turn_0 : decode cX8_turn 0 = .ok (.aload_n 0, 1) := by decide +kernel
theorem dX8_turn_1 : decode cX8_turn 1 = .ok (.getfield 10, 3) := by decide +kernel
theorem dX8_turn_4 : decode cX8_turn 4 = .ok (.invokevirtual 246, 3) := by decide +kernel
theorem dX8_turn_7 : decode cX8_turn 7 = .ok (.ireturn, 1) := by decide +kernel
def f_X8_turn (M : Mem) : Option Int32 := (f_X0_fewestTurns 1 M).bind fun q3 => some q3
set_option maxRecDepth 100000 in
set_option maxHeartbeats 4000000 in
theorem c_X8_turn (Z : Sys) {M : Mem} (hs : St M) {q : Int32} (hf : f_X8_turn M = some q) : Ct Z yX8_turn cX8_turn 1 (some .int) rm_X8_turn [.ref (zs Z + 0)] M False (PostI q M) := by
  refine Ct.of (by decide +kernel) (Nat.le_of_ble_eq_true rfl) (fun X hR hq _ => ?_)
  show G Z X Y_X8_turn False 0 0 0 [(0, .ref (zs Z + 0))] [] M
  replace hq : RetOk Z X (some .int) False (PostI q M) 0 0 := hq
  unfold f_X8_turn at hf
  refine G.aload_n 0 0 dX8_turn_0 rfl rfl ?_
  refine G.getp 1 ck_8 0 1 (hs.k k0_0) (pc_8_0 hs) (by decide) (by decide +kernel) wd_400 dX8_turn_1 ?_
  obtain ⟨q3, e4, hf⟩ := bd_e hf
  refine G.cvI 4 (As := []) ck_0 (hs.k k0_1) (c_X0_fewestTurns Z hs 1 k0_1 e4) mk_X0_fewestTurns vk_X0_fewestTurns rfl wd_772 hR (by decide +kernel) ⟨rfl, rfl⟩ rfl (Nat.le_of_ble_eq_true rfl) dX8_turn_4 (fun hs1 => ?_)
  (have hf9 := Option.some.inj hf; subst hf9)
  exact G.rI 7 hq dX8_turn_7 hs1
abbrev Y_X8_untrue : My := (cX8_untrue, RX8, 4)
def rm_X8_untrue : Room := { frames := 3, cells := 0, slots := 0, locals := 243 }
theorem dX8_untrue_0 : decode cX8_untrue 0 = .ok (.iload_n 1, 1) := by decide +kernel
theorem dX8_untrue_1 : decode cX8_untrue 1 = .ok (.iconst (-1), 1) := by decide +kernel
theorem dX8_untrue_2 : decode cX8_untrue 2 = .ok (.if_icmp .eq 14, 3) := by decide +kernel
theorem dX8_untrue_5 : decode cX8_untrue 5 = .ok (.aload_n 0, 1) := by decide +kernel
theorem dX8_untrue_6 : decode cX8_untrue 6 = .ok (.getfield 10, 3) := by decide +kernel
theorem dX8_untrue_9 : decode cX8_untrue 9 = .ok (.iload_n 1, 1) := by decide +kernel
theorem dX8_untrue_10 : decode cX8_untrue 10 = .ok (.invokevirtual 58, 3) := by decide +kernel
theorem dX8_untrue_13 : decode cX8_untrue 13 = .ok (.ifCond .eq 12, 3) := by decide +kernel
theorem dX8_untrue_16 : decode cX8_untrue 16 = .ok (.iload_n 2, 1) := by decide +kernel
theorem dX8_untrue_17 : decode cX8_untrue 17 = .ok (.iconst 0, 1) := by decide +kernel
theorem dX8_untrue_18 : decode cX8_untrue 18 = .ok (.iconst 1, 1) := by decide +kernel
theorem dX8_untrue_19 : decode cX8_untrue 19 = .ok (.invokestatic 50, 3) := by decide +kernel
theorem dX8_untrue_22 : decode cX8_untrue 22 = .ok (.ifCond .ne 5, 3) := by decide +kernel
theorem dX8_untrue_25 : decode cX8_untrue 25 = .ok (.iconst (-1), 1) := by decide +kernel
theorem dX8_untrue_26 : decode cX8_untrue 26 = .ok (.ireturn, 1) := by decide +kernel
theorem dX8_untrue_27 : decode cX8_untrue 27 = .ok (.iload_n 1, 1) := by decide +kernel
theorem dX8_untrue_28 : decode cX8_untrue 28 = .ok (.iconst (-1), 1) := by decide +kernel
theorem dX8_untrue_29 : decode cX8_untrue 29 = .ok (.if_icmp .ne 25, 3) := by decide +kernel
theorem dX8_untrue_32 : decode cX8_untrue 32 = .ok (.iload_n 2, 1) := by decide +kernel
theorem dX8_untrue_33 : decode cX8_untrue 33 = .ok (.ifCond .ne 13, 3) := by decide +kernel
theorem dX8_untrue_36 : decode cX8_untrue 36 = .ok (.aload_n 0, 1) := by decide +kernel
theorem dX8_untrue_37 : decode cX8_untrue 37 = .ok (.getfield 10, 3) := by decide +kernel
theorem dX8_untrue_40 : decode cX8_untrue 40 = .ok (.invokevirtual 234, 3) := by decide +kernel
theorem dX8_untrue_43 : decode cX8_untrue 43 = .ok (.goto 10, 3) := by decide +kernel
theorem dX8_untrue_46 : decode cX8_untrue 46 = .ok (.aload_n 0, 1) := by decide +kernel
theorem dX8_untrue_47 : decode cX8_untrue 47 = .ok (.getfield 10, 3) := by decide +kernel
theorem dX8_untrue_50 : decode cX8_untrue 50 = .ok (.invokevirtual 237, 3) := by decide +kernel
theorem dX8_untrue_53 : decode cX8_untrue 53 = .ok (.ireturn, 1) := by decide +kernel
theorem dX8_untrue_54 : decode cX8_untrue 54 = .ok (.aload_n 0, 1) := by decide +kernel
theorem dX8_untrue_55 : decode cX8_untrue 55 = .ok (.getfield 10, 3) := by decide +kernel
theorem dX8_untrue_58 : decode cX8_untrue 58 = .ok (.getfield 62, 3) := by decide +kernel
theorem dX8_untrue_61 : decode cX8_untrue 61 = .ok (.iload_n 1, 1) := by decide +kernel
theorem dX8_untrue_62 : decode cX8_untrue 62 = .ok (.aaload, 1) := by decide +kernel
theorem dX8_untrue_63 : decode cX8_untrue 63 = .ok (.astore_n 3, 1) := by decide +kernel
theorem dX8_untrue_64 : decode cX8_untrue 64 = .ok (.aload_n 3, 1) := by decide +kernel
theorem dX8_untrue_65 : decode cX8_untrue 65 = .ok (.getfield 105, 3) := by decide +kernel
theorem dX8_untrue_68 : decode cX8_untrue 68 = .ok (.ifCond .eq 6, 3) := by decide +kernel
theorem dX8_untrue_71 : decode cX8_untrue 71 = .ok (.bipush (-4), 2) := by decide +kernel
theorem dX8_untrue_73 : decode cX8_untrue 73 = .ok (.ireturn, 1) := by decide +kernel
theorem dX8_untrue_74 : decode cX8_untrue 74 = .ok (.iload_n 2, 1) := by decide +kernel
theorem dX8_untrue_75 : decode cX8_untrue 75 = .ok (.ifCond .ne 10, 3) := by decide +kernel
theorem dX8_untrue_78 : decode cX8_untrue 78 = .ok (.aload_n 3, 1) := by decide +kernel
theorem dX8_untrue_79 : decode cX8_untrue 79 = .ok (.invokevirtual 240, 3) := by decide +kernel
theorem dX8_untrue_82 : decode cX8_untrue 82 = .ok (.goto 7, 3) := by decide +kernel
theorem dX8_untrue_85 : decode cX8_untrue 85 = .ok (.aload_n 3, 1) := by decide +kernel
theorem dX8_untrue_86 : decode cX8_untrue 86 = .ok (.invokevirtual 243, 3) := by decide +kernel
theorem dX8_untrue_89 : decode cX8_untrue 89 = .ok (.ireturn, 1) := by decide +kernel
def B_X8_untrue_16 (x1 : Int32) (x2 : Int32) (M : Mem) : Option Int32 := if (f_X8_within x2 (0 : Int32) (1 : Int32)) = 0 then some (-1 : Int32) else if x1 = (-1 : Int32) then if x2 = 0 then (f_X0_allUntrue 1 M).bind fun q20 => some q20 else (f_X0_allMustBe 1 M).bind fun q16 => some q16 else gd (inR x1 30) (if (mI M (2 + 23 + 2 * x1.toNatClampNeg) 9) = 0 then if x2 = 0 then some (f_X1_untruth (2 + 23 + 2 * x1.toNatClampNeg) M) else some (f_X1_mustBe (2 + 23 + 2 * x1.toNatClampNeg) M) else some (-4 : Int32))
def f_X8_untrue (x1 : Int32) (x2 : Int32) (M : Mem) : Option Int32 := if x1 = (-1 : Int32) then B_X8_untrue_16 x1 x2 M else if (f_X0_isHall 1 x1 M) = 0 then some (-1 : Int32) else B_X8_untrue_16 x1 x2 M
set_option maxRecDepth 100000 in
set_option maxHeartbeats 4000000 in
theorem b_X8_untrue_16 (Z : Sys) (X : Cx) (hR : xR X = rm_X8_untrue) {q : Int32} {M : Mem} (hq : RetOk Z X (some .int) False (PostI q M) 0 0) (x1 : Int32) (x2 : Int32) (hs : St M) (hf : B_X8_untrue_16 x1 x2 M = some q) : G Z X Y_X8_untrue False 0 0 16 [(0, .ref (zs Z + 0)), (1, .int x1), (2, .int x2)] [] M := by
  unfold B_X8_untrue_16 at hf
  refine G.iload_n 16 2 dX8_untrue_16 rfl rfl ?_
  refine G.iconst 17 (0 : Int32) dX8_untrue_17 (by decide +kernel) ?_
  refine G.iconst 18 (1 : Int32) dX8_untrue_18 (by decide +kernel) ?_
  refine G.csZ 19 (As := [.int x2, .int (0 : Int32), .int (1 : Int32)]) (c_X8_within Z hs x2 (0 : Int32) (1 : Int32) rfl) mk_X8_within wd_430 wd_429 hR (by decide +kernel) ⟨rfl, rfl⟩ rfl (Nat.le_of_ble_eq_true rfl) dX8_untrue_19 (fun hs2 z3 => ?_)
  refine G.if_ne 22 27 dX8_untrue_22 (by decide) (fun h4 => ?_) (fun h4 => ?_)
  · replace hf := (if_neg h4).symm.trans hf
    refine G.iload_n 27 1 dX8_untrue_27 rfl rfl ?_
    refine G.iconst 28 (-1 : Int32) dX8_untrue_28 (by decide +kernel) ?_
    refine G.icmp_ne 29 54 dX8_untrue_29 (by decide) (fun h5 => ?_) (fun h5 => ?_)
    · replace hf := (if_neg h5).symm.trans hf
      refine G.aload_n 54 0 dX8_untrue_54 rfl rfl ?_
      refine G.getp 55 ck_8 0 1 (hs2.k k0_0) (pc_8_0 hs2) (by decide) (by decide +kernel) wd_400 dX8_untrue_55 ?_
      refine G.getp 58 ck_0 0 2 (hs2.k k0_1) (pt_0_0 hs2 k0_1).1 (by decide) (by decide +kernel) wd_260 dX8_untrue_58 ?_
      refine G.iload_n 61 1 dX8_untrue_61 rfl rfl ?_
      obtain ⟨g6, hf⟩ := gd_e hf
      refine G.aa 62 x1.toNatClampNeg (2 + 23 + 2 * x1.toNatClampNeg) (hs2.k k0_2) (by decide) rfl rfl g6 rfl (pa_13 hs2 k0_2 (inlt g6)).1 dX8_untrue_62 ?_
      refine G.astore_n 63 [(3, .ref (zs Z + (2 + 23 + 2 * x1.toNatClampNeg))), (0, .ref (zs Z + 0)), (1, .int x1), (2, .int x2)] dX8_untrue_63 rfl (Nat.le_of_ble_eq_true rfl) rfl ?_
      refine G.aload_n 64 0 dX8_untrue_64 rfl rfl ?_
      refine G.geti 65 ck_1 9 (hs2.k (pa_13 hs2 k0_2 (inlt g6)).2) (by decide) (by decide +kernel) wd_221 dX8_untrue_65 ?_
      refine G.if_eq 68 74 dX8_untrue_68 (by decide) (fun h7 => ?_) (fun h7 => ?_)
      · replace hf := (if_pos h7).symm.trans hf
        refine G.iload_n 74 3 dX8_untrue_74 rfl rfl ?_
        refine G.if_ne 75 85 dX8_untrue_75 (by decide) (fun h8 => ?_) (fun h8 => ?_)
        · replace hf := (if_neg h8).symm.trans hf
          refine G.aload_n 85 0 dX8_untrue_85 rfl rfl ?_
          refine G.cvI 86 (As := []) ck_1 (hs2.k (pa_13 hs2 k0_2 (inlt g6)).2) (c_X1_mustBe Z hs2 (2 + 23 + 2 * x1.toNatClampNeg) (pa_13 hs2 k0_2 (inlt g6)).2 rfl) mk_X1_mustBe vk_X1_mustBe rfl wd_767 hR (by decide +kernel) ⟨rfl, rfl⟩ rfl (Nat.le_of_ble_eq_true rfl) dX8_untrue_86 (fun hs9 => ?_)
          (have hf9 := Option.some.inj hf; subst hf9)
          exact G.rI 89 hq dX8_untrue_89 hs9
        · replace hf := (if_pos h8).symm.trans hf
          refine G.aload_n 78 0 dX8_untrue_78 rfl rfl ?_
          refine G.cvI 79 (As := []) ck_1 (hs2.k (pa_13 hs2 k0_2 (inlt g6)).2) (c_X1_untruth Z hs2 (2 + 23 + 2 * x1.toNatClampNeg) (pa_13 hs2 k0_2 (inlt g6)).2 rfl) mk_X1_untruth vk_X1_untruth rfl wd_766 hR (by decide +kernel) ⟨rfl, rfl⟩ rfl (Nat.le_of_ble_eq_true rfl) dX8_untrue_79 (fun hs11 => ?_)
          refine G.goto 82 89 dX8_untrue_82 (by decide) ?_
          (have hf9 := Option.some.inj hf; subst hf9)
          exact G.rI 89 hq dX8_untrue_89 hs11
      · replace hf := (if_neg h7).symm.trans hf
        refine G.bipush 71 (-4 : Int32) dX8_untrue_71 (by decide +kernel) ?_
        (have hf9 := Option.some.inj hf; subst hf9)
        exact G.rI 73 hq dX8_untrue_73 hs2
    · replace hf := (if_pos h5).symm.trans hf
      refine G.iload_n 32 2 dX8_untrue_32 rfl rfl ?_
      refine G.if_ne 33 46 dX8_untrue_33 (by decide) (fun h13 => ?_) (fun h13 => ?_)
      · replace hf := (if_neg h13).symm.trans hf
        refine G.aload_n 46 0 dX8_untrue_46 rfl rfl ?_
        refine G.getp 47 ck_8 0 1 (hs2.k k0_0) (pc_8_0 hs2) (by decide) (by decide +kernel) wd_400 dX8_untrue_47 ?_
        obtain ⟨q16, e17, hf⟩ := bd_e hf
        refine G.cvI 50 (As := []) ck_0 (hs2.k k0_1) (c_X0_allMustBe Z hs2 1 k0_1 e17) mk_X0_allMustBe vk_X0_allMustBe rfl wd_758 hR (by decide +kernel) ⟨rfl, rfl⟩ rfl (Nat.le_of_ble_eq_true rfl) dX8_untrue_50 (fun hs14 => ?_)
        (have hf9 := Option.some.inj hf; subst hf9)
        exact G.rI 53 hq dX8_untrue_53 hs14
      · replace hf := (if_pos h13).symm.trans hf
        refine G.aload_n 36 0 dX8_untrue_36 rfl rfl ?_
        refine G.getp 37 ck_8 0 1 (hs2.k k0_0) (pc_8_0 hs2) (by decide) (by decide +kernel) wd_400 dX8_untrue_37 ?_
        obtain ⟨q20, e21, hf⟩ := bd_e hf
        refine G.cvI 40 (As := []) ck_0 (hs2.k k0_1) (c_X0_allUntrue Z hs2 1 k0_1 e21) mk_X0_allUntrue vk_X0_allUntrue rfl wd_746 hR (by decide +kernel) ⟨rfl, rfl⟩ rfl (Nat.le_of_ble_eq_true rfl) dX8_untrue_40 (fun hs18 => ?_)
        refine G.goto 43 53 dX8_untrue_43 (by decide) ?_
        (have hf9 := Option.some.inj hf; subst hf9)
        exact G.rI 53 hq dX8_untrue_53 hs18
  · replace hf := (if_pos h4).symm.trans hf
    refine G.iconst 25 (-1 : Int32) dX8_untrue_25 (by decide +kernel) ?_
    (have hf9 := Option.some.inj hf; subst hf9)
    exact G.rI 26 hq dX8_untrue_26 hs2
set_option maxRecDepth 100000 in
set_option maxHeartbeats 4000000 in
theorem c_X8_untrue (Z : Sys) {M : Mem} (hs : St M) (x1 : Int32) (x2 : Int32) {q : Int32} (hf : f_X8_untrue x1 x2 M = some q) : Ct Z yX8_untrue cX8_untrue 4 (some .int) rm_X8_untrue [.ref (zs Z + 0), .int x1, .int x2] M False (PostI q M) := by
  refine Ct.of (by decide +kernel) (Nat.le_of_ble_eq_true rfl) (fun X hR hq _ => ?_)
  show G Z X Y_X8_untrue False 0 0 0 [(0, .ref (zs Z + 0)), (1, .int x1), (2, .int x2)] [] M
  replace hq : RetOk Z X (some .int) False (PostI q M) 0 0 := hq
  unfold f_X8_untrue at hf
  refine G.iload_n 0 1 dX8_untrue_0 rfl rfl ?_
  refine G.iconst 1 (-1 : Int32) dX8_untrue_1 (by decide +kernel) ?_
  refine G.icmp_eq 2 16 dX8_untrue_2 (by decide) (fun h1 => ?_) (fun h1 => ?_)
  · replace hf := (if_pos h1).symm.trans hf
    exact b_X8_untrue_16 Z X hR hq x1 x2 hs hf
  · replace hf := (if_neg h1).symm.trans hf
    refine G.aload_n 5 0 dX8_untrue_5 rfl rfl ?_
    refine G.getp 6 ck_8 0 1 (hs.k k0_0) (pc_8_0 hs) (by decide) (by decide +kernel) wd_400 dX8_untrue_6 ?_
    refine G.iload_n 9 1 dX8_untrue_9 rfl rfl ?_
    refine G.cvZ 10 (As := [.int x1]) ck_0 (hs.k k0_1) (c_X0_isHall Z hs 1 x1 k0_1 rfl) mk_X0_isHall vk_X0_isHall rfl wd_444 hR (by decide +kernel) ⟨rfl, rfl⟩ rfl (Nat.le_of_ble_eq_true rfl) dX8_untrue_10 (fun hs22 z23 => ?_)
    refine G.if_eq 13 25 dX8_untrue_13 (by decide) (fun h24 => ?_) (fun h24 => ?_)
    · replace hf := (if_pos h24).symm.trans hf
      refine G.iconst 25 (-1 : Int32) dX8_untrue_25 (by decide +kernel) ?_
      (have hf9 := Option.some.inj hf; subst hf9)
      exact G.rI 26 hq dX8_untrue_26 hs22
    · replace hf := (if_neg h24).symm.trans hf
      exact b_X8_untrue_16 Z X hR hq x1 x2 hs22 hf
abbrev Y_X8_up : My := (cX8_up, RX8, 5)
def rm_X8_up : Room := { frames := 3, cells := 0, slots := 0, locals := 242 }
theorem dX8_up_0 : decode cX8_up 0 = .ok (.iload_n 1, 1) := by decide +kernel
theorem dX8_up_1 : decode cX8_up 1 = .ok (.invokestatic 204, 3) := by decide +kernel
theorem dX8_up_4 : decode cX8_up 4 = .ok (.ifCond .eq 23, 3) := by decide +kernel
theorem dX8_up_7 : decode cX8_up 7 = .ok (.iload_n 2, 1) := by decide +kernel
theorem dX8_up_8 : decode cX8_up 8 = .ok (.iconst 0, 1) := by decide +kernel
theorem dX8_up_9 : decode cX8_up 9 = .ok (.ldc 207, 2) := by decide +kernel
theorem dX8_up_11 : decode cX8_up 11 = .ok (.invokestatic 50, 3) := by decide +kernel
theorem dX8_up_14 : decode cX8_up 14 = .ok (.ifCond .eq 13, 3) := by decide +kernel
theorem dX8_up_17 : decode cX8_up 17 = .ok (.iload_n 3, 1) := by decide +kernel
theorem dX8_up_18 : decode cX8_up 18 = .ok (.iconst 0, 1) := by decide +kernel
theorem dX8_up_19 : decode cX8_up 19 = .ok (.ldc 207, 2) := by decide +kernel
theorem dX8_up_21 : decode cX8_up 21 = .ok (.invokestatic 50, 3) := by decide +kernel
theorem dX8_up_24 : decode cX8_up 24 = .ok (.ifCond .ne 5, 3) := by decide +kernel
theorem dX8_up_27 : decode cX8_up 27 = .ok (.iconst (-1), 1) := by decide +kernel
theorem dX8_up_28 : decode cX8_up 28 = .ok (.ireturn, 1) := by decide +kernel
theorem dX8_up_29 : decode cX8_up 29 = .ok (.aload_n 0, 1) := by decide +kernel
theorem dX8_up_30 : decode cX8_up 30 = .ok (.getfield 10, 3) := by decide +kernel
theorem dX8_up_33 : decode cX8_up 33 = .ok (.getfield 208, 3) := by decide +kernel
theorem dX8_up_36 : decode cX8_up 36 = .ok (.iload_n 1, 1) := by decide +kernel
theorem dX8_up_37 : decode cX8_up 37 = .ok (.baload, 1) := by decide +kernel
theorem dX8_up_38 : decode cX8_up 38 = .ok (.ifCond .eq 7, 3) := by decide +kernel
theorem dX8_up_41 : decode cX8_up 41 = .ok (.iconst 0, 1) := by decide +kernel
theorem dX8_up_42 : decode cX8_up 42 = .ok (.goto 4, 3) := by decide +kernel
theorem dX8_up_45 : decode cX8_up 45 = .ok (.iconst 1, 1) := by decide +kernel
theorem dX8_up_46 : decode cX8_up 46 = .ok (.istore 4, 2) := by decide +kernel
theorem dX8_up_48 : decode cX8_up 48 = .ok (.aload_n 0, 1) := by decide +kernel
theorem dX8_up_49 : decode cX8_up 49 = .ok (.getfield 10, 3) := by decide +kernel
theorem dX8_up_52 : decode cX8_up 52 = .ok (.getfield 208, 3) := by decide +kernel
theorem dX8_up_55 : decode cX8_up 55 = .ok (.iload_n 1, 1) := by decide +kernel
theorem dX8_up_56 : decode cX8_up 56 = .ok (.iconst 1, 1) := by decide +kernel
theorem dX8_up_57 : decode cX8_up 57 = .ok (.bastore, 1) := by decide +kernel
theorem dX8_up_58 : decode cX8_up 58 = .ok (.aload_n 0, 1) := by decide +kernel
theorem dX8_up_59 : decode cX8_up 59 = .ok (.getfield 10, 3) := by decide +kernel
theorem dX8_up_62 : decode cX8_up 62 = .ok (.getfield 212, 3) := by decide +kernel
theorem dX8_up_65 : decode cX8_up 65 = .ok (.iload_n 1, 1) := by decide +kernel
theorem dX8_up_66 : decode cX8_up 66 = .ok (.iload_n 2, 1) := by decide +kernel
theorem dX8_up_67 : decode cX8_up 67 = .ok (.iastore, 1) := by decide +kernel
theorem dX8_up_68 : decode cX8_up 68 = .ok (.aload_n 0, 1) := by decide +kernel
theorem dX8_up_69 : decode cX8_up 69 = .ok (.getfield 10, 3) := by decide +kernel
theorem dX8_up_72 : decode cX8_up 72 = .ok (.getfield 214, 3) := by decide +kernel
theorem dX8_up_75 : decode cX8_up 75 = .ok (.iload_n 1, 1) := by decide +kernel
theorem dX8_up_76 : decode cX8_up 76 = .ok (.iload_n 3, 1) := by decide +kernel
theorem dX8_up_77 : decode cX8_up 77 = .ok (.iastore, 1) := by decide +kernel
theorem dX8_up_78 : decode cX8_up 78 = .ok (.iload 4, 2) := by decide +kernel
theorem dX8_up_80 : decode cX8_up 80 = .ok (.ireturn, 1) := by decide +kernel
def f_X8_up (x1 : Int32) (x2 : Int32) (x3 : Int32) (M : Mem) : Option (Int32 × Mem) := if (f_X8_isDistrict x1) = 0 then some ((-1 : Int32), M) else if (f_X8_within x2 (0 : Int32) (99999 : Int32)) = 0 then some ((-1 : Int32), M) else if (f_X8_within x3 (0 : Int32) (99999 : Int32)) = 0 then some ((-1 : Int32), M) else gd (inR x1 4) (if (mI M 4 x1.toNatClampNeg) = 0 then some ((1 : Int32), (sI (sI (sI M 4 x1.toNatClampNeg (1 : Int32)) 5 x1.toNatClampNeg x2) 6 x1.toNatClampNeg x3)) else some ((0 : Int32), (sI (sI (sI M 4 x1.toNatClampNeg (1 : Int32)) 5 x1.toNatClampNeg x2) 6 x1.toNatClampNeg x3)))
set_option maxRecDepth 100000 in
set_option maxHeartbeats 4000000 in
theorem c_X8_up (Z : Sys) {M : Mem} (hs : St M) (x1 : Int32) (x2 : Int32) (x3 : Int32) {q : Int32 × Mem} (hf : f_X8_up x1 x2 x3 M = some q) : Ct Z yX8_up cX8_up 5 (some .int) rm_X8_up [.ref (zs Z + 0), .int x1, .int x2, .int x3] M False (PostI q.1 q.2) := by
  refine Ct.of (by decide +kernel) (Nat.le_of_ble_eq_true rfl) (fun X hR hq _ => ?_)
  show G Z X Y_X8_up False 0 0 0 [(0, .ref (zs Z + 0)), (1, .int x1), (2, .int x2), (3, .int x3)] [] M
  replace hq : RetOk Z X (some .int) False (PostI q.1 q.2) 0 0 := hq
  unfold f_X8_up at hf
  refine G.iload_n 0 1 dX8_up_0 rfl rfl ?_
  refine G.csZ 1 (As := [.int x1]) (c_X8_isDistrict Z hs x1 rfl) mk_X8_isDistrict wd_687 wd_686 hR (by decide +kernel) ⟨rfl, rfl⟩ rfl (Nat.le_of_ble_eq_true rfl) dX8_up_1 (fun hs1 z2 => ?_)
  refine G.if_eq 4 27 dX8_up_4 (by decide) (fun h3 => ?_) (fun h3 => ?_)
  · replace hf := (if_pos h3).symm.trans hf
    refine G.iconst 27 (-1 : Int32) dX8_up_27 (by decide +kernel) ?_
    (have hf9 := Option.some.inj hf; subst hf9)
    exact G.rI 28 hq dX8_up_28 hs1
  · replace hf := (if_neg h3).symm.trans hf
    refine G.iload_n 7 2 dX8_up_7 rfl rfl ?_
    refine G.iconst 8 (0 : Int32) dX8_up_8 (by decide +kernel) ?_
    refine G.ldc 9 (99999 : Int32) wd_689 dX8_up_9 ?_
    refine G.csZ 11 (As := [.int x2, .int (0 : Int32), .int (99999 : Int32)]) (c_X8_within Z hs1 x2 (0 : Int32) (99999 : Int32) rfl) mk_X8_within wd_430 wd_429 hR (by decide +kernel) ⟨rfl, rfl⟩ rfl (Nat.le_of_ble_eq_true rfl) dX8_up_11 (fun hs4 z5 => ?_)
    refine G.if_eq 14 27 dX8_up_14 (by decide) (fun h6 => ?_) (fun h6 => ?_)
    · replace hf := (if_pos h6).symm.trans hf
      refine G.iconst 27 (-1 : Int32) dX8_up_27 (by decide +kernel) ?_
      (have hf9 := Option.some.inj hf; subst hf9)
      exact G.rI 28 hq dX8_up_28 hs4
    · replace hf := (if_neg h6).symm.trans hf
      refine G.iload_n 17 3 dX8_up_17 rfl rfl ?_
      refine G.iconst 18 (0 : Int32) dX8_up_18 (by decide +kernel) ?_
      refine G.ldc 19 (99999 : Int32) wd_689 dX8_up_19 ?_
      refine G.csZ 21 (As := [.int x3, .int (0 : Int32), .int (99999 : Int32)]) (c_X8_within Z hs4 x3 (0 : Int32) (99999 : Int32) rfl) mk_X8_within wd_430 wd_429 hR (by decide +kernel) ⟨rfl, rfl⟩ rfl (Nat.le_of_ble_eq_true rfl) dX8_up_21 (fun hs7 z8 => ?_)
      refine G.if_ne 24 29 dX8_up_24 (by decide) (fun h9 => ?_) (fun h9 => ?_)
      · replace hf := (if_neg h9).symm.trans hf
        refine G.aload_n 29 0 dX8_up_29 rfl rfl ?_
        refine G.getp 30 ck_8 0 1 (hs7.k k0_0) (pc_8_0 hs7) (by decide) (by decide +kernel) wd_400 dX8_up_30 ?_
        refine G.getp 33 ck_0 3 4 (hs7.k k0_1) (pt_0_3 hs7 k0_1).1 (by decide) (by decide +kernel) wd_268 dX8_up_33 ?_
        refine G.iload_n 36 1 dX8_up_36 rfl rfl ?_
        obtain ⟨g10, hf⟩ := gd_e hf
        refine G.za 37 x1.toNatClampNeg (hs7.k k0_4) g10 rfl dX8_up_37 ?_
        refine G.if_eq 38 45 dX8_up_38 (by decide) (fun h11 => ?_) (fun h11 => ?_)
        · replace hf := (if_pos h11).symm.trans hf
          refine G.iconst 45 (1 : Int32) dX8_up_45 (by decide +kernel) ?_
          refine G.istore 46 [(4, .int (1 : Int32)), (0, .ref (zs Z + 0)), (1, .int x1), (2, .int x2), (3, .int x3)] dX8_up_46 (Nat.le_of_ble_eq_true rfl) rfl ?_
          refine G.aload_n 48 1 dX8_up_48 rfl rfl ?_
          refine G.getp 49 ck_8 0 1 (hs7.k k0_0) (pc_8_0 hs7) (by decide) (by decide +kernel) wd_400 dX8_up_49 ?_
          refine G.getp 52 ck_0 3 4 (hs7.k k0_1) (pt_0_3 hs7 k0_1).1 (by decide) (by decide +kernel) wd_268 dX8_up_52 ?_
          refine G.iload_n 55 2 dX8_up_55 rfl rfl ?_
          refine G.iconst 56 (1 : Int32) dX8_up_56 (by decide +kernel) ?_
          refine G.zt 57 x1.toNatClampNeg (1 : Int32) (hs7.k k0_4) g10 rfl (by decide +kernel) dX8_up_57 ?_
          refine G.aload_n 58 1 dX8_up_58 rfl rfl ?_
          refine G.getp 59 ck_8 0 1 ((St.i hs7).k k0_0) (pc_8_0 (St.i hs7)) (by decide) (by decide +kernel) wd_400 dX8_up_59 ?_
          refine G.getp 62 ck_0 4 5 ((St.i hs7).k k0_1) (pt_0_4 (St.i hs7) k0_1).1 (by decide) (by decide +kernel) wd_270 dX8_up_62 ?_
          refine G.iload_n 65 2 dX8_up_65 rfl rfl ?_
          refine G.iload_n 66 3 dX8_up_66 rfl rfl ?_
          refine G.ist 67 x1.toNatClampNeg ((St.i hs7).k k0_5) g10 rfl dX8_up_67 ?_
          refine G.aload_n 68 1 dX8_up_68 rfl rfl ?_
          refine G.getp 69 ck_8 0 1 ((St.i (St.i hs7)).k k0_0) (pc_8_0 (St.i (St.i hs7))) (by decide) (by decide +kernel) wd_400 dX8_up_69 ?_
          refine G.getp 72 ck_0 5 6 ((St.i (St.i hs7)).k k0_1) (pt_0_5 (St.i (St.i hs7)) k0_1).1 (by decide) (by decide +kernel) wd_272 dX8_up_72 ?_
          refine G.iload_n 75 2 dX8_up_75 rfl rfl ?_
          refine G.iload_n 76 4 dX8_up_76 rfl rfl ?_
          refine G.ist 77 x1.toNatClampNeg ((St.i (St.i hs7)).k k0_6) g10 rfl dX8_up_77 ?_
          refine G.iload 78 0 dX8_up_78 rfl ?_
          (have hf9 := Option.some.inj hf; subst hf9)
          exact G.rI 80 hq dX8_up_80 (St.i (St.i (St.i hs7)))
        · replace hf := (if_neg h11).symm.trans hf
          refine G.iconst 41 (0 : Int32) dX8_up_41 (by decide +kernel) ?_
          refine G.goto 42 46 dX8_up_42 (by decide) ?_
          refine G.istore 46 [(4, .int (0 : Int32)), (0, .ref (zs Z + 0)), (1, .int x1), (2, .int x2), (3, .int x3)] dX8_up_46 (Nat.le_of_ble_eq_true rfl) rfl ?_
          refine G.aload_n 48 1 dX8_up_48 rfl rfl ?_
          refine G.getp 49 ck_8 0 1 (hs7.k k0_0) (pc_8_0 hs7) (by decide) (by decide +kernel) wd_400 dX8_up_49 ?_
          refine G.getp 52 ck_0 3 4 (hs7.k k0_1) (pt_0_3 hs7 k0_1).1 (by decide) (by decide +kernel) wd_268 dX8_up_52 ?_
          refine G.iload_n 55 2 dX8_up_55 rfl rfl ?_
          refine G.iconst 56 (1 : Int32) dX8_up_56 (by decide +kernel) ?_
          refine G.zt 57 x1.toNatClampNeg (1 : Int32) (hs7.k k0_4) g10 rfl (by decide +kernel) dX8_up_57 ?_
          refine G.aload_n 58 1 dX8_up_58 rfl rfl ?_
          refine G.getp 59 ck_8 0 1 ((St.i hs7).k k0_0) (pc_8_0 (St.i hs7)) (by decide) (by decide +kernel) wd_400 dX8_up_59 ?_
          refine G.getp 62 ck_0 4 5 ((St.i hs7).k k0_1) (pt_0_4 (St.i hs7) k0_1).1 (by decide) (by decide +kernel) wd_270 dX8_up_62 ?_
          refine G.iload_n 65 2 dX8_up_65 rfl rfl ?_
          refine G.iload_n 66 3 dX8_up_66 rfl rfl ?_
          refine G.ist 67 x1.toNatClampNeg ((St.i hs7).k k0_5) g10 rfl dX8_up_67 ?_
          refine G.aload_n 68 1 dX8_up_68 rfl rfl ?_
          refine G.getp 69 ck_8 0 1 ((St.i (St.i hs7)).k k0_0) (pc_8_0 (St.i (St.i hs7))) (by decide) (by decide +kernel) wd_400 dX8_up_69 ?_
          refine G.getp 72 ck_0 5 6 ((St.i (St.i hs7)).k k0_1) (pt_0_5 (St.i (St.i hs7)) k0_1).1 (by decide) (by decide +kernel) wd_272 dX8_up_72 ?_
          refine G.iload_n 75 2 dX8_up_75 rfl rfl ?_
          refine G.iload_n 76 4 dX8_up_76 rfl rfl ?_
          refine G.ist 77 x1.toNatClampNeg ((St.i (St.i hs7)).k k0_6) g10 rfl dX8_up_77 ?_
          refine G.iload 78 0 dX8_up_78 rfl ?_
          (have hf9 := Option.some.inj hf; subst hf9)
          exact G.rI 80 hq dX8_up_80 (St.i (St.i (St.i hs7)))
      · replace hf := (if_pos h9).symm.trans hf
        refine G.iconst 27 (-1 : Int32) dX8_up_27 (by decide +kernel) ?_
        (have hf9 := Option.some.inj hf; subst hf9)
        exact G.rI 28 hq dX8_up_28 hs7
abbrev Y_X8_watch : My := (cX8_watch, RX8, 4)
def rm_X8_watch : Room := { frames := 3, cells := 0, slots := 0, locals := 243 }
theorem dX8_watch_0 : decode cX8_watch 0 = .ok (.aload_n 0, 1) := by decide +kernel
theorem dX8_watch_1 : decode cX8_watch 1 = .ok (.getfield 10, 3) := by decide +kernel
theorem dX8_watch_4 : decode cX8_watch 4 = .ok (.iload_n 1, 1) := by decide +kernel
theorem dX8_watch_5 : decode cX8_watch 5 = .ok (.invokevirtual 58, 3) := by decide +kernel
theorem dX8_watch_8 : decode cX8_watch 8 = .ok (.ifCond .ne 5, 3) := by decide +kernel
theorem dX8_watch_11 : decode cX8_watch 11 = .ok (.iconst (-1), 1) := by decide +kernel
theorem dX8_watch_12 : decode cX8_watch 12 = .ok (.ireturn, 1) := by decide +kernel
theorem dX8_watch_13 : decode cX8_watch 13 = .ok (.aload_n 0, 1) := by decide +kernel
theorem dX8_watch_14 : decode cX8_watch 14 = .ok (.getfield 10, 3) := by decide +kernel
theorem dX8_watch_17 : decode cX8_watch 17 = .ok (.getfield 62, 3) := by decide +kernel
theorem dX8_watch_20 : decode cX8_watch 20 = .ok (.iload_n 1, 1) := by decide +kernel
theorem dX8_watch_21 : decode cX8_watch 21 = .ok (.aaload, 1) := by decide +kernel
theorem dX8_watch_22 : decode cX8_watch 22 = .ok (.astore_n 3, 1) := by decide +kernel
theorem dX8_watch_23 : decode cX8_watch 23 = .ok (.aload_n 3, 1) := by decide +kernel
theorem dX8_watch_24 : decode cX8_watch 24 = .ok (.getfield 183, 3) := by decide +kernel
theorem dX8_watch_27 : decode cX8_watch 27 = .ok (.iload_n 2, 1) := by decide +kernel
theorem dX8_watch_28 : decode cX8_watch 28 = .ok (.if_icmp .ne 5, 3) := by decide +kernel
theorem dX8_watch_31 : decode cX8_watch 31 = .ok (.iconst 0, 1) := by decide +kernel
theorem dX8_watch_32 : decode cX8_watch 32 = .ok (.ireturn, 1) := by decide +kernel
theorem dX8_watch_33 : decode cX8_watch 33 = .ok (.aload_n 3, 1) := by decide +kernel
theorem dX8_watch_34 : decode cX8_watch 34 = .ok (.iload_n 2, 1) := by decide +kernel
theorem dX8_watch_35 : decode cX8_watch 35 = .ok (.putfield 183, 3) := by decide +kernel
theorem dX8_watch_38 : decode cX8_watch 38 = .ok (.iconst 1, 1) := by decide +kernel
theorem dX8_watch_39 : decode cX8_watch 39 = .ok (.ireturn, 1) := by decide +kernel
def f_X8_watch (x1 : Int32) (x2 : Int32) (M : Mem) : Option (Int32 × Mem) := if (f_X0_isHall 1 x1 M) = 0 then some ((-1 : Int32), M) else gd (inR x1 30) (if (mI M (2 + 23 + 2 * x1.toNatClampNeg) 8) = x2 then some ((0 : Int32), M) else gd (x2 = 0 ∨ x2 = 1) (some ((1 : Int32), (sI M (2 + 23 + 2 * x1.toNatClampNeg) 8 x2))))
set_option maxRecDepth 100000 in
set_option maxHeartbeats 4000000 in
theorem c_X8_watch (Z : Sys) {M : Mem} (hs : St M) (x1 : Int32) (x2 : Int32) {q : Int32 × Mem} (hf : f_X8_watch x1 x2 M = some q) : Ct Z yX8_watch cX8_watch 4 (some .int) rm_X8_watch [.ref (zs Z + 0), .int x1, .int x2] M False (PostI q.1 q.2) := by
  refine Ct.of (by decide +kernel) (Nat.le_of_ble_eq_true rfl) (fun X hR hq _ => ?_)
  show G Z X Y_X8_watch False 0 0 0 [(0, .ref (zs Z + 0)), (1, .int x1), (2, .int x2)] [] M
  replace hq : RetOk Z X (some .int) False (PostI q.1 q.2) 0 0 := hq
  unfold f_X8_watch at hf
  refine G.aload_n 0 0 dX8_watch_0 rfl rfl ?_
  refine G.getp 1 ck_8 0 1 (hs.k k0_0) (pc_8_0 hs) (by decide) (by decide +kernel) wd_400 dX8_watch_1 ?_
  refine G.iload_n 4 1 dX8_watch_4 rfl rfl ?_
  refine G.cvZ 5 (As := [.int x1]) ck_0 (hs.k k0_1) (c_X0_isHall Z hs 1 x1 k0_1 rfl) mk_X0_isHall vk_X0_isHall rfl wd_444 hR (by decide +kernel) ⟨rfl, rfl⟩ rfl (Nat.le_of_ble_eq_true rfl) dX8_watch_5 (fun hs1 z2 => ?_)
  refine G.if_ne 8 13 dX8_watch_8 (by decide) (fun h3 => ?_) (fun h3 => ?_)
  · replace hf := (if_neg h3).symm.trans hf
    refine G.aload_n 13 0 dX8_watch_13 rfl rfl ?_
    refine G.getp 14 ck_8 0 1 (hs1.k k0_0) (pc_8_0 hs1) (by decide) (by decide +kernel) wd_400 dX8_watch_14 ?_
    refine G.getp 17 ck_0 0 2 (hs1.k k0_1) (pt_0_0 hs1 k0_1).1 (by decide) (by decide +kernel) wd_260 dX8_watch_17 ?_
    refine G.iload_n 20 1 dX8_watch_20 rfl rfl ?_
    obtain ⟨g4, hf⟩ := gd_e hf
    refine G.aa 21 x1.toNatClampNeg (2 + 23 + 2 * x1.toNatClampNeg) (hs1.k k0_2) (by decide) rfl rfl g4 rfl (pa_13 hs1 k0_2 (inlt g4)).1 dX8_watch_21 ?_
    refine G.astore_n 22 [(3, .ref (zs Z + (2 + 23 + 2 * x1.toNatClampNeg))), (0, .ref (zs Z + 0)), (1, .int x1), (2, .int x2)] dX8_watch_22 rfl (Nat.le_of_ble_eq_true rfl) rfl ?_
    refine G.aload_n 23 0 dX8_watch_23 rfl rfl ?_
    refine G.geti 24 ck_1 8 (hs1.k (pa_13 hs1 k0_2 (inlt g4)).2) (by decide) (by decide +kernel) wd_217 dX8_watch_24 ?_
    refine G.iload_n 27 3 dX8_watch_27 rfl rfl ?_
    refine G.icmp_ne 28 33 dX8_watch_28 (by decide) (fun h5 => ?_) (fun h5 => ?_)
    · replace hf := (if_neg h5).symm.trans hf
      refine G.aload_n 33 0 dX8_watch_33 rfl rfl ?_
      refine G.iload_n 34 3 dX8_watch_34 rfl rfl ?_
      obtain ⟨g6, hf⟩ := gd_e hf
      refine G.puti 35 ck_1 8 (hs1.k (pa_13 hs1 k0_2 (inlt g4)).2) (by decide) (by decide +kernel) rfl wd_217 (nz_ok g6) (fz_ok g6) dX8_watch_35 ?_
      refine G.iconst 38 (1 : Int32) dX8_watch_38 (by decide +kernel) ?_
      (have hf9 := Option.some.inj hf; subst hf9)
      exact G.rI 39 hq dX8_watch_39 (St.i hs1)
    · replace hf := (if_pos h5).symm.trans hf
      refine G.iconst 31 (0 : Int32) dX8_watch_31 (by decide +kernel) ?_
      (have hf9 := Option.some.inj hf; subst hf9)
      exact G.rI 32 hq dX8_watch_32 hs1
  · replace hf := (if_pos h3).symm.trans hf
    refine G.iconst 11 (-1 : Int32) dX8_watch_11 (by decide +kernel) ?_
    (have hf9 := Option.some.inj hf; subst hf9)
    exact G.rI 12 hq dX8_watch_12 hs1
abbrev Y_X8_ways : My := (cX8_ways, RX8, 2)
def rm_X8_ways : Room := { frames := 4, cells := 0, slots := 0, locals := 264 }
theorem dX8_ways_0 : decode cX8_ways 0 = .ok (.iload_n 1, 1) := by decide +kernel
theorem dX8_ways_1 : decode cX8_ways 1 = .ok (.iconst 0, 1) := by decide +kernel
theorem dX8_ways_2 : decode cX8_ways 2 = .ok (.iconst 1, 1) := by decide +kernel
theorem dX8_ways_3 : decode cX8_ways 3 = .ok (.invokestatic 50, 3) := by decide +kernel
theorem dX8_ways_6 : decode cX8_ways 6 = .ok (.ifCond .ne 5, 3) := by decide +kernel
theorem dX8_ways_9 : decode cX8_ways 9 = .ok (.iconst (-1), 1) := by decide +kernel
theorem dX8_ways_10 : decode cX8_ways 10 = .ok (.ireturn, 1) := by decide +kernel
theorem dX8_ways_11 : decode cX8_ways 11 = .ok (.aload_n 0, 1) := by decide +kernel
theorem dX8_ways_12 : decode cX8_ways 12 = .ok (.getfield 31, 3) := by decide +kernel
theorem dX8_ways_15 : decode cX8_ways 15 = .ok (.aload_n 0, 1) := by decide +kernel
theorem dX8_ways_16 : decode cX8_ways 16 = .ok (.getfield 10, 3) := by decide +kernel
theorem dX8_ways_19 : decode cX8_ways 19 = .ok (.invokevirtual 186, 3) := by decide +kernel
theorem dX8_ways_22 : decode cX8_ways 22 = .ok (.aload_n 0, 1) := by decide +kernel
theorem dX8_ways_23 : decode cX8_ways 23 = .ok (.getfield 31, 3) := by decide +kernel
theorem dX8_ways_26 : decode cX8_ways 26 = .ok (.invokevirtual 197, 3) := by decide +kernel
theorem dX8_ways_29 : decode cX8_ways 29 = .ok (.ifCond .ne 6, 3) := by decide +kernel
theorem dX8_ways_32 : decode cX8_ways 32 = .ok (.bipush (-3), 2) := by decide +kernel
theorem dX8_ways_34 : decode cX8_ways 34 = .ok (.ireturn, 1) := by decide +kernel
theorem dX8_ways_35 : decode cX8_ways 35 = .ok (.aload_n 0, 1) := by decide +kernel
theorem dX8_ways_36 : decode cX8_ways 36 = .ok (.getfield 31, 3) := by decide +kernel
theorem dX8_ways_39 : decode cX8_ways 39 = .ok (.invokevirtual 190, 3) := by decide +kernel
theorem dX8_ways_42 : decode cX8_ways 42 = .ok (.ifCond .ne 6, 3) := by decide +kernel
theorem dX8_ways_45 : decode cX8_ways 45 = .ok (.bipush (-4), 2) := by decide +kernel
theorem dX8_ways_47 : decode cX8_ways 47 = .ok (.ireturn, 1) := by decide +kernel
theorem dX8_ways_48 : decode cX8_ways 48 = .ok (.aload_n 0, 1) := by decide +kernel
theorem dX8_ways_49 : decode cX8_ways 49 = .ok (.getfield 31, 3) := by decide +kernel
theorem dX8_ways_52 : decode cX8_ways 52 = .ok (.iload_n 1, 1) := by decide +kernel
theorem dX8_ways_53 : decode cX8_ways 53 = .ok (.iconst 1, 1) := by decide +kernel
theorem dX8_ways_54 : decode cX8_ways 54 = .ok (.if_icmp .ne 7, 3) := by decide +kernel
theorem dX8_ways_57 : decode cX8_ways 57 = .ok (.iconst 1, 1) := by decide +kernel
theorem dX8_ways_58 : decode cX8_ways 58 = .ok (.goto 4, 3) := by decide +kernel
theorem dX8_ways_61 : decode cX8_ways 61 = .ok (.iconst 0, 1) := by decide +kernel
theorem dX8_ways_62 : decode cX8_ways 62 = .ok (.invokevirtual 200, 3) := by decide +kernel
theorem dX8_ways_65 : decode cX8_ways 65 = .ok (.ireturn, 1) := by decide +kernel
def f_X8_ways (x1 : Int32) (M : Mem) : Option (Int32 × Mem) := if (f_X8_within x1 (0 : Int32) (1 : Int32)) = 0 then some ((-1 : Int32), M) else (f_X7_look 1 M).bind fun q6 => if (f_X7_areFew q6) = 0 then some ((-3 : Int32), q6) else if (f_X7_areSome q6) = 0 then some ((-4 : Int32), q6) else if x1 = (1 : Int32) then (f_X7_choices (1 : Int32) q6).bind fun q21 => some (q21, q6) else (f_X7_choices (0 : Int32) q6).bind fun q17 => some (q17, q6)
set_option maxRecDepth 100000 in
set_option maxHeartbeats 4000000 in
theorem c_X8_ways (Z : Sys) {M : Mem} (hs : St M) (x1 : Int32) {q : Int32 × Mem} (hf : f_X8_ways x1 M = some q) : Ct Z yX8_ways cX8_ways 2 (some .int) rm_X8_ways [.ref (zs Z + 0), .int x1] M False (PostI q.1 q.2) := by
  refine Ct.of (by decide +kernel) (Nat.le_of_ble_eq_true rfl) (fun X hR hq _ => ?_)
  show G Z X Y_X8_ways False 0 0 0 [(0, .ref (zs Z + 0)), (1, .int x1)] [] M
  replace hq : RetOk Z X (some .int) False (PostI q.1 q.2) 0 0 := hq
  unfold f_X8_ways at hf
  refine G.iload_n 0 1 dX8_ways_0 rfl rfl ?_
  refine G.iconst 1 (0 : Int32) dX8_ways_1 (by decide +kernel) ?_
  refine G.iconst 2 (1 : Int32) dX8_ways_2 (by decide +kernel) ?_
  refine G.csZ 3 (As := [.int x1, .int (0 : Int32), .int (1 : Int32)]) (c_X8_within Z hs x1 (0 : Int32) (1 : Int32) rfl) mk_X8_within wd_430 wd_429 hR (by decide +kernel) ⟨rfl, rfl⟩ rfl (Nat.le_of_ble_eq_true rfl) dX8_ways_3 (fun hs1 z2 => ?_)
  refine G.if_ne 6 11 dX8_ways_6 (by decide) (fun h3 => ?_) (fun h3 => ?_)
  · replace hf := (if_neg h3).symm.trans hf
    refine G.aload_n 11 0 dX8_ways_11 rfl rfl ?_
    refine G.getp 12 ck_8 5 254 (hs1.k k0_0) (pc_8_5 hs1) (by decide) (by decide +kernel) wd_405 dX8_ways_12 ?_
    refine G.aload_n 15 0 dX8_ways_15 rfl rfl ?_
    refine G.getp 16 ck_8 0 1 (hs1.k k0_0) (pc_8_0 hs1) (by decide) (by decide +kernel) wd_400 dX8_ways_16 ?_
    obtain ⟨q6, e7, hf⟩ := bd_e hf
    refine G.cvV 19 (As := [.ref (zs Z + 1)]) ck_7 (hs1.k k0_254) (c_X7_look Z hs1 1 k0_1 e7) mk_X7_look vk_X7_look rfl wd_646 hR (by decide +kernel) ⟨rfl, rfl⟩ rfl (Nat.le_of_ble_eq_true rfl) dX8_ways_19 (fun hs4 => ?_)
    refine G.aload_n 22 0 dX8_ways_22 rfl rfl ?_
    refine G.getp 23 ck_8 5 254 (hs4.k k0_0) (pc_8_5 hs4) (by decide) (by decide +kernel) wd_405 dX8_ways_23 ?_
    refine G.cvZ 26 (As := []) ck_7 (hs4.k k0_254) (c_X7_areFew Z hs4 rfl) mk_X7_areFew vk_X7_areFew rfl wd_663 hR (by decide +kernel) ⟨rfl, rfl⟩ rfl (Nat.le_of_ble_eq_true rfl) dX8_ways_26 (fun hs8 z9 => ?_)
    refine G.if_ne 29 35 dX8_ways_29 (by decide) (fun h10 => ?_) (fun h10 => ?_)
    · replace hf := (if_neg h10).symm.trans hf
      refine G.aload_n 35 0 dX8_ways_35 rfl rfl ?_
      refine G.getp 36 ck_8 5 254 (hs8.k k0_0) (pc_8_5 hs8) (by decide) (by decide +kernel) wd_405 dX8_ways_36 ?_
      refine G.cvZ 39 (As := []) ck_7 (hs8.k k0_254) (c_X7_areSome Z hs8 rfl) mk_X7_areSome vk_X7_areSome rfl wd_651 hR (by decide +kernel) ⟨rfl, rfl⟩ rfl (Nat.le_of_ble_eq_true rfl) dX8_ways_39 (fun hs11 z12 => ?_)
      refine G.if_ne 42 48 dX8_ways_42 (by decide) (fun h13 => ?_) (fun h13 => ?_)
      · replace hf := (if_neg h13).symm.trans hf
        refine G.aload_n 48 0 dX8_ways_48 rfl rfl ?_
        refine G.getp 49 ck_8 5 254 (hs11.k k0_0) (pc_8_5 hs11) (by decide) (by decide +kernel) wd_405 dX8_ways_49 ?_
        refine G.iload_n 52 1 dX8_ways_52 rfl rfl ?_
        refine G.iconst 53 (1 : Int32) dX8_ways_53 (by decide +kernel) ?_
        refine G.icmp_ne 54 61 dX8_ways_54 (by decide) (fun h14 => ?_) (fun h14 => ?_)
        · replace hf := (if_neg h14).symm.trans hf
          refine G.iconst 61 (0 : Int32) dX8_ways_61 (by decide +kernel) ?_
          obtain ⟨q17, e18, hf⟩ := bd_e hf
          refine G.cvI 62 (As := [.int (0 : Int32)]) ck_7 (hs11.k k0_254) (c_X7_choices Z hs11 (0 : Int32) e18) mk_X7_choices vk_X7_choices rfl wd_667 hR (by decide +kernel) ⟨rfl, rfl⟩ rfl (Nat.le_of_ble_eq_true rfl) dX8_ways_62 (fun hs15 => ?_)
          (have hf9 := Option.some.inj hf; subst hf9)
          exact G.rI 65 hq dX8_ways_65 hs15
        · replace hf := (if_pos h14).symm.trans hf
          refine G.iconst 57 (1 : Int32) dX8_ways_57 (by decide +kernel) ?_
          refine G.goto 58 62 dX8_ways_58 (by decide) ?_
          obtain ⟨q21, e22, hf⟩ := bd_e hf
          refine G.cvI 62 (As := [.int (1 : Int32)]) ck_7 (hs11.k k0_254) (c_X7_choices Z hs11 (1 : Int32) e22) mk_X7_choices vk_X7_choices rfl wd_667 hR (by decide +kernel) ⟨rfl, rfl⟩ rfl (Nat.le_of_ble_eq_true rfl) dX8_ways_62 (fun hs19 => ?_)
          (have hf9 := Option.some.inj hf; subst hf9)
          exact G.rI 65 hq dX8_ways_65 hs19
      · replace hf := (if_pos h13).symm.trans hf
        refine G.bipush 45 (-4 : Int32) dX8_ways_45 (by decide +kernel) ?_
        (have hf9 := Option.some.inj hf; subst hf9)
        exact G.rI 47 hq dX8_ways_47 hs11
    · replace hf := (if_pos h10).symm.trans hf
      refine G.bipush 32 (-3 : Int32) dX8_ways_32 (by decide +kernel) ?_
      (have hf9 := Option.some.inj hf; subst hf9)
      exact G.rI 34 hq dX8_ways_34 hs8
  · replace hf := (if_pos h3).symm.trans hf
    refine G.iconst 9 (-1 : Int32) dX8_ways_9 (by decide +kernel) ?_
    (have hf9 := Option.some.inj hf; subst hf9)
    exact G.rI 10 hq dX8_ways_10 hs1
abbrev Y_X8_weight : My := (cX8_weight, RX8, 3)
def rm_X8_weight : Room := { frames := 4, cells := 0, slots := 0, locals := 263 }
theorem dX8_weight_0 : decode cX8_weight 0 = .ok (.aload_n 0, 1) := by decide +kernel
theorem dX8_weight_1 : decode cX8_weight 1 = .ok (.iload_n 1, 1) := by decide +kernel
theorem dX8_weight_2 : decode cX8_weight 2 = .ok (.invokevirtual 348, 3) := by decide +kernel
theorem dX8_weight_5 : decode cX8_weight 5 = .ok (.istore_n 2, 1) := by decide +kernel
theorem dX8_weight_6 : decode cX8_weight 6 = .ok (.iload_n 2, 1) := by decide +kernel
theorem dX8_weight_7 : decode cX8_weight 7 = .ok (.ifCond .eq 7, 3) := by decide +kernel
theorem dX8_weight_10 : decode cX8_weight 10 = .ok (.iload_n 2, 1) := by decide +kernel
theorem dX8_weight_11 : decode cX8_weight 11 = .ok (.goto 15, 3) := by decide +kernel
theorem dX8_weight_14 : decode cX8_weight 14 = .ok (.aload_n 0, 1) := by decide +kernel
theorem dX8_weight_15 : decode cX8_weight 15 = .ok (.getfield 24, 3) := by decide +kernel
theorem dX8_weight_18 : decode cX8_weight 18 = .ok (.iload_n 1, 1) := by decide +kernel
theorem dX8_weight_19 : decode cX8_weight 19 = .ok (.aaload, 1) := by decide +kernel
theorem dX8_weight_20 : decode cX8_weight 20 = .ok (.getfield 351, 3) := by decide +kernel
theorem dX8_weight_23 : decode cX8_weight 23 = .ok (.invokevirtual 352, 3) := by decide +kernel
theorem dX8_weight_26 : decode cX8_weight 26 = .ok (.ireturn, 1) := by decide +kernel
def f_X8_weight (x1 : Int32) (M : Mem) : Option Int32 := (f_X8_sheetRefusal x1 M).bind fun q3 => if q3 = 0 then gd (inR x1 8) (some (f_X5_heaviness ((253 + 7 + 3 * x1.toNatClampNeg) + 1) M)) else some q3
set_option maxRecDepth 100000 in
set_option maxHeartbeats 4000000 in
theorem c_X8_weight (Z : Sys) {M : Mem} (hs : St M) (x1 : Int32) {q : Int32} (hf : f_X8_weight x1 M = some q) : Ct Z yX8_weight cX8_weight 3 (some .int) rm_X8_weight [.ref (zs Z + 0), .int x1] M False (PostI q M) := by
  refine Ct.of (by decide +kernel) (Nat.le_of_ble_eq_true rfl) (fun X hR hq _ => ?_)
  show G Z X Y_X8_weight False 0 0 0 [(0, .ref (zs Z + 0)), (1, .int x1)] [] M
  replace hq : RetOk Z X (some .int) False (PostI q M) 0 0 := hq
  unfold f_X8_weight at hf
  refine G.aload_n 0 0 dX8_weight_0 rfl rfl ?_
  refine G.iload_n 1 1 dX8_weight_1 rfl rfl ?_
  obtain ⟨q3, e4, hf⟩ := bd_e hf
  refine G.cvI 2 (As := [.int x1]) ck_8 (hs.k k0_0) (c_X8_sheetRefusal Z hs x1 e4) mk_X8_sheetRefusal vk_X8_sheetRefusal rfl wd_1144 hR (by decide +kernel) ⟨rfl, rfl⟩ rfl (Nat.le_of_ble_eq_true rfl) dX8_weight_2 (fun hs1 => ?_)
  refine G.istore_n 5 [(2, .int q3), (0, .ref (zs Z + 0)), (1, .int x1)] dX8_weight_5 rfl (Nat.le_of_ble_eq_true rfl) rfl ?_
  refine G.iload_n 6 0 dX8_weight_6 rfl rfl ?_
  refine G.if_eq 7 14 dX8_weight_7 (by decide) (fun h5 => ?_) (fun h5 => ?_)
  · replace hf := (if_pos h5).symm.trans hf
    refine G.aload_n 14 1 dX8_weight_14 rfl rfl ?_
    refine G.getp 15 ck_8 4 253 (hs1.k k0_0) (pc_8_4 hs1) (by decide) (by decide +kernel) wd_404 dX8_weight_15 ?_
    refine G.iload_n 18 2 dX8_weight_18 rfl rfl ?_
    obtain ⟨g6, hf⟩ := gd_e hf
    refine G.aa 19 x1.toNatClampNeg (253 + 7 + 3 * x1.toNatClampNeg) (hs1.k k0_253) (by decide) rfl rfl g6 rfl (pa_14 hs1 k0_253 (inlt g6)).1 dX8_weight_19 ?_
    refine G.getp 20 ck_6 1 ((253 + 7 + 3 * x1.toNatClampNeg) + 1) (hs1.k (pa_14 hs1 k0_253 (inlt g6)).2) (pt_6_1 hs1 (pa_14 hs1 k0_253 (inlt g6)).2).1 (by decide) (by decide +kernel) wd_376 dX8_weight_20 ?_
    refine G.cvI 23 (As := []) ck_5 (hs1.k (pt_6_1 hs1 (pa_14 hs1 k0_253 (inlt g6)).2).2) (c_X5_heaviness Z hs1 ((253 + 7 + 3 * x1.toNatClampNeg) + 1) (pt_6_1 hs1 (pa_14 hs1 k0_253 (inlt g6)).2).2 rfl) mk_X5_heaviness vk_X5_heaviness rfl wd_1148 hR (by decide +kernel) ⟨rfl, rfl⟩ rfl (Nat.le_of_ble_eq_true rfl) dX8_weight_23 (fun hs7 => ?_)
    (have hf9 := Option.some.inj hf; subst hf9)
    exact G.rI 26 hq dX8_weight_26 hs7
  · replace hf := (if_neg h5).symm.trans hf
    refine G.iload_n 10 0 dX8_weight_10 rfl rfl ?_
    refine G.goto 11 26 dX8_weight_11 (by decide) ?_
    (have hf9 := Option.some.inj hf; subst hf9)
    exact G.rI 26 hq dX8_weight_26 hs1
abbrev Y_X8_won : My := (cX8_won, RX8, 1)
def rm_X8_won : Room := { frames := 4, cells := 0, slots := 0, locals := 266 }
theorem dX8_won_0 : decode cX8_won 0 = .ok (.aload_n 0, 1) := by decide +kernel
theorem dX8_won_1 : decode cX8_won 1 = .ok (.getfield 10, 3) := by decide +kernel
theorem dX8_won_4 : decode cX8_won 4 = .ok (.invokevirtual 228, 3) := by decide +kernel
theorem dX8_won_7 : decode cX8_won 7 = .ok (.ifCond .le 7, 3) := by decide +kernel
theorem dX8_won_10 : decode cX8_won 10 = .ok (.iconst 1, 1) := by decide +kernel
theorem dX8_won_11 : decode cX8_won 11 = .ok (.goto 4, 3) := by decide +kernel
theorem dX8_won_14 : decode cX8_won 14 = .ok (.iconst 0, 1) := by decide +kernel
theorem dX8_won_15 : decode cX8_won 15 = .ok (.ireturn, 1) := by decide +kernel
def f_X8_won (M : Mem) : Option Int32 := (f_X0_sentMargin 1 M).bind fun q3 => if q3 ≤ 0 then some (0 : Int32) else some (1 : Int32)
set_option maxRecDepth 100000 in
set_option maxHeartbeats 4000000 in
theorem c_X8_won (Z : Sys) {M : Mem} (hs : St M) {q : Int32} (hf : f_X8_won M = some q) : Ct Z yX8_won cX8_won 1 (some .int) rm_X8_won [.ref (zs Z + 0)] M False (PostI q M) := by
  refine Ct.of (by decide +kernel) (Nat.le_of_ble_eq_true rfl) (fun X hR hq _ => ?_)
  show G Z X Y_X8_won False 0 0 0 [(0, .ref (zs Z + 0))] [] M
  replace hq : RetOk Z X (some .int) False (PostI q M) 0 0 := hq
  unfold f_X8_won at hf
  refine G.aload_n 0 0 dX8_won_0 rfl rfl ?_
  refine G.getp 1 ck_8 0 1 (hs.k k0_0) (pc_8_0 hs) (by decide) (by decide +kernel) wd_400 dX8_won_1 ?_
  obtain ⟨q3, e4, hf⟩ := bd_e hf
  refine G.cvI 4 (As := []) ck_0 (hs.k k0_1) (c_X0_sentMargin Z hs 1 k0_1 e4) mk_X0_sentMargin vk_X0_sentMargin rfl wd_720 hR (by decide +kernel) ⟨rfl, rfl⟩ rfl (Nat.le_of_ble_eq_true rfl) dX8_won_4 (fun hs1 => ?_)
  refine G.if_le 7 14 dX8_won_7 (by decide) (fun h5 => ?_) (fun h5 => ?_)
  · replace hf := (if_pos h5).symm.trans hf
    refine G.iconst 14 (0 : Int32) dX8_won_14 (by decide +kernel) ?_
    (have hf9 := Option.some.inj hf; subst hf9)
    exact G.rI 15 hq dX8_won_15 hs1
  · replace hf := (if_neg h5).symm.trans hf
    refine G.iconst 10 (1 : Int32) dX8_won_10 (by decide +kernel) ?_
    refine G.goto 11 15 dX8_won_11 (by decide) ?_
    (have hf9 := Option.some.inj hf; subst hf9)
    exact G.rI 15 hq dX8_won_15 hs1
abbrev Y_X9_isIn : My := (cX9_isIn, RX9, 6)
def rm_X9_isIn : Room := { frames := 1, cells := 0, slots := 0, locals := 200 }
theorem dX9_isIn_0 : decode cX9_isIn 0 = .ok (.lload_n 0, 1) := by decide +kernel
theorem dX9_isIn_1 : decode cX9_isIn 1 = .ok (.lload_n 2, 1) := by decide +kernel
theorem dX9_isIn_2 : decode cX9_isIn 2 = .ok (.lcmp, 1) := by decide +kernel
theorem dX9_isIn_3 : decode cX9_isIn 3 = .ok (.ifCond .lt 14, 3) := by decide +kernel
theorem dX9_isIn_6 : decode cX9_isIn 6 = .ok (.lload_n 0, 1) := by decide +kernel
theorem dX9_isIn_7 : decode cX9_isIn 7 = .ok (.lload 4, 2) := by decide +kernel
theorem dX9_isIn_9 : decode cX9_isIn 9 = .ok (.lcmp, 1) := by decide +kernel
theorem dX9_isIn_10 : decode cX9_isIn 10 = .ok (.ifCond .gt 7, 3) := by decide +kernel
theorem dX9_isIn_13 : decode cX9_isIn 13 = .ok (.iconst 1, 1) := by decide +kernel
theorem dX9_isIn_14 : decode cX9_isIn 14 = .ok (.goto 4, 3) := by decide +kernel
theorem dX9_isIn_17 : decode cX9_isIn 17 = .ok (.iconst 0, 1) := by decide +kernel
theorem dX9_isIn_18 : decode cX9_isIn 18 = .ok (.ireturn, 1) := by decide +kernel
def f_X9_isIn (l0 : Int64) (l2 : Int64) (l4 : Int64) : Int32 := if (lg_cmp l0 l2) < 0 then (0 : Int32) else if 0 < (lg_cmp l0 l4) then (0 : Int32) else (1 : Int32)
set_option maxRecDepth 100000 in
set_option maxHeartbeats 4000000 in
theorem c_X9_isIn (Z : Sys) {M : Mem} (hs : St M) (l0 : Int64) (l2 : Int64) (l4 : Int64) {q : Int32} (hf : f_X9_isIn l0 l2 l4 = q) : Ct Z yX9_isIn cX9_isIn 6 (some .boolean) rm_X9_isIn [.long l0, .long l2, .long l4] M False (PostZ q M) := by
  refine Ct.of (by decide +kernel) (Nat.le_of_ble_eq_true rfl) (fun X hR hq _ => ?_)
  show G Z X Y_X9_isIn False 0 0 0 [(0, .long l0), (2, .long l2), (4, .long l4)] [] M
  replace hq : RetOk Z X (some .boolean) False (PostZ q M) 0 0 := hq
  unfold f_X9_isIn at hf
  refine G.lload_n 0 0 dX9_isIn_0 rfl rfl ?_
  refine G.lload_n 1 1 dX9_isIn_1 rfl rfl ?_
  refine G.lcmp 2 dX9_isIn_2 ?_
  refine G.if_lt 3 17 dX9_isIn_3 (by decide) (fun h1 => ?_) (fun h1 => ?_)
  · replace hf := (if_pos h1).symm.trans hf
    refine G.iconst 17 (0 : Int32) dX9_isIn_17 (by decide +kernel) ?_
    subst hf
    exact G.rZ 18 hq dX9_isIn_18 hs (Or.inl rfl)
  · replace hf := (if_neg h1).symm.trans hf
    refine G.lload_n 6 0 dX9_isIn_6 rfl rfl ?_
    refine G.lload 7 2 dX9_isIn_7 rfl ?_
    refine G.lcmp 9 dX9_isIn_9 ?_
    refine G.if_gt 10 17 dX9_isIn_10 (by decide) (fun h2 => ?_) (fun h2 => ?_)
    · replace hf := (if_pos h2).symm.trans hf
      refine G.iconst 17 (0 : Int32) dX9_isIn_17 (by decide +kernel) ?_
      subst hf
      exact G.rZ 18 hq dX9_isIn_18 hs (Or.inl rfl)
    · replace hf := (if_neg h2).symm.trans hf
      refine G.iconst 13 (1 : Int32) dX9_isIn_13 (by decide +kernel) ?_
      refine G.goto 14 18 dX9_isIn_14 (by decide) ?_
      subst hf
      exact G.rZ 18 hq dX9_isIn_18 hs (Or.inr rfl)
abbrev Y_X9_get : My := (cX9_get, RX9, 3)
def rm_X9_get : Room := { frames := 1, cells := 0, slots := 0, locals := 200 }
theorem dX9_get_0 : decode cX9_get 0 = .ok (.aload_n 0, 1) := by decide +kernel
theorem dX9_get_1 : decode cX9_get 1 = .ok (.getfield 9, 3) := by decide +kernel
theorem dX9_get_4 : decode cX9_get 4 = .ok (.bipush 12, 2) := by decide +kernel
theorem dX9_get_6 : decode cX9_get 6 = .ok (.iload_n 1, 1) := by decide +kernel
theorem dX9_get_7 : decode cX9_get 7 = .ok (.imul, 1) := by decide +kernel
theorem dX9_get_8 : decode cX9_get 8 = .ok (.iload_n 2, 1) := by decide +kernel
theorem dX9_get_9 : decode cX9_get 9 = .ok (.iadd, 1) := by decide +kernel
theorem dX9_get_10 : decode cX9_get 10 = .ok (.iaload, 1) := by decide +kernel
theorem dX9_get_11 : decode cX9_get 11 = .ok (.ireturn, 1) := by decide +kernel
def f_X9_get (x1 : Int32) (x2 : Int32) (M : Mem) : Option Int32 := gd (inR (((12 : Int32) * x1) + x2) 1194) (some (mI M 285 (((12 : Int32) * x1) + x2).toNatClampNeg))
set_option maxRecDepth 100000 in
set_option maxHeartbeats 4000000 in
theorem c_X9_get (Z : Sys) {M : Mem} (hs : St M) (x1 : Int32) (x2 : Int32) {q : Int32} (hf : f_X9_get x1 x2 M = some q) : Ct Z yX9_get cX9_get 3 (some .int) rm_X9_get [.ref (zs Z + 284), .int x1, .int x2] M False (PostI q M) := by
  refine Ct.of (by decide +kernel) (Nat.le_of_ble_eq_true rfl) (fun X hR hq _ => ?_)
  show G Z X Y_X9_get False 0 0 0 [(0, .ref (zs Z + 284)), (1, .int x1), (2, .int x2)] [] M
  replace hq : RetOk Z X (some .int) False (PostI q M) 0 0 := hq
  unfold f_X9_get at hf
  refine G.aload_n 0 0 dX9_get_0 rfl rfl ?_
  refine G.getp 1 ck_9 0 285 (hs.k k0_284) (pc_9_0 hs) (by decide) (by decide +kernel) wd_1305 dX9_get_1 ?_
  refine G.bipush 4 (12 : Int32) dX9_get_4 (by decide +kernel) ?_
  refine G.iload_n 6 1 dX9_get_6 rfl rfl ?_
  refine G.imul 7 dX9_get_7 ?_
  refine G.iload_n 8 2 dX9_get_8 rfl rfl ?_
  refine G.iadd 9 dX9_get_9 ?_
  obtain ⟨g1, hf⟩ := gd_e hf
  refine G.ia 10 (((12 : Int32) * x1) + x2).toNatClampNeg (hs.k k0_285) g1 rfl dX9_get_10 ?_
  (have hf9 := Option.some.inj hf; subst hf9)
  exact G.rI 11 hq dX9_get_11 hs
abbrev Y_X9_has : My := (cX9_has, RX9, 2)
def rm_X9_has : Room := { frames := 2, cells := 0, slots := 0, locals := 222 }
theorem dX9_has_0 : decode cX9_has 0 = .ok (.aload_n 0, 1) := by decide +kernel
theorem dX9_has_1 : decode cX9_has 1 = .ok (.iload_n 1, 1) := by decide +kernel
theorem dX9_has_2 : decode cX9_has 2 = .ok (.bipush 9, 2) := by decide +kernel
theorem dX9_has_4 : decode cX9_has 4 = .ok (.invokevirtual 76, 3) := by decide +kernel
theorem dX9_has_7 : decode cX9_has 7 = .ok (.ifCond .lt 7, 3) := by decide +kernel
theorem dX9_has_10 : decode cX9_has 10 = .ok (.iconst 1, 1) := by decide +kernel
theorem dX9_has_11 : decode cX9_has 11 = .ok (.goto 4, 3) := by decide +kernel
theorem dX9_has_14 : decode cX9_has 14 = .ok (.iconst 0, 1) := by decide +kernel
theorem dX9_has_15 : decode cX9_has 15 = .ok (.ireturn, 1) := by decide +kernel
def f_X9_has (x1 : Int32) (M : Mem) : Option Int32 := (f_X9_get x1 (9 : Int32) M).bind fun q3 => if q3 < 0 then some (0 : Int32) else some (1 : Int32)
set_option maxRecDepth 100000 in
set_option maxHeartbeats 4000000 in
theorem c_X9_has (Z : Sys) {M : Mem} (hs : St M) (x1 : Int32) {q : Int32} (hf : f_X9_has x1 M = some q) : Ct Z yX9_has cX9_has 2 (some .boolean) rm_X9_has [.ref (zs Z + 284), .int x1] M False (PostZ q M) := by
  refine Ct.of (by decide +kernel) (Nat.le_of_ble_eq_true rfl) (fun X hR hq _ => ?_)
  show G Z X Y_X9_has False 0 0 0 [(0, .ref (zs Z + 284)), (1, .int x1)] [] M
  replace hq : RetOk Z X (some .boolean) False (PostZ q M) 0 0 := hq
  unfold f_X9_has at hf
  refine G.aload_n 0 0 dX9_has_0 rfl rfl ?_
  refine G.iload_n 1 1 dX9_has_1 rfl rfl ?_
  refine G.bipush 2 (9 : Int32) dX9_has_2 (by decide +kernel) ?_
  obtain ⟨q3, e4, hf⟩ := bd_e hf
  refine G.cvI 4 (As := [.int x1, .int (9 : Int32)]) ck_9 (hs.k k0_284) (c_X9_get Z hs x1 (9 : Int32) e4) mk_X9_get vk_X9_get rfl wd_1411 hR (by decide +kernel) ⟨rfl, rfl⟩ rfl (Nat.le_of_ble_eq_true rfl) dX9_has_4 (fun hs1 => ?_)
  refine G.if_lt 7 14 dX9_has_7 (by decide) (fun h5 => ?_) (fun h5 => ?_)
  · replace hf := (if_pos h5).symm.trans hf
    refine G.iconst 14 (0 : Int32) dX9_has_14 (by decide +kernel) ?_
    (have hf9 := Option.some.inj hf; subst hf9)
    exact G.rZ 15 hq dX9_has_15 hs1 (Or.inl rfl)
  · replace hf := (if_neg h5).symm.trans hf
    refine G.iconst 10 (1 : Int32) dX9_has_10 (by decide +kernel) ?_
    refine G.goto 11 15 dX9_has_11 (by decide) ?_
    (have hf9 := Option.some.inj hf; subst hf9)
    exact G.rZ 15 hq dX9_has_15 hs1 (Or.inr rfl)
abbrev Y_X9_costAgain : My := (cX9_costAgain, RX9, 2)
def rm_X9_costAgain : Room := { frames := 2, cells := 0, slots := 0, locals := 222 }
theorem dX9_costAgain_0 : decode cX9_costAgain 0 = .ok (.aload_n 0, 1) := by decide +kernel
theorem dX9_costAgain_1 : decode cX9_costAgain 1 = .ok (.iload_n 1, 1) := by decide +kernel
theorem dX9_costAgain_2 : decode cX9_costAgain 2 = .ok (.bipush 9, 2) := by decide +kernel
theorem dX9_costAgain_4 : decode cX9_costAgain 4 = .ok (.invokevirtual 76, 3) := by decide +kernel
theorem dX9_costAgain_7 : decode cX9_costAgain 7 = .ok (.bipush 10, 2) := by decide +kernel
theorem dX9_costAgain_9 : decode cX9_costAgain 9 = .ok (.idiv, 1) := by decide +kernel
theorem dX9_costAgain_10 : decode cX9_costAgain 10 = .ok (.iconst 1, 1) := by decide +kernel
theorem dX9_costAgain_11 : decode cX9_costAgain 11 = .ok (.iadd, 1) := by decide +kernel
theorem dX9_costAgain_12 : decode cX9_costAgain 12 = .ok (.ireturn, 1) := by decide +kernel
def f_X9_costAgain (x1 : Int32) (M : Mem) : Option Int32 := (f_X9_get x1 (9 : Int32) M).bind fun q3 => some ((q3 / (10 : Int32)) + (1 : Int32))
set_option maxRecDepth 100000 in
set_option maxHeartbeats 4000000 in
theorem c_X9_costAgain (Z : Sys) {M : Mem} (hs : St M) (x1 : Int32) {q : Int32} (hf : f_X9_costAgain x1 M = some q) : Ct Z yX9_costAgain cX9_costAgain 2 (some .int) rm_X9_costAgain [.ref (zs Z + 284), .int x1] M False (PostI q M) := by
  refine Ct.of (by decide +kernel) (Nat.le_of_ble_eq_true rfl) (fun X hR hq _ => ?_)
  show G Z X Y_X9_costAgain False 0 0 0 [(0, .ref (zs Z + 284)), (1, .int x1)] [] M
  replace hq : RetOk Z X (some .int) False (PostI q M) 0 0 := hq
  unfold f_X9_costAgain at hf
  refine G.aload_n 0 0 dX9_costAgain_0 rfl rfl ?_
  refine G.iload_n 1 1 dX9_costAgain_1 rfl rfl ?_
  refine G.bipush 2 (9 : Int32) dX9_costAgain_2 (by decide +kernel) ?_
  obtain ⟨q3, e4, hf⟩ := bd_e hf
  refine G.cvI 4 (As := [.int x1, .int (9 : Int32)]) ck_9 (hs.k k0_284) (c_X9_get Z hs x1 (9 : Int32) e4) mk_X9_get vk_X9_get rfl wd_1411 hR (by decide +kernel) ⟨rfl, rfl⟩ rfl (Nat.le_of_ble_eq_true rfl) dX9_costAgain_4 (fun hs1 => ?_)
  refine G.bipush 7 (10 : Int32) dX9_costAgain_7 (by decide +kernel) ?_
  refine G.idiv 9 dX9_costAgain_9 (by decide +kernel) ?_
  refine G.iconst 10 (1 : Int32) dX9_costAgain_10 (by decide +kernel) ?_
  refine G.iadd 11 dX9_costAgain_11 ?_
  (have hf9 := Option.some.inj hf; subst hf9)
  exact G.rI 12 hq dX9_costAgain_12 hs1
abbrev Y_X9_share : My := (cX9_share, RX9, 2)
def rm_X9_share : Room := { frames := 2, cells := 0, slots := 0, locals := 222 }
theorem dX9_share_0 : decode cX9_share 0 = .ok (.aload_n 0, 1) := by decide +kernel
theorem dX9_share_1 : decode cX9_share 1 = .ok (.iload_n 1, 1) := by decide +kernel
theorem dX9_share_2 : decode cX9_share 2 = .ok (.bipush 9, 2) := by decide +kernel
theorem dX9_share_4 : decode cX9_share 4 = .ok (.invokevirtual 76, 3) := by decide +kernel
theorem dX9_share_7 : decode cX9_share 7 = .ok (.ifCond .ne 7, 3) := by decide +kernel
theorem dX9_share_10 : decode cX9_share 10 = .ok (.iconst 0, 1) := by decide +kernel
theorem dX9_share_11 : decode cX9_share 11 = .ok (.goto 21, 3) := by decide +kernel
theorem dX9_share_14 : decode cX9_share 14 = .ok (.aload_n 0, 1) := by decide +kernel
theorem dX9_share_15 : decode cX9_share 15 = .ok (.iload_n 1, 1) := by decide +kernel
theorem dX9_share_16 : decode cX9_share 16 = .ok (.bipush 10, 2) := by decide +kernel
theorem dX9_share_18 : decode cX9_share 18 = .ok (.invokevirtual 76, 3) := by decide +kernel
theorem dX9_share_21 : decode cX9_share 21 = .ok (.bipush 100, 2) := by decide +kernel
theorem dX9_share_23 : decode cX9_share 23 = .ok (.imul, 1) := by decide +kernel
theorem dX9_share_24 : decode cX9_share 24 = .ok (.aload_n 0, 1) := by decide +kernel
theorem dX9_share_25 : decode cX9_share 25 = .ok (.iload_n 1, 1) := by decide +kernel
theorem dX9_share_26 : decode cX9_share 26 = .ok (.bipush 9, 2) := by decide +kernel
theorem dX9_share_28 : decode cX9_share 28 = .ok (.invokevirtual 76, 3) := by decide +kernel
theorem dX9_share_31 : decode cX9_share 31 = .ok (.idiv, 1) := by decide +kernel
theorem dX9_share_32 : decode cX9_share 32 = .ok (.ireturn, 1) := by decide +kernel
def f_X9_share (x1 : Int32) (M : Mem) : Option Int32 := (f_X9_get x1 (9 : Int32) M).bind fun q3 => if q3 = 0 then some (0 : Int32) else (f_X9_get x1 (10 : Int32) M).bind fun q8 => (f_X9_get x1 (9 : Int32) M).bind fun q12 => gd (¬ q12 = 0) (some ((q8 * (100 : Int32)) / q12))
set_option maxRecDepth 100000 in
set_option maxHeartbeats 4000000 in
theorem c_X9_share (Z : Sys) {M : Mem} (hs : St M) (x1 : Int32) {q : Int32} (hf : f_X9_share x1 M = some q) : Ct Z yX9_share cX9_share 2 (some .int) rm_X9_share [.ref (zs Z + 284), .int x1] M False (PostI q M) := by
  refine Ct.of (by decide +kernel) (Nat.le_of_ble_eq_true rfl) (fun X hR hq _ => ?_)
  show G Z X Y_X9_share False 0 0 0 [(0, .ref (zs Z + 284)), (1, .int x1)] [] M
  replace hq : RetOk Z X (some .int) False (PostI q M) 0 0 := hq
  unfold f_X9_share at hf
  refine G.aload_n 0 0 dX9_share_0 rfl rfl ?_
  refine G.iload_n 1 1 dX9_share_1 rfl rfl ?_
  refine G.bipush 2 (9 : Int32) dX9_share_2 (by decide +kernel) ?_
  obtain ⟨q3, e4, hf⟩ := bd_e hf
  refine G.cvI 4 (As := [.int x1, .int (9 : Int32)]) ck_9 (hs.k k0_284) (c_X9_get Z hs x1 (9 : Int32) e4) mk_X9_get vk_X9_get rfl wd_1411 hR (by decide +kernel) ⟨rfl, rfl⟩ rfl (Nat.le_of_ble_eq_true rfl) dX9_share_4 (fun hs1 => ?_)
  refine G.if_ne 7 14 dX9_share_7 (by decide) (fun h5 => ?_) (fun h5 => ?_)
  · replace hf := (if_neg h5).symm.trans hf
    refine G.aload_n 14 0 dX9_share_14 rfl rfl ?_
    refine G.iload_n 15 1 dX9_share_15 rfl rfl ?_
    refine G.bipush 16 (10 : Int32) dX9_share_16 (by decide +kernel) ?_
    obtain ⟨q8, e9, hf⟩ := bd_e hf
    refine G.cvI 18 (As := [.int x1, .int (10 : Int32)]) ck_9 (hs1.k k0_284) (c_X9_get Z hs1 x1 (10 : Int32) e9) mk_X9_get vk_X9_get rfl wd_1411 hR (by decide +kernel) ⟨rfl, rfl⟩ rfl (Nat.le_of_ble_eq_true rfl) dX9_share_18 (fun hs6 => ?_)
    refine G.bipush 21 (100 : Int32) dX9_share_21 (by decide +kernel) ?_
    refine G.imul 23 dX9_share_23 ?_
    refine G.aload_n 24 0 dX9_share_24 rfl rfl ?_
    refine G.iload_n 25 1 dX9_share_25 rfl rfl ?_
    refine G.bipush 26 (9 : Int32) dX9_share_26 (by decide +kernel) ?_
    obtain ⟨q12, e13, hf⟩ := bd_e hf
    refine G.cvI 28 (As := [.int x1, .int (9 : Int32)]) ck_9 (hs6.k k0_284) (c_X9_get Z hs6 x1 (9 : Int32) e13) mk_X9_get vk_X9_get rfl wd_1411 hR (by decide +kernel) ⟨rfl, rfl⟩ rfl (Nat.le_of_ble_eq_true rfl) dX9_share_28 (fun hs10 => ?_)
    obtain ⟨g14, hf⟩ := gd_e hf
    refine G.idiv 31 dX9_share_31 g14 ?_
    (have hf9 := Option.some.inj hf; subst hf9)
    exact G.rI 32 hq dX9_share_32 hs10
  · replace hf := (if_pos h5).symm.trans hf
    refine G.iconst 10 (0 : Int32) dX9_share_10 (by decide +kernel) ?_
    refine G.goto 11 32 dX9_share_11 (by decide) ?_
    (have hf9 := Option.some.inj hf; subst hf9)
    exact G.rI 32 hq dX9_share_32 hs1
abbrev Y_X9_middleOf : My := (cX9_middleOf, RX9, 5)
def rm_X9_middleOf : Room := { frames := 3, cells := 0, slots := 0, locals := 243 }
theorem dX9_middleOf_0 : decode cX9_middleOf 0 = .ok (.iconst 0, 1) := by decide +kernel
theorem dX9_middleOf_1 : decode cX9_middleOf 1 = .ok (.istore_n 2, 1) := by decide +kernel
theorem dX9_middleOf_2 : decode cX9_middleOf 2 = .ok (.iconst 0, 1) := by decide +kernel
theorem dX9_middleOf_3 : decode cX9_middleOf 3 = .ok (.istore_n 3, 1) := by decide +kernel
theorem dX9_middleOf_4 : decode cX9_middleOf 4 = .ok (.iload_n 3, 1) := by decide +kernel
theorem dX9_middleOf_5 : decode cX9_middleOf 5 = .ok (.aload_n 0, 1) := by decide +kernel
theorem dX9_middleOf_6 : decode cX9_middleOf 6 = .ok (.getfield 9, 3) := by decide +kernel
theorem dX9_middleOf_9 : decode cX9_middleOf 9 = .ok (.sipush 1192, 3) := by decide +kernel
theorem dX9_middleOf_12 : decode cX9_middleOf 12 = .ok (.iaload, 1) := by decide +kernel
theorem dX9_middleOf_13 : decode cX9_middleOf 13 = .ok (.if_icmp .ge 92, 3) := by decide +kernel
theorem dX9_middleOf_16 : decode cX9_middleOf 16 = .ok (.aload_n 0, 1) := by decide +kernel
theorem dX9_middleOf_17 : decode cX9_middleOf 17 = .ok (.iload_n 3, 1) := by decide +kernel
theorem dX9_middleOf_18 : decode cX9_middleOf 18 = .ok (.invokevirtual 97, 3) := by decide +kernel
theorem dX9_middleOf_21 : decode cX9_middleOf 21 = .ok (.ifCond .eq 78, 3) := by decide +kernel
theorem dX9_middleOf_24 : decode cX9_middleOf 24 = .ok (.aload_n 0, 1) := by decide +kernel
theorem dX9_middleOf_25 : decode cX9_middleOf 25 = .ok (.iload_n 3, 1) := by decide +kernel
theorem dX9_middleOf_26 : decode cX9_middleOf 26 = .ok (.iconst 1, 1) := by decide +kernel
theorem dX9_middleOf_27 : decode cX9_middleOf 27 = .ok (.invokevirtual 76, 3) := by decide +kernel
theorem dX9_middleOf_30 : decode cX9_middleOf 30 = .ok (.iload_n 1, 1) := by decide +kernel
theorem dX9_middleOf_31 : decode cX9_middleOf 31 = .ok (.if_icmp .eq 6, 3) := by decide +kernel
theorem dX9_middleOf_34 : decode cX9_middleOf 34 = .ok (.goto 65, 3) := by decide +kernel
theorem dX9_middleOf_37 : decode cX9_middleOf 37 = .ok (.iload_n 2, 1) := by decide +kernel
theorem dX9_middleOf_38 : decode cX9_middleOf 38 = .ok (.istore 4, 2) := by decide +kernel
theorem dX9_middleOf_40 : decode cX9_middleOf 40 = .ok (.iload 4, 2) := by decide +kernel
theorem dX9_middleOf_42 : decode cX9_middleOf 42 = .ok (.ifCond .le 42, 3) := by decide +kernel
theorem dX9_middleOf_45 : decode cX9_middleOf 45 = .ok (.aload_n 0, 1) := by decide +kernel
theorem dX9_middleOf_46 : decode cX9_middleOf 46 = .ok (.getfield 37, 3) := by decide +kernel
theorem dX9_middleOf_49 : decode cX9_middleOf 49 = .ok (.iload 4, 2) := by decide +kernel
theorem dX9_middleOf_51 : decode cX9_middleOf 51 = .ok (.iconst 1, 1) := by decide +kernel
theorem dX9_middleOf_52 : decode cX9_middleOf 52 = .ok (.isub, 1) := by decide +kernel
theorem dX9_middleOf_53 : decode cX9_middleOf 53 = .ok (.iaload, 1) := by decide +kernel
theorem dX9_middleOf_54 : decode cX9_middleOf 54 = .ok (.aload_n 0, 1) := by decide +kernel
theorem dX9_middleOf_55 : decode cX9_middleOf 55 = .ok (.iload_n 3, 1) := by decide +kernel
theorem dX9_middleOf_56 : decode cX9_middleOf 56 = .ok (.invokevirtual 100, 3) := by decide +kernel
theorem dX9_middleOf_59 : decode cX9_middleOf 59 = .ok (.if_icmp .le 25, 3) := by decide +kernel
theorem dX9_middleOf_62 : decode cX9_middleOf 62 = .ok (.aload_n 0, 1) := by decide +kernel
theorem dX9_middleOf_63 : decode cX9_middleOf 63 = .ok (.getfield 37, 3) := by decide +kernel
theorem dX9_middleOf_66 : decode cX9_middleOf 66 = .ok (.iload 4, 2) := by decide +kernel
theorem dX9_middleOf_68 : decode cX9_middleOf 68 = .ok (.aload_n 0, 1) := by decide +kernel
theorem dX9_middleOf_69 : decode cX9_middleOf 69 = .ok (.getfield 37, 3) := by decide +kernel
theorem dX9_middleOf_72 : decode cX9_middleOf 72 = .ok (.iload 4, 2) := by decide +kernel
theorem dX9_middleOf_74 : decode cX9_middleOf 74 = .ok (.iconst 1, 1) := by decide +kernel
theorem dX9_middleOf_75 : decode cX9_middleOf 75 = .ok (.isub, 1) := by decide +kernel
theorem dX9_middleOf_76 : decode cX9_middleOf 76 = .ok (.iaload, 1) := by decide +kernel
theorem dX9_middleOf_77 : decode cX9_middleOf 77 = .ok (.iastore, 1) := by decide +kernel
theorem dX9_middleOf_78 : decode cX9_middleOf 78 = .ok (.iinc 4 (-1), 3) := by decide +kernel
theorem dX9_middleOf_81 : decode cX9_middleOf 81 = .ok (.goto (-41), 3) := by decide +kernel
theorem dX9_middleOf_84 : decode cX9_middleOf 84 = .ok (.aload_n 0, 1) := by decide +kernel
theorem dX9_middleOf_85 : decode cX9_middleOf 85 = .ok (.getfield 37, 3) := by decide +kernel
theorem dX9_middleOf_88 : decode cX9_middleOf 88 = .ok (.iload 4, 2) := by decide +kernel
theorem dX9_middleOf_90 : decode cX9_middleOf 90 = .ok (.aload_n 0, 1) := by decide +kernel
theorem dX9_middleOf_91 : decode cX9_middleOf 91 = .ok (.iload_n 3, 1) := by decide +kernel
theorem dX9_middleOf_92 : decode cX9_middleOf 92 = .ok (.invokevirtual 100, 3) := by decide +kernel
theorem dX9_middleOf_95 : decode cX9_middleOf 95 = .ok (.iastore, 1) := by decide +kernel
theorem dX9_middleOf_96 : decode cX9_middleOf 96 = .ok (.iinc 2 1, 3) := by decide +kernel
theorem dX9_middleOf_99 : decode cX9_middleOf 99 = .ok (.iinc 3 1, 3) := by decide +kernel
theorem dX9_middleOf_102 : decode cX9_middleOf 102 = .ok (.goto (-98), 3) := by decide +kernel
theorem dX9_middleOf_105 : decode cX9_middleOf 105 = .ok (.iload_n 2, 1) := by decide +kernel
theorem dX9_middleOf_106 : decode cX9_middleOf 106 = .ok (.ifCond .ne 8, 3) := by decide +kernel
theorem dX9_middleOf_109 : decode cX9_middleOf 109 = .ok (.bipush (-4), 2) := by decide +kernel
theorem dX9_middleOf_111 : decode cX9_middleOf 111 = .ok (.goto 11, 3) := by decide +kernel
theorem dX9_middleOf_114 : decode cX9_middleOf 114 = .ok (.aload_n 0, 1) := by decide +kernel
theorem dX9_middleOf_115 : decode cX9_middleOf 115 = .ok (.getfield 37, 3) := by decide +kernel
theorem dX9_middleOf_118 : decode cX9_middleOf 118 = .ok (.iload_n 2, 1) := by decide +kernel
theorem dX9_middleOf_119 : decode cX9_middleOf 119 = .ok (.iconst 2, 1) := by decide +kernel
theorem dX9_middleOf_120 : decode cX9_middleOf 120 = .ok (.idiv, 1) := by decide +kernel
theorem dX9_middleOf_121 : decode cX9_middleOf 121 = .ok (.iaload, 1) := by decide +kernel
theorem dX9_middleOf_122 : decode cX9_middleOf 122 = .ok (.ireturn, 1) := by decide +kernel
def B_X9_middleOf_105 (x2 : Int32) (M : Mem) : Option (Int32 × Mem) := if x2 = 0 then some ((-4 : Int32), M) else gd (inR (x2 / (2 : Int32)) 30) (some ((mI M 294 (x2 / (2 : Int32)).toNatClampNeg), M))
def B_X9_middleOf_99 (rc_4 : Int32 → Int32 → Int32 → Mem → Option (Int32 × Mem)) (x1 : Int32) (x2 : Int32) (x3 : Int32) (M : Mem) : Option (Int32 × Mem) := rc_4 x1 x2 (x3 + 1) M
def B_X9_middleOf_84 (rc_4 : Int32 → Int32 → Int32 → Mem → Option (Int32 × Mem)) (x1 : Int32) (x2 : Int32) (x3 : Int32) (x4 : Int32) (M : Mem) : Option (Int32 × Mem) := (f_X9_share x3 M).bind fun q17 => gd (inR x4 30) (B_X9_middleOf_99 rc_4 x1 (x2 + 1) x3 (sI M 294 x4.toNatClampNeg q17))
def L_X9_middleOf_40 (rc_4 : Int32 → Int32 → Int32 → Mem → Option (Int32 × Mem)) : Nat → Int32 → Int32 → Int32 → Int32 → Mem → Option (Int32 × Mem)
  | 0, _, _, _, _, _ => none
  | n + 1, x1, x2, x3, x4, M => if x4 ≤ 0 then B_X9_middleOf_84 rc_4 x1 x2 x3 x4 M else gd (inR (x4 - (1 : Int32)) 30) ((f_X9_share x3 M).bind fun q23 => if (mI M 294 (x4 - (1 : Int32)).toNatClampNeg) ≤ q23 then B_X9_middleOf_84 rc_4 x1 x2 x3 x4 M else gd (inR x4 30) (L_X9_middleOf_40 rc_4 n x1 x2 x3 (x4 + (-1 : Int32)) (sI M 294 x4.toNatClampNeg (mI M 294 (x4 - (1 : Int32)).toNatClampNeg))))
def L_X9_middleOf_4 : Nat → Int32 → Int32 → Int32 → Mem → Option (Int32 × Mem)
  | 0, _, _, _, _ => none
  | n + 1, x1, x2, x3, M => if (mI M 285 1192) ≤ x3 then B_X9_middleOf_105 x2 M else (f_X9_has x3 M).bind fun q6 => if q6 = 0 then B_X9_middleOf_99 (L_X9_middleOf_4 n) x1 x2 x3 M else (f_X9_get x3 (1 : Int32) M).bind fun q11 => if q11 = x1 then L_X9_middleOf_40 (L_X9_middleOf_4 n) FU x1 x2 x3 x2 M else B_X9_middleOf_99 (L_X9_middleOf_4 n) x1 x2 x3 M
def f_X9_middleOf (x1 : Int32) (M : Mem) : Option (Int32 × Mem) := L_X9_middleOf_4 FU x1 (0 : Int32) (0 : Int32) M
set_option maxRecDepth 100000 in
set_option maxHeartbeats 4000000 in
theorem b_X9_middleOf_105 (Z : Sys) (X : Cx) (hR : xR X = rm_X9_middleOf) {q : Int32 × Mem} (hq : RetOk Z X (some .int) False (PostI q.1 q.2) 0 0) (x2 : Int32) {M : Mem} (hs : St M) (hf : B_X9_middleOf_105 x2 M = some q) : G Z X Y_X9_middleOf False 0 0 105 [(0, .ref (zs Z + 284)), (2, .int x2)] [] M := by
  unfold B_X9_middleOf_105 at hf
  refine G.iload_n 105 1 dX9_middleOf_105 rfl rfl ?_
  refine G.if_ne 106 114 dX9_middleOf_106 (by decide) (fun h2 => ?_) (fun h2 => ?_)
  · replace hf := (if_neg h2).symm.trans hf
    refine G.aload_n 114 0 dX9_middleOf_114 rfl rfl ?_
    refine G.getp 115 ck_9 12 294 (hs.k k0_284) (pc_9_12 hs) (by decide) (by decide +kernel) wd_1317 dX9_middleOf_115 ?_
    refine G.iload_n 118 1 dX9_middleOf_118 rfl rfl ?_
    refine G.iconst 119 (2 : Int32) dX9_middleOf_119 (by decide +kernel) ?_
    refine G.idiv 120 dX9_middleOf_120 (by decide +kernel) ?_
    obtain ⟨g3, hf⟩ := gd_e hf
    refine G.ia 121 (x2 / (2 : Int32)).toNatClampNeg (hs.k k0_294) g3 rfl dX9_middleOf_121 ?_
    (have hf9 := Option.some.inj hf; subst hf9)
    exact G.rI 122 hq dX9_middleOf_122 hs
  · replace hf := (if_pos h2).symm.trans hf
    refine G.bipush 109 (-4 : Int32) dX9_middleOf_109 (by decide +kernel) ?_
    refine G.goto 111 122 dX9_middleOf_111 (by decide) ?_
    (have hf9 := Option.some.inj hf; subst hf9)
    exact G.rI 122 hq dX9_middleOf_122 hs
set_option maxRecDepth 100000 in
set_option maxHeartbeats 4000000 in
theorem b_X9_middleOf_99 (Z : Sys) (X : Cx) (hR : xR X = rm_X9_middleOf) {q : Int32 × Mem} (hq : RetOk Z X (some .int) False (PostI q.1 q.2) 0 0) (rc_4 : Int32 → Int32 → Int32 → Mem → Option (Int32 × Mem)) (hrc_4 : ∀ (x1 : Int32) (x2 : Int32) (x3 : Int32) (M : Mem), St M → rc_4 x1 x2 x3 M = some q → G Z X Y_X9_middleOf False 0 0 4 [(0, .ref (zs Z + 284)), (1, .int x1), (2, .int x2), (3, .int x3)] [] M) (x1 : Int32) (x2 : Int32) (x3 : Int32) {M : Mem} (hs : St M) (hf : B_X9_middleOf_99 rc_4 x1 x2 x3 M = some q) : G Z X Y_X9_middleOf False 0 0 99 [(0, .ref (zs Z + 284)), (1, .int x1), (2, .int x2), (3, .int x3)] [] M := by
  unfold B_X9_middleOf_99 at hf
  refine G.iinc 99 3 (x3 + 1) [(3, .int (x3 + 1)), (0, .ref (zs Z + 284)), (1, .int x1), (2, .int x2)] dX9_middleOf_99 rfl (congrArg (fun z => x3 + z) (by decide +kernel)) (Nat.le_of_ble_eq_true rfl) rfl ?_
  refine G.goto 102 4 dX9_middleOf_102 (by decide) ?_
  refine G.locs [1, 2, 3, 0] rfl ?_
  exact hrc_4 x1 x2 (x3 + 1) M hs hf
set_option maxRecDepth 100000 in
set_option maxHeartbeats 4000000 in
theorem b_X9_middleOf_84 (Z : Sys) (X : Cx) (hR : xR X = rm_X9_middleOf) {q : Int32 × Mem} (hq : RetOk Z X (some .int) False (PostI q.1 q.2) 0 0) (rc_4 : Int32 → Int32 → Int32 → Mem → Option (Int32 × Mem)) (hrc_4 : ∀ (x1 : Int32) (x2 : Int32) (x3 : Int32) (M : Mem), St M → rc_4 x1 x2 x3 M = some q → G Z X Y_X9_middleOf False 0 0 4 [(0, .ref (zs Z + 284)), (1, .int x1), (2, .int x2), (3, .int x3)] [] M) (x1 : Int32) (x2 : Int32) (x3 : Int32) (x4 : Int32) {M : Mem} (hs : St M) (hf : B_X9_middleOf_84 rc_4 x1 x2 x3 x4 M = some q) : G Z X Y_X9_middleOf False 0 0 84 [(0, .ref (zs Z + 284)), (1, .int x1), (2, .int x2), (3, .int x3), (4, .int x4)] [] M := by
  unfold B_X9_middleOf_84 at hf
  refine G.aload_n 84 0 dX9_middleOf_84 rfl rfl ?_
  refine G.getp 85 ck_9 12 294 (hs.k k0_284) (pc_9_12 hs) (by decide) (by decide +kernel) wd_1317 dX9_middleOf_85 ?_
  refine G.iload 88 4 dX9_middleOf_88 rfl ?_
  refine G.aload_n 90 0 dX9_middleOf_90 rfl rfl ?_
  refine G.iload_n 91 3 dX9_middleOf_91 rfl rfl ?_
  obtain ⟨q17, e18, hf⟩ := bd_e hf
  refine G.cvI 92 (As := [.int x3]) ck_9 (hs.k k0_284) (c_X9_share Z hs x3 e18) mk_X9_share vk_X9_share rfl wd_1449 hR (by decide +kernel) ⟨rfl, rfl⟩ rfl (Nat.le_of_ble_eq_true rfl) dX9_middleOf_92 (fun hs15 => ?_)
  obtain ⟨g19, hf⟩ := gd_e hf
  refine G.ist 95 x4.toNatClampNeg (hs15.k k0_294) g19 rfl dX9_middleOf_95 ?_
  refine G.iinc 96 2 (x2 + 1) [(2, .int (x2 + 1)), (0, .ref (zs Z + 284)), (1, .int x1), (3, .int x3), (4, .int x4)] dX9_middleOf_96 rfl (congrArg (fun z => x2 + z) (by decide +kernel)) (Nat.le_of_ble_eq_true rfl) rfl ?_
  refine G.locs [1, 2, 0, 3] rfl ?_
  exact b_X9_middleOf_99 Z X hR hq rc_4 hrc_4 x1 (x2 + 1) x3 (St.i hs15) hf
set_option maxRecDepth 100000 in
set_option maxHeartbeats 4000000 in
theorem l_X9_middleOf_40 (Z : Sys) (X : Cx) (hR : xR X = rm_X9_middleOf) {q : Int32 × Mem} (hq : RetOk Z X (some .int) False (PostI q.1 q.2) 0 0) (rc_4 : Int32 → Int32 → Int32 → Mem → Option (Int32 × Mem)) (hrc_4 : ∀ (x1 : Int32) (x2 : Int32) (x3 : Int32) (M : Mem), St M → rc_4 x1 x2 x3 M = some q → G Z X Y_X9_middleOf False 0 0 4 [(0, .ref (zs Z + 284)), (1, .int x1), (2, .int x2), (3, .int x3)] [] M) : ∀ (n : Nat) (x1 : Int32) (x2 : Int32) (x3 : Int32) (x4 : Int32) (M : Mem) (hs : St M) (hf : L_X9_middleOf_40 rc_4 n x1 x2 x3 x4 M = some q), G Z X Y_X9_middleOf False 0 0 40 [(0, .ref (zs Z + 284)), (1, .int x1), (2, .int x2), (3, .int x3), (4, .int x4)] [] M := by
  intro n
  induction n with
  | zero => intro x1 x2 x3 x4 M hs  hf; cases hf
  | succ n ih =>
    intro x1 x2 x3 x4 M hs  hf
    unfold L_X9_middleOf_40 at hf
    refine G.iload 40 4 dX9_middleOf_40 rfl ?_
    refine G.if_le 42 84 dX9_middleOf_42 (by decide) (fun h14 => ?_) (fun h14 => ?_)
    · replace hf := (if_pos h14).symm.trans hf
      exact b_X9_middleOf_84 Z X hR hq rc_4 hrc_4 x1 x2 x3 x4 hs hf
    · replace hf := (if_neg h14).symm.trans hf
      refine G.aload_n 45 0 dX9_middleOf_45 rfl rfl ?_
      refine G.getp 46 ck_9 12 294 (hs.k k0_284) (pc_9_12 hs) (by decide) (by decide +kernel) wd_1317 dX9_middleOf_46 ?_
      refine G.iload 49 4 dX9_middleOf_49 rfl ?_
      refine G.iconst 51 (1 : Int32) dX9_middleOf_51 (by decide +kernel) ?_
      refine G.isub 52 dX9_middleOf_52 ?_
      obtain ⟨g20, hf⟩ := gd_e hf
      refine G.ia 53 (x4 - (1 : Int32)).toNatClampNeg (hs.k k0_294) g20 rfl dX9_middleOf_53 ?_
      refine G.aload_n 54 0 dX9_middleOf_54 rfl rfl ?_
      refine G.iload_n 55 3 dX9_middleOf_55 rfl rfl ?_
      obtain ⟨q23, e24, hf⟩ := bd_e hf
      refine G.cvI 56 (As := [.int x3]) ck_9 (hs.k k0_284) (c_X9_share Z hs x3 e24) mk_X9_share vk_X9_share rfl wd_1449 hR (by decide +kernel) ⟨rfl, rfl⟩ rfl (Nat.le_of_ble_eq_true rfl) dX9_middleOf_56 (fun hs21 => ?_)
      refine G.icmp_le 59 84 dX9_middleOf_59 (by decide) (fun h25 => ?_) (fun h25 => ?_)
      · replace hf := (if_pos h25).symm.trans hf
        exact b_X9_middleOf_84 Z X hR hq rc_4 hrc_4 x1 x2 x3 x4 hs21 hf
      · replace hf := (if_neg h25).symm.trans hf
        refine G.aload_n 62 0 dX9_middleOf_62 rfl rfl ?_
        refine G.getp 63 ck_9 12 294 (hs21.k k0_284) (pc_9_12 hs21) (by decide) (by decide +kernel) wd_1317 dX9_middleOf_63 ?_
        refine G.iload 66 4 dX9_middleOf_66 rfl ?_
        refine G.aload_n 68 0 dX9_middleOf_68 rfl rfl ?_
        refine G.getp 69 ck_9 12 294 (hs21.k k0_284) (pc_9_12 hs21) (by decide) (by decide +kernel) wd_1317 dX9_middleOf_69 ?_
        refine G.iload 72 4 dX9_middleOf_72 rfl ?_
        refine G.iconst 74 (1 : Int32) dX9_middleOf_74 (by decide +kernel) ?_
        refine G.isub 75 dX9_middleOf_75 ?_
        refine G.ia 76 (x4 - (1 : Int32)).toNatClampNeg (hs21.k k0_294) g20 rfl dX9_middleOf_76 ?_
        obtain ⟨g26, hf⟩ := gd_e hf
        refine G.ist 77 x4.toNatClampNeg (hs21.k k0_294) g26 rfl dX9_middleOf_77 ?_
        refine G.iinc 78 4 (x4 + (-1 : Int32)) [(4, .int (x4 + (-1 : Int32))), (0, .ref (zs Z + 284)), (1, .int x1), (2, .int x2), (3, .int x3)] dX9_middleOf_78 rfl (congrArg (fun z => x4 + z) (by decide +kernel)) (Nat.le_of_ble_eq_true rfl) rfl ?_
        refine G.goto 81 40 dX9_middleOf_81 (by decide) ?_
        refine G.locs [1, 2, 3, 4, 0] rfl ?_
        exact ih x1 x2 x3 (x4 + (-1 : Int32)) (sI M 294 x4.toNatClampNeg (mI M 294 (x4 - (1 : Int32)).toNatClampNeg)) (St.i hs21) hf
set_option maxRecDepth 100000 in
set_option maxHeartbeats 4000000 in
theorem l_X9_middleOf_4 (Z : Sys) (X : Cx) (hR : xR X = rm_X9_middleOf) {q : Int32 × Mem} (hq : RetOk Z X (some .int) False (PostI q.1 q.2) 0 0) : ∀ (n : Nat) (x1 : Int32) (x2 : Int32) (x3 : Int32) (M : Mem) (hs : St M) (hf : L_X9_middleOf_4 n x1 x2 x3 M = some q), G Z X Y_X9_middleOf False 0 0 4 [(0, .ref (zs Z + 284)), (1, .int x1), (2, .int x2), (3, .int x3)] [] M := by
  intro n
  induction n with
  | zero => intro x1 x2 x3 M hs  hf; cases hf
  | succ n ih =>
    intro x1 x2 x3 M hs  hf
    unfold L_X9_middleOf_4 at hf
    refine G.iload_n 4 3 dX9_middleOf_4 rfl rfl ?_
    refine G.aload_n 5 0 dX9_middleOf_5 rfl rfl ?_
    refine G.getp 6 ck_9 0 285 (hs.k k0_284) (pc_9_0 hs) (by decide) (by decide +kernel) wd_1305 dX9_middleOf_6 ?_
    refine G.sipush 9 (1192 : Int32) dX9_middleOf_9 (by decide +kernel) ?_
    refine G.ia 12 1192 (hs.k k0_285) (by decide +kernel) (by decide +kernel) dX9_middleOf_12 ?_
    refine G.icmp_ge 13 105 dX9_middleOf_13 (by decide) (fun h1 => ?_) (fun h1 => ?_)
    · replace hf := (if_pos h1).symm.trans hf
      refine G.locs [0, 2] rfl ?_
      exact b_X9_middleOf_105 Z X hR hq x2 hs hf
    · replace hf := (if_neg h1).symm.trans hf
      refine G.aload_n 16 0 dX9_middleOf_16 rfl rfl ?_
      refine G.iload_n 17 3 dX9_middleOf_17 rfl rfl ?_
      obtain ⟨q6, e7, hf⟩ := bd_e hf
      refine G.cvZ 18 (As := [.int x3]) ck_9 (hs.k k0_284) (c_X9_has Z hs x3 e7) mk_X9_has vk_X9_has rfl wd_1445 hR (by decide +kernel) ⟨rfl, rfl⟩ rfl (Nat.le_of_ble_eq_true rfl) dX9_middleOf_18 (fun hs4 z5 => ?_)
      refine G.if_eq 21 99 dX9_middleOf_21 (by decide) (fun h8 => ?_) (fun h8 => ?_)
      · replace hf := (if_pos h8).symm.trans hf
        exact b_X9_middleOf_99 Z X hR hq (L_X9_middleOf_4 n) ih x1 x2 x3 hs4 hf
      · replace hf := (if_neg h8).symm.trans hf
        refine G.aload_n 24 0 dX9_middleOf_24 rfl rfl ?_
        refine G.iload_n 25 3 dX9_middleOf_25 rfl rfl ?_
        refine G.iconst 26 (1 : Int32) dX9_middleOf_26 (by decide +kernel) ?_
        obtain ⟨q11, e12, hf⟩ := bd_e hf
        refine G.cvI 27 (As := [.int x3, .int (1 : Int32)]) ck_9 (hs4.k k0_284) (c_X9_get Z hs4 x3 (1 : Int32) e12) mk_X9_get vk_X9_get rfl wd_1411 hR (by decide +kernel) ⟨rfl, rfl⟩ rfl (Nat.le_of_ble_eq_true rfl) dX9_middleOf_27 (fun hs9 => ?_)
        refine G.iload_n 30 1 dX9_middleOf_30 rfl rfl ?_
        refine G.icmp_eq 31 37 dX9_middleOf_31 (by decide) (fun h13 => ?_) (fun h13 => ?_)
        · replace hf := (if_pos h13).symm.trans hf
          refine G.iload_n 37 2 dX9_middleOf_37 rfl rfl ?_
          refine G.istore 38 [(4, .int x2), (0, .ref (zs Z + 284)), (1, .int x1), (2, .int x2), (3, .int x3)] dX9_middleOf_38 (Nat.le_of_ble_eq_true rfl) rfl ?_
          refine G.locs [1, 2, 3, 4, 0] rfl ?_
          exact l_X9_middleOf_40 Z X hR hq (L_X9_middleOf_4 n) ih FU x1 x2 x3 x2 M hs9 hf
        · replace hf := (if_neg h13).symm.trans hf
          refine G.goto 34 99 dX9_middleOf_34 (by decide) ?_
          exact b_X9_middleOf_99 Z X hR hq (L_X9_middleOf_4 n) ih x1 x2 x3 hs9 hf
set_option maxRecDepth 100000 in
set_option maxHeartbeats 4000000 in
theorem c_X9_middleOf (Z : Sys) {M : Mem} (hs : St M) (x1 : Int32) {q : Int32 × Mem} (hf : f_X9_middleOf x1 M = some q) : Ct Z yX9_middleOf cX9_middleOf 5 (some .int) rm_X9_middleOf [.ref (zs Z + 284), .int x1] M False (PostI q.1 q.2) := by
  refine Ct.of (by decide +kernel) (Nat.le_of_ble_eq_true rfl) (fun X hR hq _ => ?_)
  show G Z X Y_X9_middleOf False 0 0 0 [(0, .ref (zs Z + 284)), (1, .int x1)] [] M
  replace hq : RetOk Z X (some .int) False (PostI q.1 q.2) 0 0 := hq
  unfold f_X9_middleOf at hf
  refine G.iconst 0 (0 : Int32) dX9_middleOf_0 (by decide +kernel) ?_
  refine G.istore_n 1 [(2, .int (0 : Int32)), (0, .ref (zs Z + 284)), (1, .int x1)] dX9_middleOf_1 rfl (Nat.le_of_ble_eq_true rfl) rfl ?_
  refine G.iconst 2 (0 : Int32) dX9_middleOf_2 (by decide +kernel) ?_
  refine G.istore_n 3 [(3, .int (0 : Int32)), (2, .int (0 : Int32)), (0, .ref (zs Z + 284)), (1, .int x1)] dX9_middleOf_3 rfl (Nat.le_of_ble_eq_true rfl) rfl ?_
  refine G.locs [2, 3, 1, 0] rfl ?_
  exact l_X9_middleOf_4 Z X hR hq FU x1 (0 : Int32) (0 : Int32) M hs hf
abbrev Y_X9_leftOf : My := (cX9_leftOf, RX9, 2)
def rm_X9_leftOf : Room := { frames := 4, cells := 0, slots := 0, locals := 267 }
theorem dX9_leftOf_0 : decode cX9_leftOf 0 = .ok (.aload_n 0, 1) := by decide +kernel
theorem dX9_leftOf_1 : decode cX9_leftOf 1 = .ok (.iload_n 1, 1) := by decide +kernel
theorem dX9_leftOf_2 : decode cX9_leftOf 2 = .ok (.invokevirtual 100, 3) := by decide +kernel
theorem dX9_leftOf_5 : decode cX9_leftOf 5 = .ok (.aload_n 0, 1) := by decide +kernel
theorem dX9_leftOf_6 : decode cX9_leftOf 6 = .ok (.aload_n 0, 1) := by decide +kernel
theorem dX9_leftOf_7 : decode cX9_leftOf 7 = .ok (.iload_n 1, 1) := by decide +kernel
theorem dX9_leftOf_8 : decode cX9_leftOf 8 = .ok (.iconst 1, 1) := by decide +kernel
theorem dX9_leftOf_9 : decode cX9_leftOf 9 = .ok (.invokevirtual 76, 3) := by decide +kernel
theorem dX9_leftOf_12 : decode cX9_leftOf 12 = .ok (.invokevirtual 137, 3) := by decide +kernel
theorem dX9_leftOf_15 : decode cX9_leftOf 15 = .ok (.isub, 1) := by decide +kernel
theorem dX9_leftOf_16 : decode cX9_leftOf 16 = .ok (.ireturn, 1) := by decide +kernel
def f_X9_leftOf (x1 : Int32) (M : Mem) : Option (Int32 × Mem) := (f_X9_share x1 M).bind fun q3 => (f_X9_get x1 (1 : Int32) M).bind fun q7 => (f_X9_middleOf q7 M).bind fun q11 => some ((q3 - q11.1), q11.2)
set_option maxRecDepth 100000 in
set_option maxHeartbeats 4000000 in
theorem c_X9_leftOf (Z : Sys) {M : Mem} (hs : St M) (x1 : Int32) {q : Int32 × Mem} (hf : f_X9_leftOf x1 M = some q) : Ct Z yX9_leftOf cX9_leftOf 2 (some .int) rm_X9_leftOf [.ref (zs Z + 284), .int x1] M False (PostI q.1 q.2) := by
  refine Ct.of (by decide +kernel) (Nat.le_of_ble_eq_true rfl) (fun X hR hq _ => ?_)
  show G Z X Y_X9_leftOf False 0 0 0 [(0, .ref (zs Z + 284)), (1, .int x1)] [] M
  replace hq : RetOk Z X (some .int) False (PostI q.1 q.2) 0 0 := hq
  unfold f_X9_leftOf at hf
  refine G.aload_n 0 0 dX9_leftOf_0 rfl rfl ?_
  refine G.iload_n 1 1 dX9_leftOf_1 rfl rfl ?_
  obtain ⟨q3, e4, hf⟩ := bd_e hf
  refine G.cvI 2 (As := [.int x1]) ck_9 (hs.k k0_284) (c_X9_share Z hs x1 e4) mk_X9_share vk_X9_share rfl wd_1449 hR (by decide +kernel) ⟨rfl, rfl⟩ rfl (Nat.le_of_ble_eq_true rfl) dX9_leftOf_2 (fun hs1 => ?_)
  refine G.aload_n 5 0 dX9_leftOf_5 rfl rfl ?_
  refine G.aload_n 6 0 dX9_leftOf_6 rfl rfl ?_
  refine G.iload_n 7 1 dX9_leftOf_7 rfl rfl ?_
  refine G.iconst 8 (1 : Int32) dX9_leftOf_8 (by decide +kernel) ?_
  obtain ⟨q7, e8, hf⟩ := bd_e hf
  refine G.cvI 9 (As := [.int x1, .int (1 : Int32)]) ck_9 (hs1.k k0_284) (c_X9_get Z hs1 x1 (1 : Int32) e8) mk_X9_get vk_X9_get rfl wd_1411 hR (by decide +kernel) ⟨rfl, rfl⟩ rfl (Nat.le_of_ble_eq_true rfl) dX9_leftOf_9 (fun hs5 => ?_)
  obtain ⟨q11, e12, hf⟩ := bd_e hf
  refine G.cvI 12 (As := [.int q7]) ck_9 (hs5.k k0_284) (c_X9_middleOf Z hs5 q7 e12) mk_X9_middleOf vk_X9_middleOf rfl wd_1511 hR (by decide +kernel) ⟨rfl, rfl⟩ rfl (Nat.le_of_ble_eq_true rfl) dX9_leftOf_12 (fun hs9 => ?_)
  refine G.isub 15 dX9_leftOf_15 ?_
  (have hf9 := Option.some.inj hf; subst hf9)
  exact G.rI 16 hq dX9_leftOf_16 hs9
abbrev Y_X9_amount : My := (cX9_amount, RX9, 1)
def rm_X9_amount : Room := { frames := 1, cells := 0, slots := 0, locals := 200 }
theorem dX9_amount_0 : decode cX9_amount 0 = .ok (.iload_n 0, 1) := by decide +kernel
theorem dX9_amount_1 : decode cX9_amount 1 = .ok (.ifCond .ge 8, 3) := by decide +kernel
theorem dX9_amount_4 : decode cX9_amount 4 = .ok (.iload_n 0, 1) := by decide +kernel
theorem dX9_amount_5 : decode cX9_amount 5 = .ok (.ineg, 1) := by decide +kernel
theorem dX9_amount_6 : decode cX9_amount 6 = .ok (.goto 4, 3) := by decide +kernel
theorem dX9_amount_9 : decode cX9_amount 9 = .ok (.iload_n 0, 1) := by decide +kernel
theorem dX9_amount_10 : decode cX9_amount 10 = .ok (.ireturn, 1) := by decide +kernel
def f_X9_amount (x0 : Int32) : Int32 := if 0 ≤ x0 then x0 else (-x0)
set_option maxRecDepth 100000 in
set_option maxHeartbeats 4000000 in
theorem c_X9_amount (Z : Sys) {M : Mem} (hs : St M) (x0 : Int32) {q : Int32} (hf : f_X9_amount x0 = q) : Ct Z yX9_amount cX9_amount 1 (some .int) rm_X9_amount [.int x0] M False (PostI q M) := by
  refine Ct.of (by decide +kernel) (Nat.le_of_ble_eq_true rfl) (fun X hR hq _ => ?_)
  show G Z X Y_X9_amount False 0 0 0 [(0, .int x0)] [] M
  replace hq : RetOk Z X (some .int) False (PostI q M) 0 0 := hq
  unfold f_X9_amount at hf
  refine G.iload_n 0 0 dX9_amount_0 rfl rfl ?_
  refine G.if_ge 1 9 dX9_amount_1 (by decide) (fun h1 => ?_) (fun h1 => ?_)
  · replace hf := (if_pos h1).symm.trans hf
    refine G.iload_n 9 0 dX9_amount_9 rfl rfl ?_
    subst hf
    exact G.rI 10 hq dX9_amount_10 hs
  · replace hf := (if_neg h1).symm.trans hf
    refine G.iload_n 4 0 dX9_amount_4 rfl rfl ?_
    refine G.ineg 5 dX9_amount_5 ?_
    refine G.goto 6 10 dX9_amount_6 (by decide) ?_
    subst hf
    exact G.rI 10 hq dX9_amount_10 hs
abbrev Y_X9_untrueOf : My := (cX9_untrueOf, RX9, 5)
def rm_X9_untrueOf : Room := { frames := 2, cells := 0, slots := 0, locals := 222 }
theorem dX9_untrueOf_0 : decode cX9_untrueOf 0 = .ok (.iload_n 2, 1) := by decide +kernel
theorem dX9_untrueOf_1 : decode cX9_untrueOf 1 = .ok (.iconst 1, 1) := by decide +kernel
theorem dX9_untrueOf_2 : decode cX9_untrueOf 2 = .ok (.if_icmp .ne 38, 3) := by decide +kernel
theorem dX9_untrueOf_5 : decode cX9_untrueOf 5 = .ok (.aload_n 0, 1) := by decide +kernel
theorem dX9_untrueOf_6 : decode cX9_untrueOf 6 = .ok (.iload_n 1, 1) := by decide +kernel
theorem dX9_untrueOf_7 : decode cX9_untrueOf 7 = .ok (.bipush 9, 2) := by decide +kernel
theorem dX9_untrueOf_9 : decode cX9_untrueOf 9 = .ok (.invokevirtual 76, 3) := by decide +kernel
theorem dX9_untrueOf_12 : decode cX9_untrueOf 12 = .ok (.aload_n 0, 1) := by decide +kernel
theorem dX9_untrueOf_13 : decode cX9_untrueOf 13 = .ok (.iload_n 1, 1) := by decide +kernel
theorem dX9_untrueOf_14 : decode cX9_untrueOf 14 = .ok (.iconst 0, 1) := by decide +kernel
theorem dX9_untrueOf_15 : decode cX9_untrueOf 15 = .ok (.invokevirtual 76, 3) := by decide +kernel
theorem dX9_untrueOf_18 : decode cX9_untrueOf 18 = .ok (.if_icmp .le 20, 3) := by decide +kernel
theorem dX9_untrueOf_21 : decode cX9_untrueOf 21 = .ok (.aload_n 0, 1) := by decide +kernel
theorem dX9_untrueOf_22 : decode cX9_untrueOf 22 = .ok (.iload_n 1, 1) := by decide +kernel
theorem dX9_untrueOf_23 : decode cX9_untrueOf 23 = .ok (.bipush 9, 2) := by decide +kernel
theorem dX9_untrueOf_25 : decode cX9_untrueOf 25 = .ok (.invokevirtual 76, 3) := by decide +kernel
theorem dX9_untrueOf_28 : decode cX9_untrueOf 28 = .ok (.aload_n 0, 1) := by decide +kernel
theorem dX9_untrueOf_29 : decode cX9_untrueOf 29 = .ok (.iload_n 1, 1) := by decide +kernel
theorem dX9_untrueOf_30 : decode cX9_untrueOf 30 = .ok (.iconst 0, 1) := by decide +kernel
theorem dX9_untrueOf_31 : decode cX9_untrueOf 31 = .ok (.invokevirtual 76, 3) := by decide +kernel
theorem dX9_untrueOf_34 : decode cX9_untrueOf 34 = .ok (.isub, 1) := by decide +kernel
theorem dX9_untrueOf_35 : decode cX9_untrueOf 35 = .ok (.goto 4, 3) := by decide +kernel
theorem dX9_untrueOf_38 : decode cX9_untrueOf 38 = .ok (.iconst 0, 1) := by decide +kernel
theorem dX9_untrueOf_39 : decode cX9_untrueOf 39 = .ok (.ireturn, 1) := by decide +kernel
theorem dX9_untrueOf_40 : decode cX9_untrueOf 40 = .ok (.aload_n 0, 1) := by decide +kernel
theorem dX9_untrueOf_41 : decode cX9_untrueOf 41 = .ok (.iload_n 1, 1) := by decide +kernel
theorem dX9_untrueOf_42 : decode cX9_untrueOf 42 = .ok (.bipush 9, 2) := by decide +kernel
theorem dX9_untrueOf_44 : decode cX9_untrueOf 44 = .ok (.invokevirtual 76, 3) := by decide +kernel
theorem dX9_untrueOf_47 : decode cX9_untrueOf 47 = .ok (.aload_n 0, 1) := by decide +kernel
theorem dX9_untrueOf_48 : decode cX9_untrueOf 48 = .ok (.iload_n 1, 1) := by decide +kernel
theorem dX9_untrueOf_49 : decode cX9_untrueOf 49 = .ok (.iconst 5, 1) := by decide +kernel
theorem dX9_untrueOf_50 : decode cX9_untrueOf 50 = .ok (.invokevirtual 76, 3) := by decide +kernel
theorem dX9_untrueOf_53 : decode cX9_untrueOf 53 = .ok (.isub, 1) := by decide +kernel
theorem dX9_untrueOf_54 : decode cX9_untrueOf 54 = .ok (.invokestatic 172, 3) := by decide +kernel
theorem dX9_untrueOf_57 : decode cX9_untrueOf 57 = .ok (.istore_n 3, 1) := by decide +kernel
theorem dX9_untrueOf_58 : decode cX9_untrueOf 58 = .ok (.aload_n 0, 1) := by decide +kernel
theorem dX9_untrueOf_59 : decode cX9_untrueOf 59 = .ok (.iload_n 1, 1) := by decide +kernel
theorem dX9_untrueOf_60 : decode cX9_untrueOf 60 = .ok (.bipush 10, 2) := by decide +kernel
theorem dX9_untrueOf_62 : decode cX9_untrueOf 62 = .ok (.invokevirtual 76, 3) := by decide +kernel
theorem dX9_untrueOf_65 : decode cX9_untrueOf 65 = .ok (.aload_n 0, 1) := by decide +kernel
theorem dX9_untrueOf_66 : decode cX9_untrueOf 66 = .ok (.iload_n 1, 1) := by decide +kernel
theorem dX9_untrueOf_67 : decode cX9_untrueOf 67 = .ok (.bipush 6, 2) := by decide +kernel
theorem dX9_untrueOf_69 : decode cX9_untrueOf 69 = .ok (.invokevirtual 76, 3) := by decide +kernel
theorem dX9_untrueOf_72 : decode cX9_untrueOf 72 = .ok (.isub, 1) := by decide +kernel
theorem dX9_untrueOf_73 : decode cX9_untrueOf 73 = .ok (.invokestatic 172, 3) := by decide +kernel
theorem dX9_untrueOf_76 : decode cX9_untrueOf 76 = .ok (.istore 4, 2) := by decide +kernel
theorem dX9_untrueOf_78 : decode cX9_untrueOf 78 = .ok (.iload_n 3, 1) := by decide +kernel
theorem dX9_untrueOf_79 : decode cX9_untrueOf 79 = .ok (.iload 4, 2) := by decide +kernel
theorem dX9_untrueOf_81 : decode cX9_untrueOf 81 = .ok (.if_icmp .le 7, 3) := by decide +kernel
theorem dX9_untrueOf_84 : decode cX9_untrueOf 84 = .ok (.iload_n 3, 1) := by decide +kernel
theorem dX9_untrueOf_85 : decode cX9_untrueOf 85 = .ok (.goto 5, 3) := by decide +kernel
theorem dX9_untrueOf_88 : decode cX9_untrueOf 88 = .ok (.iload 4, 2) := by decide +kernel
theorem dX9_untrueOf_90 : decode cX9_untrueOf 90 = .ok (.ireturn, 1) := by decide +kernel
def f_X9_untrueOf (x1 : Int32) (x2 : Int32) (M : Mem) : Option Int32 := if x2 = (1 : Int32) then (f_X9_get x1 (9 : Int32) M).bind fun q25 => (f_X9_get x1 (0 : Int32) M).bind fun q29 => if q25 ≤ q29 then some (0 : Int32) else (f_X9_get x1 (9 : Int32) M).bind fun q34 => (f_X9_get x1 (0 : Int32) M).bind fun q38 => some (q34 - q38) else (f_X9_get x1 (9 : Int32) M).bind fun q4 => (f_X9_get x1 (5 : Int32) M).bind fun q8 => (f_X9_get x1 (10 : Int32) M).bind fun q14 => (f_X9_get x1 (6 : Int32) M).bind fun q18 => if (f_X9_amount (q4 - q8)) ≤ (f_X9_amount (q14 - q18)) then some (f_X9_amount (q14 - q18)) else some (f_X9_amount (q4 - q8))
set_option maxRecDepth 100000 in
set_option maxHeartbeats 4000000 in
theorem c_X9_untrueOf (Z : Sys) {M : Mem} (hs : St M) (x1 : Int32) (x2 : Int32) {q : Int32} (hf : f_X9_untrueOf x1 x2 M = some q) : Ct Z yX9_untrueOf cX9_untrueOf 5 (some .int) rm_X9_untrueOf [.ref (zs Z + 284), .int x1, .int x2] M False (PostI q M) := by
  refine Ct.of (by decide +kernel) (Nat.le_of_ble_eq_true rfl) (fun X hR hq _ => ?_)
  show G Z X Y_X9_untrueOf False 0 0 0 [(0, .ref (zs Z + 284)), (1, .int x1), (2, .int x2)] [] M
  replace hq : RetOk Z X (some .int) False (PostI q M) 0 0 := hq
  unfold f_X9_untrueOf at hf
  refine G.iload_n 0 2 dX9_untrueOf_0 rfl rfl ?_
  refine G.iconst 1 (1 : Int32) dX9_untrueOf_1 (by decide +kernel) ?_
  refine G.icmp_ne 2 40 dX9_untrueOf_2 (by decide) (fun h1 => ?_) (fun h1 => ?_)
  · replace hf := (if_neg h1).symm.trans hf
    refine G.aload_n 40 0 dX9_untrueOf_40 rfl rfl ?_
    refine G.iload_n 41 1 dX9_untrueOf_41 rfl rfl ?_
    refine G.bipush 42 (9 : Int32) dX9_untrueOf_42 (by decide +kernel) ?_
    obtain ⟨q4, e5, hf⟩ := bd_e hf
    refine G.cvI 44 (As := [.int x1, .int (9 : Int32)]) ck_9 (hs.k k0_284) (c_X9_get Z hs x1 (9 : Int32) e5) mk_X9_get vk_X9_get rfl wd_1411 hR (by decide +kernel) ⟨rfl, rfl⟩ rfl (Nat.le_of_ble_eq_true rfl) dX9_untrueOf_44 (fun hs2 => ?_)
    refine G.aload_n 47 0 dX9_untrueOf_47 rfl rfl ?_
    refine G.iload_n 48 1 dX9_untrueOf_48 rfl rfl ?_
    refine G.iconst 49 (5 : Int32) dX9_untrueOf_49 (by decide +kernel) ?_
    obtain ⟨q8, e9, hf⟩ := bd_e hf
    refine G.cvI 50 (As := [.int x1, .int (5 : Int32)]) ck_9 (hs2.k k0_284) (c_X9_get Z hs2 x1 (5 : Int32) e9) mk_X9_get vk_X9_get rfl wd_1411 hR (by decide +kernel) ⟨rfl, rfl⟩ rfl (Nat.le_of_ble_eq_true rfl) dX9_untrueOf_50 (fun hs6 => ?_)
    refine G.isub 53 dX9_untrueOf_53 ?_
    refine G.csI 54 (As := [.int (q4 - q8)]) (c_X9_amount Z hs6 (q4 - q8) rfl) mk_X9_amount wd_1596 wd_1595 hR (by decide +kernel) ⟨rfl, rfl⟩ rfl (Nat.le_of_ble_eq_true rfl) dX9_untrueOf_54 (fun hs10 => ?_)
    refine G.istore_n 57 [(3, .int (f_X9_amount (q4 - q8))), (0, .ref (zs Z + 284)), (1, .int x1), (2, .int x2)] dX9_untrueOf_57 rfl (Nat.le_of_ble_eq_true rfl) rfl ?_
    refine G.aload_n 58 1 dX9_untrueOf_58 rfl rfl ?_
    refine G.iload_n 59 2 dX9_untrueOf_59 rfl rfl ?_
    refine G.bipush 60 (10 : Int32) dX9_untrueOf_60 (by decide +kernel) ?_
    obtain ⟨q14, e15, hf⟩ := bd_e hf
    refine G.cvI 62 (As := [.int x1, .int (10 : Int32)]) ck_9 (hs10.k k0_284) (c_X9_get Z hs10 x1 (10 : Int32) e15) mk_X9_get vk_X9_get rfl wd_1411 hR (by decide +kernel) ⟨rfl, rfl⟩ rfl (Nat.le_of_ble_eq_true rfl) dX9_untrueOf_62 (fun hs12 => ?_)
    refine G.aload_n 65 1 dX9_untrueOf_65 rfl rfl ?_
    refine G.iload_n 66 2 dX9_untrueOf_66 rfl rfl ?_
    refine G.bipush 67 (6 : Int32) dX9_untrueOf_67 (by decide +kernel) ?_
    obtain ⟨q18, e19, hf⟩ := bd_e hf
    refine G.cvI 69 (As := [.int x1, .int (6 : Int32)]) ck_9 (hs12.k k0_284) (c_X9_get Z hs12 x1 (6 : Int32) e19) mk_X9_get vk_X9_get rfl wd_1411 hR (by decide +kernel) ⟨rfl, rfl⟩ rfl (Nat.le_of_ble_eq_true rfl) dX9_untrueOf_69 (fun hs16 => ?_)
    refine G.isub 72 dX9_untrueOf_72 ?_
    refine G.csI 73 (As := [.int (q14 - q18)]) (c_X9_amount Z hs16 (q14 - q18) rfl) mk_X9_amount wd_1596 wd_1595 hR (by decide +kernel) ⟨rfl, rfl⟩ rfl (Nat.le_of_ble_eq_true rfl) dX9_untrueOf_73 (fun hs20 => ?_)
    refine G.istore 76 [(4, .int (f_X9_amount (q14 - q18))), (3, .int (f_X9_amount (q4 - q8))), (0, .ref (zs Z + 284)), (1, .int x1), (2, .int x2)] dX9_untrueOf_76 (Nat.le_of_ble_eq_true rfl) rfl ?_
    refine G.iload_n 78 1 dX9_untrueOf_78 rfl rfl ?_
    refine G.iload 79 0 dX9_untrueOf_79 rfl ?_
    refine G.icmp_le 81 88 dX9_untrueOf_81 (by decide) (fun h22 => ?_) (fun h22 => ?_)
    · replace hf := (if_pos h22).symm.trans hf
      refine G.iload 88 0 dX9_untrueOf_88 rfl ?_
      (have hf9 := Option.some.inj hf; subst hf9)
      exact G.rI 90 hq dX9_untrueOf_90 hs20
    · replace hf := (if_neg h22).symm.trans hf
      refine G.iload_n 84 1 dX9_untrueOf_84 rfl rfl ?_
      refine G.goto 85 90 dX9_untrueOf_85 (by decide) ?_
      (have hf9 := Option.some.inj hf; subst hf9)
      exact G.rI 90 hq dX9_untrueOf_90 hs20
  · replace hf := (if_pos h1).symm.trans hf
    refine G.aload_n 5 0 dX9_untrueOf_5 rfl rfl ?_
    refine G.iload_n 6 1 dX9_untrueOf_6 rfl rfl ?_
    refine G.bipush 7 (9 : Int32) dX9_untrueOf_7 (by decide +kernel) ?_
    obtain ⟨q25, e26, hf⟩ := bd_e hf
    refine G.cvI 9 (As := [.int x1, .int (9 : Int32)]) ck_9 (hs.k k0_284) (c_X9_get Z hs x1 (9 : Int32) e26) mk_X9_get vk_X9_get rfl wd_1411 hR (by decide +kernel) ⟨rfl, rfl⟩ rfl (Nat.le_of_ble_eq_true rfl) dX9_untrueOf_9 (fun hs23 => ?_)
    refine G.aload_n 12 0 dX9_untrueOf_12 rfl rfl ?_
    refine G.iload_n 13 1 dX9_untrueOf_13 rfl rfl ?_
    refine G.iconst 14 (0 : Int32) dX9_untrueOf_14 (by decide +kernel) ?_
    obtain ⟨q29, e30, hf⟩ := bd_e hf
    refine G.cvI 15 (As := [.int x1, .int (0 : Int32)]) ck_9 (hs23.k k0_284) (c_X9_get Z hs23 x1 (0 : Int32) e30) mk_X9_get vk_X9_get rfl wd_1411 hR (by decide +kernel) ⟨rfl, rfl⟩ rfl (Nat.le_of_ble_eq_true rfl) dX9_untrueOf_15 (fun hs27 => ?_)
    refine G.icmp_le 18 38 dX9_untrueOf_18 (by decide) (fun h31 => ?_) (fun h31 => ?_)
    · replace hf := (if_pos h31).symm.trans hf
      refine G.iconst 38 (0 : Int32) dX9_untrueOf_38 (by decide +kernel) ?_
      (have hf9 := Option.some.inj hf; subst hf9)
      exact G.rI 39 hq dX9_untrueOf_39 hs27
    · replace hf := (if_neg h31).symm.trans hf
      refine G.aload_n 21 0 dX9_untrueOf_21 rfl rfl ?_
      refine G.iload_n 22 1 dX9_untrueOf_22 rfl rfl ?_
      refine G.bipush 23 (9 : Int32) dX9_untrueOf_23 (by decide +kernel) ?_
      obtain ⟨q34, e35, hf⟩ := bd_e hf
      refine G.cvI 25 (As := [.int x1, .int (9 : Int32)]) ck_9 (hs27.k k0_284) (c_X9_get Z hs27 x1 (9 : Int32) e35) mk_X9_get vk_X9_get rfl wd_1411 hR (by decide +kernel) ⟨rfl, rfl⟩ rfl (Nat.le_of_ble_eq_true rfl) dX9_untrueOf_25 (fun hs32 => ?_)
      refine G.aload_n 28 0 dX9_untrueOf_28 rfl rfl ?_
      refine G.iload_n 29 1 dX9_untrueOf_29 rfl rfl ?_
      refine G.iconst 30 (0 : Int32) dX9_untrueOf_30 (by decide +kernel) ?_
      obtain ⟨q38, e39, hf⟩ := bd_e hf
      refine G.cvI 31 (As := [.int x1, .int (0 : Int32)]) ck_9 (hs32.k k0_284) (c_X9_get Z hs32 x1 (0 : Int32) e39) mk_X9_get vk_X9_get rfl wd_1411 hR (by decide +kernel) ⟨rfl, rfl⟩ rfl (Nat.le_of_ble_eq_true rfl) dX9_untrueOf_31 (fun hs36 => ?_)
      refine G.isub 34 dX9_untrueOf_34 ?_
      refine G.goto 35 39 dX9_untrueOf_35 (by decide) ?_
      (have hf9 := Option.some.inj hf; subst hf9)
      exact G.rI 39 hq dX9_untrueOf_39 hs36
