abbrev Y_X8_restore : My := (cX8_restore, RX8, 1)
def rm_X8_restore : Room := { frames := 4, cells := 0, slots := 0, locals := 264 }
theorem dX8_restore_0 : decode cX8_restore 0 = .ok (.aload_n 0, 1) := by decide +kernel
theorem dX8_restore_1 : decode cX8_restore 1 = .ok (.getfield 293, 3) := by decide +kernel
theorem dX8_restore_4 : decode cX8_restore 4 = .ok (.ifCond .ne 6, 3) := by decide +kernel
theorem dX8_restore_7 : decode cX8_restore 7 = .ok (.bipush (-3), 2) := by decide +kernel
theorem dX8_restore_9 : decode cX8_restore 9 = .ok (.ireturn, 1) := by decide +kernel
theorem dX8_restore_10 : decode cX8_restore 10 = .ok (.aload_n 0, 1) := by decide +kernel
theorem dX8_restore_11 : decode cX8_restore 11 = .ok (.getfield 10, 3) := by decide +kernel
theorem dX8_restore_14 : decode cX8_restore 14 = .ok (.aload_n 0, 1) := by decide +kernel
theorem dX8_restore_15 : decode cX8_restore 15 = .ok (.getfield 16, 3) := by decide +kernel
theorem dX8_restore_18 : decode cX8_restore 18 = .ok (.invokevirtual 262, 3) := by decide +kernel
theorem dX8_restore_21 : decode cX8_restore 21 = .ok (.aload_n 0, 1) := by decide +kernel
theorem dX8_restore_22 : decode cX8_restore 22 = .ok (.getfield 10, 3) := by decide +kernel
theorem dX8_restore_25 : decode cX8_restore 25 = .ok (.getfield 118, 3) := by decide +kernel
theorem dX8_restore_28 : decode cX8_restore 28 = .ok (.ireturn, 1) := by decide +kernel
def f_X8_restore (M : Mem) : Option (Int32 × Mem) := if (mI M 0 3) = 0 then some ((-3 : Int32), M) else (f_X0_copyFrom 1 85 M).bind fun q4 => some ((mI q4 1 1), q4)
set_option maxRecDepth 100000 in
set_option maxHeartbeats 4000000 in
theorem c_X8_restore (Z : Sys) {M : Mem} (hs : St M) {q : Int32 × Mem} (hf : f_X8_restore M = some q) : Ct Z yX8_restore cX8_restore 1 (some .int) rm_X8_restore [.ref (zs Z + 0)] M False (PostI q.1 q.2) := by
  refine Ct.of (by decide +kernel) (Nat.le_of_ble_eq_true rfl) (fun X hR hq _ => ?_)
  show G Z X Y_X8_restore False 0 0 0 [(0, .ref (zs Z + 0))] [] M
  replace hq : RetOk Z X (some .int) False (PostI q.1 q.2) 0 0 := hq
  unfold f_X8_restore at hf
  refine G.aload_n 0 0 dX8_restore_0 rfl rfl ?_
  refine G.geti 1 ck_8 3 (hs.k k0_0) (by decide) (by decide +kernel) wd_403 dX8_restore_1 ?_
  refine G.if_ne 4 10 dX8_restore_4 (by decide) (fun h1 => ?_) (fun h1 => ?_)
  · replace hf := (if_neg h1).symm.trans hf
    refine G.aload_n 10 0 dX8_restore_10 rfl rfl ?_
    refine G.getp 11 ck_8 0 1 (hs.k k0_0) (pc_8_0 hs) (by decide) (by decide +kernel) wd_400 dX8_restore_11 ?_
    refine G.aload_n 14 0 dX8_restore_14 rfl rfl ?_
    refine G.getp 15 ck_8 1 85 (hs.k k0_0) (pc_8_1 hs) (by decide) (by decide +kernel) wd_401 dX8_restore_15 ?_
    obtain ⟨q4, e5, hf⟩ := bd_e hf
    refine G.cvV 18 (As := [.ref (zs Z + 85)]) ck_0 (hs.k k0_1) (c_X0_copyFrom Z hs 1 85 k0_1 k0_85 e5) mk_X0_copyFrom vk_X0_copyFrom rfl wd_831 hR (by decide +kernel) ⟨rfl, rfl⟩ rfl (Nat.le_of_ble_eq_true rfl) dX8_restore_18 (fun hs2 => ?_)
    refine G.aload_n 21 0 dX8_restore_21 rfl rfl ?_
    refine G.getp 22 ck_8 0 1 (hs2.k k0_0) (pc_8_0 hs2) (by decide) (by decide +kernel) wd_400 dX8_restore_22 ?_
    refine G.geti 25 ck_0 1 (hs2.k k0_1) (by decide) (by decide +kernel) wd_264 dX8_restore_25 ?_
    (have hf9 := Option.some.inj hf; subst hf9)
    exact G.rI 28 hq dX8_restore_28 hs2
  · replace hf := (if_pos h1).symm.trans hf
    refine G.bipush 7 (-3 : Int32) dX8_restore_7 (by decide +kernel) ?_
    (have hf9 := Option.some.inj hf; subst hf9)
    exact G.rI 9 hq dX8_restore_9 hs
abbrev Y_X8_round : My := (cX8_round, RX8, 2)
def rm_X8_round : Room := { frames := 4, cells := 0, slots := 0, locals := 265 }
theorem dX8_round_0 : decode cX8_round 0 = .ok (.iload_n 1, 1) := by decide +kernel
theorem dX8_round_1 : decode cX8_round 1 = .ok (.iconst (-1), 1) := by decide +kernel
theorem dX8_round_2 : decode cX8_round 2 = .ok (.if_icmp .eq 21, 3) := by decide +kernel
theorem dX8_round_5 : decode cX8_round 5 = .ok (.iload_n 1, 1) := by decide +kernel
theorem dX8_round_6 : decode cX8_round 6 = .ok (.iconst 0, 1) := by decide +kernel
theorem dX8_round_7 : decode cX8_round 7 = .ok (.bipush 100, 2) := by decide +kernel
theorem dX8_round_9 : decode cX8_round 9 = .ok (.invokestatic 50, 3) := by decide +kernel
theorem dX8_round_12 : decode cX8_round 12 = .ok (.ifCond .eq 9, 3) := by decide +kernel
theorem dX8_round_15 : decode cX8_round 15 = .ok (.iload_n 1, 1) := by decide +kernel
theorem dX8_round_16 : decode cX8_round 16 = .ok (.iconst 5, 1) := by decide +kernel
theorem dX8_round_17 : decode cX8_round 17 = .ok (.irem, 1) := by decide +kernel
theorem dX8_round_18 : decode cX8_round 18 = .ok (.ifCond .eq 5, 3) := by decide +kernel
theorem dX8_round_21 : decode cX8_round 21 = .ok (.iconst (-1), 1) := by decide +kernel
theorem dX8_round_22 : decode cX8_round 22 = .ok (.ireturn, 1) := by decide +kernel
theorem dX8_round_23 : decode cX8_round 23 = .ok (.aload_n 0, 1) := by decide +kernel
theorem dX8_round_24 : decode cX8_round 24 = .ok (.getfield 10, 3) := by decide +kernel
theorem dX8_round_27 : decode cX8_round 27 = .ok (.iload_n 1, 1) := by decide +kernel
theorem dX8_round_28 : decode cX8_round 28 = .ok (.invokevirtual 155, 3) := by decide +kernel
theorem dX8_round_31 : decode cX8_round 31 = .ok (.ireturn, 1) := by decide +kernel
def B_X8_round_23 (x1 : Int32) (M : Mem) : Option Int32 := (f_X0_roundCount 1 x1 M).bind fun q4 => some q4
def f_X8_round (x1 : Int32) (M : Mem) : Option Int32 := if x1 = (-1 : Int32) then B_X8_round_23 x1 M else if (f_X8_within x1 (0 : Int32) (100 : Int32)) = 0 then some (-1 : Int32) else if (jrem x1 (5 : Int32)) = 0 then B_X8_round_23 x1 M else some (-1 : Int32)
set_option maxRecDepth 100000 in
set_option maxHeartbeats 4000000 in
theorem b_X8_round_23 (Z : Sys) (X : Cx) (hR : xR X = rm_X8_round) {q : Int32} {M : Mem} (hq : RetOk Z X (some .int) False (PostI q M) 0 0) (x1 : Int32) (hs : St M) (hf : B_X8_round_23 x1 M = some q) : G Z X Y_X8_round False 0 0 23 [(0, .ref (zs Z + 0)), (1, .int x1)] [] M := by
  unfold B_X8_round_23 at hf
  refine G.aload_n 23 0 dX8_round_23 rfl rfl ?_
  refine G.getp 24 ck_8 0 1 (hs.k k0_0) (pc_8_0 hs) (by decide) (by decide +kernel) wd_400 dX8_round_24 ?_
  refine G.iload_n 27 1 dX8_round_27 rfl rfl ?_
  obtain ⟨q4, e5, hf⟩ := bd_e hf
  refine G.cvI 28 (As := [.int x1]) ck_0 (hs.k k0_1) (c_X0_roundCount Z hs 1 x1 k0_1 e5) mk_X0_roundCount vk_X0_roundCount rfl wd_588 hR (by decide +kernel) ⟨rfl, rfl⟩ rfl (Nat.le_of_ble_eq_true rfl) dX8_round_28 (fun hs2 => ?_)
  (have hf9 := Option.some.inj hf; subst hf9)
  exact G.rI 31 hq dX8_round_31 hs2
set_option maxRecDepth 100000 in
set_option maxHeartbeats 4000000 in
theorem c_X8_round (Z : Sys) {M : Mem} (hs : St M) (x1 : Int32) {q : Int32} (hf : f_X8_round x1 M = some q) : Ct Z yX8_round cX8_round 2 (some .int) rm_X8_round [.ref (zs Z + 0), .int x1] M False (PostI q M) := by
  refine Ct.of (by decide +kernel) (Nat.le_of_ble_eq_true rfl) (fun X hR hq _ => ?_)
  show G Z X Y_X8_round False 0 0 0 [(0, .ref (zs Z + 0)), (1, .int x1)] [] M
  replace hq : RetOk Z X (some .int) False (PostI q M) 0 0 := hq
  unfold f_X8_round at hf
  refine G.iload_n 0 1 dX8_round_0 rfl rfl ?_
  refine G.iconst 1 (-1 : Int32) dX8_round_1 (by decide +kernel) ?_
  refine G.icmp_eq 2 23 dX8_round_2 (by decide) (fun h1 => ?_) (fun h1 => ?_)
  · replace hf := (if_pos h1).symm.trans hf
    exact b_X8_round_23 Z X hR hq x1 hs hf
  · replace hf := (if_neg h1).symm.trans hf
    refine G.iload_n 5 1 dX8_round_5 rfl rfl ?_
    refine G.iconst 6 (0 : Int32) dX8_round_6 (by decide +kernel) ?_
    refine G.bipush 7 (100 : Int32) dX8_round_7 (by decide +kernel) ?_
    refine G.csZ 9 (As := [.int x1, .int (0 : Int32), .int (100 : Int32)]) (c_X8_within Z hs x1 (0 : Int32) (100 : Int32) rfl) mk_X8_within wd_430 wd_429 hR (by decide +kernel) ⟨rfl, rfl⟩ rfl (Nat.le_of_ble_eq_true rfl) dX8_round_9 (fun hs6 z7 => ?_)
    refine G.if_eq 12 21 dX8_round_12 (by decide) (fun h8 => ?_) (fun h8 => ?_)
    · replace hf := (if_pos h8).symm.trans hf
      refine G.iconst 21 (-1 : Int32) dX8_round_21 (by decide +kernel) ?_
      (have hf9 := Option.some.inj hf; subst hf9)
      exact G.rI 22 hq dX8_round_22 hs6
    · replace hf := (if_neg h8).symm.trans hf
      refine G.iload_n 15 1 dX8_round_15 rfl rfl ?_
      refine G.iconst 16 (5 : Int32) dX8_round_16 (by decide +kernel) ?_
      refine G.iremJ 17 dX8_round_17 (by decide +kernel) ?_
      refine G.if_eq 18 23 dX8_round_18 (by decide) (fun h9 => ?_) (fun h9 => ?_)
      · replace hf := (if_pos h9).symm.trans hf
        exact b_X8_round_23 Z X hR hq x1 hs6 hf
      · replace hf := (if_neg h9).symm.trans hf
        refine G.iconst 21 (-1 : Int32) dX8_round_21 (by decide +kernel) ?_
        (have hf9 := Option.some.inj hf; subst hf9)
        exact G.rI 22 hq dX8_round_22 hs6
abbrev Y_X8_row : My := (cX8_row, RX8, 4)
def rm_X8_row : Room := { frames := 3, cells := 0, slots := 0, locals := 245 }
theorem dX8_row_0 : decode cX8_row 0 = .ok (.iload_n 1, 1) := by decide +kernel
theorem dX8_row_1 : decode cX8_row 1 = .ok (.invokestatic 281, 3) := by decide +kernel
theorem dX8_row_4 : decode cX8_row 4 = .ok (.ifCond .eq 18, 3) := by decide +kernel
theorem dX8_row_7 : decode cX8_row 7 = .ok (.iload_n 2, 1) := by decide +kernel
theorem dX8_row_8 : decode cX8_row 8 = .ok (.iconst 0, 1) := by decide +kernel
theorem dX8_row_9 : decode cX8_row 9 = .ok (.iconst 2, 1) := by decide +kernel
theorem dX8_row_10 : decode cX8_row 10 = .ok (.invokestatic 50, 3) := by decide +kernel
theorem dX8_row_13 : decode cX8_row 13 = .ok (.ifCond .eq 9, 3) := by decide +kernel
theorem dX8_row_16 : decode cX8_row 16 = .ok (.iload_n 3, 1) := by decide +kernel
theorem dX8_row_17 : decode cX8_row 17 = .ok (.bipush 80, 2) := by decide +kernel
theorem dX8_row_19 : decode cX8_row 19 = .ok (.if_icmp .le 5, 3) := by decide +kernel
theorem dX8_row_22 : decode cX8_row 22 = .ok (.iconst (-1), 1) := by decide +kernel
theorem dX8_row_23 : decode cX8_row 23 = .ok (.ireturn, 1) := by decide +kernel
theorem dX8_row_24 : decode cX8_row 24 = .ok (.iload_n 3, 1) := by decide +kernel
theorem dX8_row_25 : decode cX8_row 25 = .ok (.ifCond .ge 6, 3) := by decide +kernel
theorem dX8_row_28 : decode cX8_row 28 = .ok (.bipush (-14), 2) := by decide +kernel
theorem dX8_row_30 : decode cX8_row 30 = .ok (.ireturn, 1) := by decide +kernel
theorem dX8_row_31 : decode cX8_row 31 = .ok (.aload_n 0, 1) := by decide +kernel
theorem dX8_row_32 : decode cX8_row 32 = .ok (.getfield 24, 3) := by decide +kernel
theorem dX8_row_35 : decode cX8_row 35 = .ok (.iload_n 1, 1) := by decide +kernel
theorem dX8_row_36 : decode cX8_row 36 = .ok (.aaload, 1) := by decide +kernel
theorem dX8_row_37 : decode cX8_row 37 = .ok (.iload_n 2, 1) := by decide +kernel
theorem dX8_row_38 : decode cX8_row 38 = .ok (.iload_n 3, 1) := by decide +kernel
theorem dX8_row_39 : decode cX8_row 39 = .ok (.invokevirtual 315, 3) := by decide +kernel
theorem dX8_row_42 : decode cX8_row 42 = .ok (.iconst 0, 1) := by decide +kernel
theorem dX8_row_43 : decode cX8_row 43 = .ok (.ireturn, 1) := by decide +kernel
def f_X8_row (x1 : Int32) (x2 : Int32) (x3 : Int32) (M : Mem) : Option (Int32 × Mem) := if (f_X8_isShelf x1) = 0 then some ((-1 : Int32), M) else if (f_X8_within x2 (0 : Int32) (2 : Int32)) = 0 then some ((-1 : Int32), M) else if x3 ≤ (80 : Int32) then if 0 ≤ x3 then gd (inR x1 8) ((f_X6_holdRow (253 + 7 + 3 * x1.toNatClampNeg) x2 x3 M).bind fun q12 => some ((0 : Int32), q12)) else some ((-14 : Int32), M) else some ((-1 : Int32), M)
set_option maxRecDepth 100000 in
set_option maxHeartbeats 4000000 in
theorem c_X8_row (Z : Sys) {M : Mem} (hs : St M) (x1 : Int32) (x2 : Int32) (x3 : Int32) {q : Int32 × Mem} (hf : f_X8_row x1 x2 x3 M = some q) : Ct Z yX8_row cX8_row 4 (some .int) rm_X8_row [.ref (zs Z + 0), .int x1, .int x2, .int x3] M False (PostI q.1 q.2) := by
  refine Ct.of (by decide +kernel) (Nat.le_of_ble_eq_true rfl) (fun X hR hq _ => ?_)
  show G Z X Y_X8_row False 0 0 0 [(0, .ref (zs Z + 0)), (1, .int x1), (2, .int x2), (3, .int x3)] [] M
  replace hq : RetOk Z X (some .int) False (PostI q.1 q.2) 0 0 := hq
  unfold f_X8_row at hf
  refine G.iload_n 0 1 dX8_row_0 rfl rfl ?_
  refine G.csZ 1 (As := [.int x1]) (c_X8_isShelf Z hs x1 rfl) mk_X8_isShelf wd_522 wd_521 hR (by decide +kernel) ⟨rfl, rfl⟩ rfl (Nat.le_of_ble_eq_true rfl) dX8_row_1 (fun hs1 z2 => ?_)
  refine G.if_eq 4 22 dX8_row_4 (by decide) (fun h3 => ?_) (fun h3 => ?_)
  · replace hf := (if_pos h3).symm.trans hf
    refine G.iconst 22 (-1 : Int32) dX8_row_22 (by decide +kernel) ?_
    (have hf9 := Option.some.inj hf; subst hf9)
    exact G.rI 23 hq dX8_row_23 hs1
  · replace hf := (if_neg h3).symm.trans hf
    refine G.iload_n 7 2 dX8_row_7 rfl rfl ?_
    refine G.iconst 8 (0 : Int32) dX8_row_8 (by decide +kernel) ?_
    refine G.iconst 9 (2 : Int32) dX8_row_9 (by decide +kernel) ?_
    refine G.csZ 10 (As := [.int x2, .int (0 : Int32), .int (2 : Int32)]) (c_X8_within Z hs1 x2 (0 : Int32) (2 : Int32) rfl) mk_X8_within wd_430 wd_429 hR (by decide +kernel) ⟨rfl, rfl⟩ rfl (Nat.le_of_ble_eq_true rfl) dX8_row_10 (fun hs4 z5 => ?_)
    refine G.if_eq 13 22 dX8_row_13 (by decide) (fun h6 => ?_) (fun h6 => ?_)
    · replace hf := (if_pos h6).symm.trans hf
      refine G.iconst 22 (-1 : Int32) dX8_row_22 (by decide +kernel) ?_
      (have hf9 := Option.some.inj hf; subst hf9)
      exact G.rI 23 hq dX8_row_23 hs4
    · replace hf := (if_neg h6).symm.trans hf
      refine G.iload_n 16 3 dX8_row_16 rfl rfl ?_
      refine G.bipush 17 (80 : Int32) dX8_row_17 (by decide +kernel) ?_
      refine G.icmp_le 19 24 dX8_row_19 (by decide) (fun h7 => ?_) (fun h7 => ?_)
      · replace hf := (if_pos h7).symm.trans hf
        refine G.iload_n 24 3 dX8_row_24 rfl rfl ?_
        refine G.if_ge 25 31 dX8_row_25 (by decide) (fun h8 => ?_) (fun h8 => ?_)
        · replace hf := (if_pos h8).symm.trans hf
          refine G.aload_n 31 0 dX8_row_31 rfl rfl ?_
          refine G.getp 32 ck_8 4 253 (hs4.k k0_0) (pc_8_4 hs4) (by decide) (by decide +kernel) wd_404 dX8_row_32 ?_
          refine G.iload_n 35 1 dX8_row_35 rfl rfl ?_
          obtain ⟨g9, hf⟩ := gd_e hf
          refine G.aa 36 x1.toNatClampNeg (253 + 7 + 3 * x1.toNatClampNeg) (hs4.k k0_253) (by decide) rfl rfl g9 rfl (pa_14 hs4 k0_253 (inlt g9)).1 dX8_row_36 ?_
          refine G.iload_n 37 2 dX8_row_37 rfl rfl ?_
          refine G.iload_n 38 3 dX8_row_38 rfl rfl ?_
          obtain ⟨q12, e13, hf⟩ := bd_e hf
          refine G.cvV 39 (As := [.int x2, .int x3]) ck_6 (hs4.k (pa_14 hs4 k0_253 (inlt g9)).2) (c_X6_holdRow Z hs4 (253 + 7 + 3 * x1.toNatClampNeg) x2 x3 (pa_14 hs4 k0_253 (inlt g9)).2 e13) mk_X6_holdRow vk_X6_holdRow rfl wd_1117 hR (by decide +kernel) ⟨rfl, rfl⟩ rfl (Nat.le_of_ble_eq_true rfl) dX8_row_39 (fun hs10 => ?_)
          refine G.iconst 42 (0 : Int32) dX8_row_42 (by decide +kernel) ?_
          (have hf9 := Option.some.inj hf; subst hf9)
          exact G.rI 43 hq dX8_row_43 hs10
        · replace hf := (if_neg h8).symm.trans hf
          refine G.bipush 28 (-14 : Int32) dX8_row_28 (by decide +kernel) ?_
          (have hf9 := Option.some.inj hf; subst hf9)
          exact G.rI 30 hq dX8_row_30 hs4
      · replace hf := (if_neg h7).symm.trans hf
        refine G.iconst 22 (-1 : Int32) dX8_row_22 (by decide +kernel) ?_
        (have hf9 := Option.some.inj hf; subst hf9)
        exact G.rI 23 hq dX8_row_23 hs4
abbrev Y_X8_said : My := (cX8_said, RX8, 5)
def rm_X8_said : Room := { frames := 8, cells := 0, slots := 0, locals := 359 }
theorem dX8_said_0 : decode cX8_said 0 = .ok (.iload_n 1, 1) := by decide +kernel
theorem dX8_said_1 : decode cX8_said 1 = .ok (.bipush 65, 2) := by decide +kernel
theorem dX8_said_3 : decode cX8_said 3 = .ok (.bipush 90, 2) := by decide +kernel
theorem dX8_said_5 : decode cX8_said 5 = .ok (.invokestatic 50, 3) := by decide +kernel
theorem dX8_said_8 : decode cX8_said 8 = .ok (.ifCond .eq 12, 3) := by decide +kernel
theorem dX8_said_11 : decode cX8_said 11 = .ok (.iload_n 2, 1) := by decide +kernel
theorem dX8_said_12 : decode cX8_said 12 = .ok (.iconst 0, 1) := by decide +kernel
theorem dX8_said_13 : decode cX8_said 13 = .ok (.iconst 1, 1) := by decide +kernel
theorem dX8_said_14 : decode cX8_said 14 = .ok (.invokestatic 50, 3) := by decide +kernel
theorem dX8_said_17 : decode cX8_said 17 = .ok (.ifCond .ne 5, 3) := by decide +kernel
theorem dX8_said_20 : decode cX8_said 20 = .ok (.iconst (-1), 1) := by decide +kernel
theorem dX8_said_21 : decode cX8_said 21 = .ok (.ireturn, 1) := by decide +kernel
theorem dX8_said_22 : decode cX8_said 22 = .ok (.iconst 0, 1) := by decide +kernel
theorem dX8_said_23 : decode cX8_said 23 = .ok (.istore_n 3, 1) := by decide +kernel
theorem dX8_said_24 : decode cX8_said 24 = .ok (.iconst 0, 1) := by decide +kernel
theorem dX8_said_25 : decode cX8_said 25 = .ok (.istore 4, 2) := by decide +kernel
theorem dX8_said_27 : decode cX8_said 27 = .ok (.iload 4, 2) := by decide +kernel
theorem dX8_said_29 : decode cX8_said 29 = .ok (.aload_n 0, 1) := by decide +kernel
theorem dX8_said_30 : decode cX8_said 30 = .ok (.getfield 10, 3) := by decide +kernel
theorem dX8_said_33 : decode cX8_said 33 = .ok (.getfield 118, 3) := by decide +kernel
theorem dX8_said_36 : decode cX8_said 36 = .ok (.if_icmp .ge 46, 3) := by decide +kernel
theorem dX8_said_39 : decode cX8_said 39 = .ok (.aload_n 0, 1) := by decide +kernel
theorem dX8_said_40 : decode cX8_said 40 = .ok (.getfield 10, 3) := by decide +kernel
theorem dX8_said_43 : decode cX8_said 43 = .ok (.iload 4, 2) := by decide +kernel
theorem dX8_said_45 : decode cX8_said 45 = .ok (.invokevirtual 290, 3) := by decide +kernel
theorem dX8_said_48 : decode cX8_said 48 = .ok (.iload_n 1, 1) := by decide +kernel
theorem dX8_said_49 : decode cX8_said 49 = .ok (.if_icmp .ne 27, 3) := by decide +kernel
theorem dX8_said_52 : decode cX8_said 52 = .ok (.iload_n 3, 1) := by decide +kernel
theorem dX8_said_53 : decode cX8_said 53 = .ok (.iload_n 2, 1) := by decide +kernel
theorem dX8_said_54 : decode cX8_said 54 = .ok (.ifCond .ne 7, 3) := by decide +kernel
theorem dX8_said_57 : decode cX8_said 57 = .ok (.iconst 1, 1) := by decide +kernel
theorem dX8_said_58 : decode cX8_said 58 = .ok (.goto 16, 3) := by decide +kernel
theorem dX8_said_61 : decode cX8_said 61 = .ok (.aload_n 0, 1) := by decide +kernel
theorem dX8_said_62 : decode cX8_said 62 = .ok (.getfield 10, 3) := by decide +kernel
theorem dX8_said_65 : decode cX8_said 65 = .ok (.getfield 62, 3) := by decide +kernel
theorem dX8_said_68 : decode cX8_said 68 = .ok (.iload 4, 2) := by decide +kernel
theorem dX8_said_70 : decode cX8_said 70 = .ok (.aaload, 1) := by decide +kernel
theorem dX8_said_71 : decode cX8_said 71 = .ok (.getfield 112, 3) := by decide +kernel
theorem dX8_said_74 : decode cX8_said 74 = .ok (.iadd, 1) := by decide +kernel
theorem dX8_said_75 : decode cX8_said 75 = .ok (.istore_n 3, 1) := by decide +kernel
theorem dX8_said_76 : decode cX8_said 76 = .ok (.iinc 4 1, 3) := by decide +kernel
theorem dX8_said_79 : decode cX8_said 79 = .ok (.goto (-52), 3) := by decide +kernel
theorem dX8_said_82 : decode cX8_said 82 = .ok (.iload_n 3, 1) := by decide +kernel
theorem dX8_said_83 : decode cX8_said 83 = .ok (.ireturn, 1) := by decide +kernel
def B_X8_said_76 (rc_27 : Int32 → Int32 → Int32 → Int32 → Mem → Option (Int32 × Mem)) (x1 : Int32) (x2 : Int32) (x3 : Int32) (x4 : Int32) (M : Mem) : Option (Int32 × Mem) := rc_27 x1 x2 x3 (x4 + 1) M
def L_X8_said_27 : Nat → Int32 → Int32 → Int32 → Int32 → Mem → Option (Int32 × Mem)
  | 0, _, _, _, _, _ => none
  | n + 1, x1, x2, x3, x4, M => if (mI M 1 1) ≤ x4 then some (x3, M) else (f_X0_nameOf 1 x4 M).bind fun q10 => if q10.1 = x1 then if x2 = 0 then B_X8_said_76 (L_X8_said_27 n) x1 x2 (x3 + (1 : Int32)) x4 q10.2 else gd (inR x4 30) (B_X8_said_76 (L_X8_said_27 n) x1 x2 (x3 + (mI q10.2 (2 + 23 + 2 * x4.toNatClampNeg) 11)) x4 q10.2) else B_X8_said_76 (L_X8_said_27 n) x1 x2 x3 x4 q10.2
def f_X8_said (x1 : Int32) (x2 : Int32) (M : Mem) : Option (Int32 × Mem) := if (f_X8_within x1 (65 : Int32) (90 : Int32)) = 0 then some ((-1 : Int32), M) else if (f_X8_within x2 (0 : Int32) (1 : Int32)) = 0 then some ((-1 : Int32), M) else L_X8_said_27 FU x1 x2 (0 : Int32) (0 : Int32) M
set_option maxRecDepth 100000 in
set_option maxHeartbeats 4000000 in
theorem b_X8_said_76 (Z : Sys) (X : Cx) (hR : xR X = rm_X8_said) {q : Int32 × Mem} (hq : RetOk Z X (some .int) False (PostI q.1 q.2) 0 0) (rc_27 : Int32 → Int32 → Int32 → Int32 → Mem → Option (Int32 × Mem)) (hrc_27 : ∀ (x1 : Int32) (x2 : Int32) (x3 : Int32) (x4 : Int32) (M : Mem), St M → rc_27 x1 x2 x3 x4 M = some q → G Z X Y_X8_said False 0 0 27 [(0, .ref (zs Z + 0)), (1, .int x1), (2, .int x2), (3, .int x3), (4, .int x4)] [] M) (x1 : Int32) (x2 : Int32) (x3 : Int32) (x4 : Int32) {M : Mem} (hs : St M) (hf : B_X8_said_76 rc_27 x1 x2 x3 x4 M = some q) : G Z X Y_X8_said False 0 0 76 [(0, .ref (zs Z + 0)), (1, .int x1), (2, .int x2), (3, .int x3), (4, .int x4)] [] M := by
  unfold B_X8_said_76 at hf
  refine G.iinc 76 4 (x4 + 1) [(4, .int (x4 + 1)), (0, .ref (zs Z + 0)), (1, .int x1), (2, .int x2), (3, .int x3)] dX8_said_76 rfl (congrArg (fun z => x4 + z) (by decide +kernel)) (Nat.le_of_ble_eq_true rfl) rfl ?_
  refine G.goto 79 27 dX8_said_79 (by decide) ?_
  refine G.locs [1, 2, 3, 4, 0] rfl ?_
  exact hrc_27 x1 x2 x3 (x4 + 1) M hs hf
set_option maxRecDepth 100000 in
set_option maxHeartbeats 4000000 in
theorem l_X8_said_27 (Z : Sys) (X : Cx) (hR : xR X = rm_X8_said) {q : Int32 × Mem} (hq : RetOk Z X (some .int) False (PostI q.1 q.2) 0 0) : ∀ (n : Nat) (x1 : Int32) (x2 : Int32) (x3 : Int32) (x4 : Int32) (M : Mem) (hs : St M) (hf : L_X8_said_27 n x1 x2 x3 x4 M = some q), G Z X Y_X8_said False 0 0 27 [(0, .ref (zs Z + 0)), (1, .int x1), (2, .int x2), (3, .int x3), (4, .int x4)] [] M := by
  intro n
  induction n with
  | zero => intro x1 x2 x3 x4 M hs  hf; cases hf
  | succ n ih =>
    intro x1 x2 x3 x4 M hs  hf
    unfold L_X8_said_27 at hf
    refine G.iload 27 4 dX8_said_27 rfl ?_
    refine G.aload_n 29 0 dX8_said_29 rfl rfl ?_
    refine G.getp 30 ck_8 0 1 (hs.k k0_0) (pc_8_0 hs) (by decide) (by decide +kernel) wd_400 dX8_said_30 ?_
    refine G.geti 33 ck_0 1 (hs.k k0_1) (by decide) (by decide +kernel) wd_264 dX8_said_33 ?_
    refine G.icmp_ge 36 82 dX8_said_36 (by decide) (fun h7 => ?_) (fun h7 => ?_)
    · replace hf := (if_pos h7).symm.trans hf
      refine G.iload_n 82 3 dX8_said_82 rfl rfl ?_
      (have hf9 := Option.some.inj hf; subst hf9)
      exact G.rI 83 hq dX8_said_83 hs
    · replace hf := (if_neg h7).symm.trans hf
      refine G.aload_n 39 0 dX8_said_39 rfl rfl ?_
      refine G.getp 40 ck_8 0 1 (hs.k k0_0) (pc_8_0 hs) (by decide) (by decide +kernel) wd_400 dX8_said_40 ?_
      refine G.iload 43 4 dX8_said_43 rfl ?_
      obtain ⟨q10, e11, hf⟩ := bd_e hf
      refine G.cvI 45 (As := [.int x4]) ck_0 (hs.k k0_1) (c_X0_nameOf Z hs 1 x4 k0_1 e11) mk_X0_nameOf vk_X0_nameOf rfl wd_1020 hR (by decide +kernel) ⟨rfl, rfl⟩ rfl (Nat.le_of_ble_eq_true rfl) dX8_said_45 (fun hs8 => ?_)
      refine G.iload_n 48 1 dX8_said_48 rfl rfl ?_
      refine G.icmp_ne 49 76 dX8_said_49 (by decide) (fun h12 => ?_) (fun h12 => ?_)
      · replace hf := (if_neg h12).symm.trans hf
        exact b_X8_said_76 Z X hR hq (L_X8_said_27 n) ih x1 x2 x3 x4 hs8 hf
      · replace hf := (if_pos h12).symm.trans hf
        refine G.iload_n 52 3 dX8_said_52 rfl rfl ?_
        refine G.iload_n 53 2 dX8_said_53 rfl rfl ?_
        refine G.if_ne 54 61 dX8_said_54 (by decide) (fun h13 => ?_) (fun h13 => ?_)
        · replace hf := (if_neg h13).symm.trans hf
          refine G.aload_n 61 0 dX8_said_61 rfl rfl ?_
          refine G.getp 62 ck_8 0 1 (hs8.k k0_0) (pc_8_0 hs8) (by decide) (by decide +kernel) wd_400 dX8_said_62 ?_
          refine G.getp 65 ck_0 0 2 (hs8.k k0_1) (pt_0_0 hs8 k0_1).1 (by decide) (by decide +kernel) wd_260 dX8_said_65 ?_
          refine G.iload 68 4 dX8_said_68 rfl ?_
          obtain ⟨g14, hf⟩ := gd_e hf
          refine G.aa 70 x4.toNatClampNeg (2 + 23 + 2 * x4.toNatClampNeg) (hs8.k k0_2) (by decide) rfl rfl g14 rfl (pa_13 hs8 k0_2 (inlt g14)).1 dX8_said_70 ?_
          refine G.geti 71 ck_1 11 (hs8.k (pa_13 hs8 k0_2 (inlt g14)).2) (by decide) (by decide +kernel) wd_230 dX8_said_71 ?_
          refine G.iadd 74 dX8_said_74 ?_
          refine G.istore_n 75 [(3, .int (x3 + (mI q10.2 (2 + 23 + 2 * x4.toNatClampNeg) 11))), (0, .ref (zs Z + 0)), (1, .int x1), (2, .int x2), (4, .int x4)] dX8_said_75 rfl (Nat.le_of_ble_eq_true rfl) rfl ?_
          refine G.locs [1, 2, 3, 0, 4] rfl ?_
          exact b_X8_said_76 Z X hR hq (L_X8_said_27 n) ih x1 x2 (x3 + (mI q10.2 (2 + 23 + 2 * x4.toNatClampNeg) 11)) x4 hs8 hf
        · replace hf := (if_pos h13).symm.trans hf
          refine G.iconst 57 (1 : Int32) dX8_said_57 (by decide +kernel) ?_
          refine G.goto 58 74 dX8_said_58 (by decide) ?_
          refine G.iadd 74 dX8_said_74 ?_
          refine G.istore_n 75 [(3, .int (x3 + (1 : Int32))), (0, .ref (zs Z + 0)), (1, .int x1), (2, .int x2), (4, .int x4)] dX8_said_75 rfl (Nat.le_of_ble_eq_true rfl) rfl ?_
          refine G.locs [1, 2, 3, 0, 4] rfl ?_
          exact b_X8_said_76 Z X hR hq (L_X8_said_27 n) ih x1 x2 (x3 + (1 : Int32)) x4 hs8 hf
set_option maxRecDepth 100000 in
set_option maxHeartbeats 4000000 in
theorem c_X8_said (Z : Sys) {M : Mem} (hs : St M) (x1 : Int32) (x2 : Int32) {q : Int32 × Mem} (hf : f_X8_said x1 x2 M = some q) : Ct Z yX8_said cX8_said 5 (some .int) rm_X8_said [.ref (zs Z + 0), .int x1, .int x2] M False (PostI q.1 q.2) := by
  refine Ct.of (by decide +kernel) (Nat.le_of_ble_eq_true rfl) (fun X hR hq _ => ?_)
  show G Z X Y_X8_said False 0 0 0 [(0, .ref (zs Z + 0)), (1, .int x1), (2, .int x2)] [] M
  replace hq : RetOk Z X (some .int) False (PostI q.1 q.2) 0 0 := hq
  unfold f_X8_said at hf
  refine G.iload_n 0 1 dX8_said_0 rfl rfl ?_
  refine G.bipush 1 (65 : Int32) dX8_said_1 (by decide +kernel) ?_
  refine G.bipush 3 (90 : Int32) dX8_said_3 (by decide +kernel) ?_
  refine G.csZ 5 (As := [.int x1, .int (65 : Int32), .int (90 : Int32)]) (c_X8_within Z hs x1 (65 : Int32) (90 : Int32) rfl) mk_X8_within wd_430 wd_429 hR (by decide +kernel) ⟨rfl, rfl⟩ rfl (Nat.le_of_ble_eq_true rfl) dX8_said_5 (fun hs1 z2 => ?_)
  refine G.if_eq 8 20 dX8_said_8 (by decide) (fun h3 => ?_) (fun h3 => ?_)
  · replace hf := (if_pos h3).symm.trans hf
    refine G.iconst 20 (-1 : Int32) dX8_said_20 (by decide +kernel) ?_
    (have hf9 := Option.some.inj hf; subst hf9)
    exact G.rI 21 hq dX8_said_21 hs1
  · replace hf := (if_neg h3).symm.trans hf
    refine G.iload_n 11 2 dX8_said_11 rfl rfl ?_
    refine G.iconst 12 (0 : Int32) dX8_said_12 (by decide +kernel) ?_
    refine G.iconst 13 (1 : Int32) dX8_said_13 (by decide +kernel) ?_
    refine G.csZ 14 (As := [.int x2, .int (0 : Int32), .int (1 : Int32)]) (c_X8_within Z hs1 x2 (0 : Int32) (1 : Int32) rfl) mk_X8_within wd_430 wd_429 hR (by decide +kernel) ⟨rfl, rfl⟩ rfl (Nat.le_of_ble_eq_true rfl) dX8_said_14 (fun hs4 z5 => ?_)
    refine G.if_ne 17 22 dX8_said_17 (by decide) (fun h6 => ?_) (fun h6 => ?_)
    · replace hf := (if_neg h6).symm.trans hf
      refine G.iconst 22 (0 : Int32) dX8_said_22 (by decide +kernel) ?_
      refine G.istore_n 23 [(3, .int (0 : Int32)), (0, .ref (zs Z + 0)), (1, .int x1), (2, .int x2)] dX8_said_23 rfl (Nat.le_of_ble_eq_true rfl) rfl ?_
      refine G.iconst 24 (0 : Int32) dX8_said_24 (by decide +kernel) ?_
      refine G.istore 25 [(4, .int (0 : Int32)), (3, .int (0 : Int32)), (0, .ref (zs Z + 0)), (1, .int x1), (2, .int x2)] dX8_said_25 (Nat.le_of_ble_eq_true rfl) rfl ?_
      refine G.locs [2, 3, 4, 1, 0] rfl ?_
      exact l_X8_said_27 Z X hR hq FU x1 x2 (0 : Int32) (0 : Int32) M hs4 hf
    · replace hf := (if_pos h6).symm.trans hf
      refine G.iconst 20 (-1 : Int32) dX8_said_20 (by decide +kernel) ?_
      (have hf9 := Option.some.inj hf; subst hf9)
      exact G.rI 21 hq dX8_said_21 hs4
abbrev Y_X8_send : My := (cX8_send, RX8, 5)
def rm_X8_send : Room := { frames := 5, cells := 0, slots := 0, locals := 287 }
theorem dX8_send_0 : decode cX8_send 0 = .ok (.iload_n 1, 1) := by decide +kernel
theorem dX8_send_1 : decode cX8_send 1 = .ok (.iconst (-1), 1) := by decide +kernel
theorem dX8_send_2 : decode cX8_send 2 = .ok (.if_icmp .eq 16, 3) := by decide +kernel
theorem dX8_send_5 : decode cX8_send 5 = .ok (.aload_n 0, 1) := by decide +kernel
theorem dX8_send_6 : decode cX8_send 6 = .ok (.getfield 10, 3) := by decide +kernel
theorem dX8_send_9 : decode cX8_send 9 = .ok (.iload_n 1, 1) := by decide +kernel
theorem dX8_send_10 : decode cX8_send 10 = .ok (.invokevirtual 58, 3) := by decide +kernel
theorem dX8_send_13 : decode cX8_send 13 = .ok (.ifCond .ne 5, 3) := by decide +kernel
theorem dX8_send_16 : decode cX8_send 16 = .ok (.iconst (-1), 1) := by decide +kernel
theorem dX8_send_17 : decode cX8_send 17 = .ok (.ireturn, 1) := by decide +kernel
theorem dX8_send_18 : decode cX8_send 18 = .ok (.aload_n 0, 1) := by decide +kernel
theorem dX8_send_19 : decode cX8_send 19 = .ok (.getfield 10, 3) := by decide +kernel
theorem dX8_send_22 : decode cX8_send 22 = .ok (.getfield 94, 3) := by decide +kernel
theorem dX8_send_25 : decode cX8_send 25 = .ok (.iconst 0, 1) := by decide +kernel
theorem dX8_send_26 : decode cX8_send 26 = .ok (.iaload, 1) := by decide +kernel
theorem dX8_send_27 : decode cX8_send 27 = .ok (.istore_n 2, 1) := by decide +kernel
theorem dX8_send_28 : decode cX8_send 28 = .ok (.iconst 0, 1) := by decide +kernel
theorem dX8_send_29 : decode cX8_send 29 = .ok (.istore_n 3, 1) := by decide +kernel
theorem dX8_send_30 : decode cX8_send 30 = .ok (.iload_n 3, 1) := by decide +kernel
theorem dX8_send_31 : decode cX8_send 31 = .ok (.aload_n 0, 1) := by decide +kernel
theorem dX8_send_32 : decode cX8_send 32 = .ok (.getfield 10, 3) := by decide +kernel
theorem dX8_send_35 : decode cX8_send 35 = .ok (.getfield 118, 3) := by decide +kernel
theorem dX8_send_38 : decode cX8_send 38 = .ok (.if_icmp .ge 46, 3) := by decide +kernel
theorem dX8_send_41 : decode cX8_send 41 = .ok (.iload_n 1, 1) := by decide +kernel
theorem dX8_send_42 : decode cX8_send 42 = .ok (.iconst (-1), 1) := by decide +kernel
theorem dX8_send_43 : decode cX8_send 43 = .ok (.if_icmp .eq 8, 3) := by decide +kernel
theorem dX8_send_46 : decode cX8_send 46 = .ok (.iload_n 1, 1) := by decide +kernel
theorem dX8_send_47 : decode cX8_send 47 = .ok (.iload_n 3, 1) := by decide +kernel
theorem dX8_send_48 : decode cX8_send 48 = .ok (.if_icmp .ne 30, 3) := by decide +kernel
theorem dX8_send_51 : decode cX8_send 51 = .ok (.aload_n 0, 1) := by decide +kernel
theorem dX8_send_52 : decode cX8_send 52 = .ok (.getfield 10, 3) := by decide +kernel
theorem dX8_send_55 : decode cX8_send 55 = .ok (.getfield 62, 3) := by decide +kernel
theorem dX8_send_58 : decode cX8_send 58 = .ok (.iload_n 3, 1) := by decide +kernel
theorem dX8_send_59 : decode cX8_send 59 = .ok (.aaload, 1) := by decide +kernel
theorem dX8_send_60 : decode cX8_send 60 = .ok (.astore 4, 2) := by decide +kernel
theorem dX8_send_62 : decode cX8_send 62 = .ok (.aload 4, 2) := by decide +kernel
theorem dX8_send_64 : decode cX8_send 64 = .ok (.aload 4, 2) := by decide +kernel
theorem dX8_send_66 : decode cX8_send 66 = .ok (.invokevirtual 98, 3) := by decide +kernel
theorem dX8_send_69 : decode cX8_send 69 = .ok (.aload 4, 2) := by decide +kernel
theorem dX8_send_71 : decode cX8_send 71 = .ok (.iload_n 2, 1) := by decide +kernel
theorem dX8_send_72 : decode cX8_send 72 = .ok (.invokevirtual 102, 3) := by decide +kernel
theorem dX8_send_75 : decode cX8_send 75 = .ok (.invokevirtual 121, 3) := by decide +kernel
theorem dX8_send_78 : decode cX8_send 78 = .ok (.iinc 3 1, 3) := by decide +kernel
theorem dX8_send_81 : decode cX8_send 81 = .ok (.goto (-51), 3) := by decide +kernel
theorem dX8_send_84 : decode cX8_send 84 = .ok (.aload_n 0, 1) := by decide +kernel
theorem dX8_send_85 : decode cX8_send 85 = .ok (.getfield 10, 3) := by decide +kernel
theorem dX8_send_88 : decode cX8_send 88 = .ok (.invokevirtual 125, 3) := by decide +kernel
theorem dX8_send_91 : decode cX8_send 91 = .ok (.ireturn, 1) := by decide +kernel
def B_X8_send_84 (M : Mem) : Option (Int32 × Mem) := (f_X0_writtenCount 1 M).bind fun q5 => some (q5, M)
def B_X8_send_78 (rc_30 : Int32 → Int32 → Int32 → Mem → Option (Int32 × Mem)) (x1 : Int32) (x2 : Int32) (x3 : Int32) (M : Mem) : Option (Int32 × Mem) := rc_30 x1 x2 (x3 + 1) M
def B_X8_send_51 (rc_30 : Int32 → Int32 → Int32 → Mem → Option (Int32 × Mem)) (x1 : Int32) (x2 : Int32) (x3 : Int32) (M : Mem) : Option (Int32 × Mem) := gd (inR x3 30) ((f_X1_write (2 + 23 + 2 * x3.toNatClampNeg) (f_X1_toldCame (2 + 23 + 2 * x3.toNatClampNeg) M) (f_X1_toldOurs (2 + 23 + 2 * x3.toNatClampNeg) x2 M) M).bind fun q15 => B_X8_send_78 rc_30 x1 x2 x3 q15)
def L_X8_send_30 : Nat → Int32 → Int32 → Int32 → Mem → Option (Int32 × Mem)
  | 0, _, _, _, _ => none
  | n + 1, x1, x2, x3, M => if (mI M 1 1) ≤ x3 then B_X8_send_84 M else if x1 = (-1 : Int32) then B_X8_send_51 (L_X8_send_30 n) x1 x2 x3 M else if x1 = x3 then B_X8_send_51 (L_X8_send_30 n) x1 x2 x3 M else B_X8_send_78 (L_X8_send_30 n) x1 x2 x3 M
def B_X8_send_18 (x1 : Int32) (M : Mem) : Option (Int32 × Mem) := L_X8_send_30 FU x1 (mI M 3 0) (0 : Int32) M
def f_X8_send (x1 : Int32) (M : Mem) : Option (Int32 × Mem) := if x1 = (-1 : Int32) then B_X8_send_18 x1 M else if (f_X0_isHall 1 x1 M) = 0 then some ((-1 : Int32), M) else B_X8_send_18 x1 M
set_option maxRecDepth 100000 in
set_option maxHeartbeats 4000000 in
theorem b_X8_send_84 (Z : Sys) (X : Cx) (hR : xR X = rm_X8_send) {q : Int32 × Mem} (hq : RetOk Z X (some .int) False (PostI q.1 q.2) 0 0) {M : Mem} (hs : St M) (hf : B_X8_send_84 M = some q) : G Z X Y_X8_send False 0 0 84 [(0, .ref (zs Z + 0))] [] M := by
  unfold B_X8_send_84 at hf
  refine G.aload_n 84 0 dX8_send_84 rfl rfl ?_
  refine G.getp 85 ck_8 0 1 (hs.k k0_0) (pc_8_0 hs) (by decide) (by decide +kernel) wd_400 dX8_send_85 ?_
  obtain ⟨q5, e6, hf⟩ := bd_e hf
  refine G.cvI 88 (As := []) ck_0 (hs.k k0_1) (c_X0_writtenCount Z hs 1 k0_1 e6) mk_X0_writtenCount vk_X0_writtenCount rfl wd_509 hR (by decide +kernel) ⟨rfl, rfl⟩ rfl (Nat.le_of_ble_eq_true rfl) dX8_send_88 (fun hs3 => ?_)
  (have hf9 := Option.some.inj hf; subst hf9)
  exact G.rI 91 hq dX8_send_91 hs3
set_option maxRecDepth 100000 in
set_option maxHeartbeats 4000000 in
theorem b_X8_send_78 (Z : Sys) (X : Cx) (hR : xR X = rm_X8_send) {q : Int32 × Mem} (hq : RetOk Z X (some .int) False (PostI q.1 q.2) 0 0) (rc_30 : Int32 → Int32 → Int32 → Mem → Option (Int32 × Mem)) (hrc_30 : ∀ (x1 : Int32) (x2 : Int32) (x3 : Int32) (M : Mem), St M → rc_30 x1 x2 x3 M = some q → G Z X Y_X8_send False 0 0 30 [(0, .ref (zs Z + 0)), (1, .int x1), (2, .int x2), (3, .int x3)] [] M) (x1 : Int32) (x2 : Int32) (x3 : Int32) {M : Mem} (hs : St M) (hf : B_X8_send_78 rc_30 x1 x2 x3 M = some q) : G Z X Y_X8_send False 0 0 78 [(0, .ref (zs Z + 0)), (1, .int x1), (2, .int x2), (3, .int x3)] [] M := by
  unfold B_X8_send_78 at hf
  refine G.iinc 78 3 (x3 + 1) [(3, .int (x3 + 1)), (0, .ref (zs Z + 0)), (1, .int x1), (2, .int x2)] dX8_send_78 rfl (congrArg (fun z => x3 + z) (by decide +kernel)) (Nat.le_of_ble_eq_true rfl) rfl ?_
  refine G.goto 81 30 dX8_send_81 (by decide) ?_
  refine G.locs [1, 2, 3, 0] rfl ?_
  exact hrc_30 x1 x2 (x3 + 1) M hs hf
set_option maxRecDepth 100000 in
set_option maxHeartbeats 4000000 in
theorem b_X8_send_51 (Z : Sys) (X : Cx) (hR : xR X = rm_X8_send) {q : Int32 × Mem} (hq : RetOk Z X (some .int) False (PostI q.1 q.2) 0 0) (rc_30 : Int32 → Int32 → Int32 → Mem → Option (Int32 × Mem)) (hrc_30 : ∀ (x1 : Int32) (x2 : Int32) (x3 : Int32) (M : Mem), St M → rc_30 x1 x2 x3 M = some q → G Z X Y_X8_send False 0 0 30 [(0, .ref (zs Z + 0)), (1, .int x1), (2, .int x2), (3, .int x3)] [] M) (x1 : Int32) (x2 : Int32) (x3 : Int32) {M : Mem} (hs : St M) (hf : B_X8_send_51 rc_30 x1 x2 x3 M = some q) : G Z X Y_X8_send False 0 0 51 [(0, .ref (zs Z + 0)), (1, .int x1), (2, .int x2), (3, .int x3)] [] M := by
  unfold B_X8_send_51 at hf
  refine G.aload_n 51 0 dX8_send_51 rfl rfl ?_
  refine G.getp 52 ck_8 0 1 (hs.k k0_0) (pc_8_0 hs) (by decide) (by decide +kernel) wd_400 dX8_send_52 ?_
  refine G.getp 55 ck_0 0 2 (hs.k k0_1) (pt_0_0 hs k0_1).1 (by decide) (by decide +kernel) wd_260 dX8_send_55 ?_
  refine G.iload_n 58 3 dX8_send_58 rfl rfl ?_
  obtain ⟨g8, hf⟩ := gd_e hf
  refine G.aa 59 x3.toNatClampNeg (2 + 23 + 2 * x3.toNatClampNeg) (hs.k k0_2) (by decide) rfl rfl g8 rfl (pa_13 hs k0_2 (inlt g8)).1 dX8_send_59 ?_
  refine G.astore 60 [(4, .ref (zs Z + (2 + 23 + 2 * x3.toNatClampNeg))), (0, .ref (zs Z + 0)), (1, .int x1), (2, .int x2), (3, .int x3)] dX8_send_60 (Nat.le_of_ble_eq_true rfl) rfl ?_
  refine G.aload 62 0 dX8_send_62 rfl ?_
  refine G.aload 64 0 dX8_send_64 rfl ?_
  refine G.cvI 66 (As := []) ck_1 (hs.k (pa_13 hs k0_2 (inlt g8)).2) (c_X1_toldCame Z hs (2 + 23 + 2 * x3.toNatClampNeg) (pa_13 hs k0_2 (inlt g8)).2 rfl) mk_X1_toldCame vk_X1_toldCame rfl wd_464 hR (by decide +kernel) ⟨rfl, rfl⟩ rfl (Nat.le_of_ble_eq_true rfl) dX8_send_66 (fun hs9 => ?_)
  refine G.aload 69 0 dX8_send_69 rfl ?_
  refine G.iload_n 71 3 dX8_send_71 rfl rfl ?_
  refine G.cvI 72 (As := [.int x2]) ck_1 (hs9.k (pa_13 hs k0_2 (inlt g8)).2) (c_X1_toldOurs Z hs9 (2 + 23 + 2 * x3.toNatClampNeg) x2 (pa_13 hs k0_2 (inlt g8)).2 rfl) mk_X1_toldOurs vk_X1_toldOurs rfl wd_478 hR (by decide +kernel) ⟨rfl, rfl⟩ rfl (Nat.le_of_ble_eq_true rfl) dX8_send_72 (fun hs11 => ?_)
  obtain ⟨q15, e16, hf⟩ := bd_e hf
  refine G.cvV 75 (As := [.int (f_X1_toldCame (2 + 23 + 2 * x3.toNatClampNeg) M), .int (f_X1_toldOurs (2 + 23 + 2 * x3.toNatClampNeg) x2 M)]) ck_1 (hs11.k (pa_13 hs k0_2 (inlt g8)).2) (c_X1_write Z hs11 (2 + 23 + 2 * x3.toNatClampNeg) (f_X1_toldCame (2 + 23 + 2 * x3.toNatClampNeg) M) (f_X1_toldOurs (2 + 23 + 2 * x3.toNatClampNeg) x2 M) (pa_13 hs k0_2 (inlt g8)).2 e16) mk_X1_write vk_X1_write rfl wd_505 hR (by decide +kernel) ⟨rfl, rfl⟩ rfl (Nat.le_of_ble_eq_true rfl) dX8_send_75 (fun hs13 => ?_)
  refine G.locs [1, 2, 3, 4] rfl ?_
  exact b_X8_send_78 Z X hR hq rc_30 hrc_30 x1 x2 x3 hs13 hf
set_option maxRecDepth 100000 in
set_option maxHeartbeats 4000000 in
theorem l_X8_send_30 (Z : Sys) (X : Cx) (hR : xR X = rm_X8_send) {q : Int32 × Mem} (hq : RetOk Z X (some .int) False (PostI q.1 q.2) 0 0) : ∀ (n : Nat) (x1 : Int32) (x2 : Int32) (x3 : Int32) (M : Mem) (hs : St M) (hf : L_X8_send_30 n x1 x2 x3 M = some q), G Z X Y_X8_send False 0 0 30 [(0, .ref (zs Z + 0)), (1, .int x1), (2, .int x2), (3, .int x3)] [] M := by
  intro n
  induction n with
  | zero => intro x1 x2 x3 M hs  hf; cases hf
  | succ n ih =>
    intro x1 x2 x3 M hs  hf
    unfold L_X8_send_30 at hf
    refine G.iload_n 30 3 dX8_send_30 rfl rfl ?_
    refine G.aload_n 31 0 dX8_send_31 rfl rfl ?_
    refine G.getp 32 ck_8 0 1 (hs.k k0_0) (pc_8_0 hs) (by decide) (by decide +kernel) wd_400 dX8_send_32 ?_
    refine G.geti 35 ck_0 1 (hs.k k0_1) (by decide) (by decide +kernel) wd_264 dX8_send_35 ?_
    refine G.icmp_ge 38 84 dX8_send_38 (by decide) (fun h2 => ?_) (fun h2 => ?_)
    · replace hf := (if_pos h2).symm.trans hf
      refine G.locs [0] rfl ?_
      exact b_X8_send_84 Z X hR hq hs hf
    · replace hf := (if_neg h2).symm.trans hf
      refine G.iload_n 41 1 dX8_send_41 rfl rfl ?_
      refine G.iconst 42 (-1 : Int32) dX8_send_42 (by decide +kernel) ?_
      refine G.icmp_eq 43 51 dX8_send_43 (by decide) (fun h7 => ?_) (fun h7 => ?_)
      · replace hf := (if_pos h7).symm.trans hf
        exact b_X8_send_51 Z X hR hq (L_X8_send_30 n) ih x1 x2 x3 hs hf
      · replace hf := (if_neg h7).symm.trans hf
        refine G.iload_n 46 1 dX8_send_46 rfl rfl ?_
        refine G.iload_n 47 3 dX8_send_47 rfl rfl ?_
        refine G.icmp_ne 48 78 dX8_send_48 (by decide) (fun h17 => ?_) (fun h17 => ?_)
        · replace hf := (if_neg h17).symm.trans hf
          exact b_X8_send_78 Z X hR hq (L_X8_send_30 n) ih x1 x2 x3 hs hf
        · replace hf := (if_pos h17).symm.trans hf
          exact b_X8_send_51 Z X hR hq (L_X8_send_30 n) ih x1 x2 x3 hs hf
set_option maxRecDepth 100000 in
set_option maxHeartbeats 4000000 in
theorem b_X8_send_18 (Z : Sys) (X : Cx) (hR : xR X = rm_X8_send) {q : Int32 × Mem} (hq : RetOk Z X (some .int) False (PostI q.1 q.2) 0 0) (x1 : Int32) {M : Mem} (hs : St M) (hf : B_X8_send_18 x1 M = some q) : G Z X Y_X8_send False 0 0 18 [(0, .ref (zs Z + 0)), (1, .int x1)] [] M := by
  unfold B_X8_send_18 at hf
  refine G.aload_n 18 0 dX8_send_18 rfl rfl ?_
  refine G.getp 19 ck_8 0 1 (hs.k k0_0) (pc_8_0 hs) (by decide) (by decide +kernel) wd_400 dX8_send_19 ?_
  refine G.getp 22 ck_0 2 3 (hs.k k0_1) (pt_0_2 hs k0_1).1 (by decide) (by decide +kernel) wd_266 dX8_send_22 ?_
  refine G.iconst 25 (0 : Int32) dX8_send_25 (by decide +kernel) ?_
  refine G.ia 26 0 (hs.k k0_3) (by decide +kernel) (by decide +kernel) dX8_send_26 ?_
  refine G.istore_n 27 [(2, .int (mI M 3 0)), (0, .ref (zs Z + 0)), (1, .int x1)] dX8_send_27 rfl (Nat.le_of_ble_eq_true rfl) rfl ?_
  refine G.iconst 28 (0 : Int32) dX8_send_28 (by decide +kernel) ?_
  refine G.istore_n 29 [(3, .int (0 : Int32)), (2, .int (mI M 3 0)), (0, .ref (zs Z + 0)), (1, .int x1)] dX8_send_29 rfl (Nat.le_of_ble_eq_true rfl) rfl ?_
  refine G.locs [2, 3, 1, 0] rfl ?_
  exact l_X8_send_30 Z X hR hq FU x1 (mI M 3 0) (0 : Int32) M hs hf
set_option maxRecDepth 100000 in
set_option maxHeartbeats 4000000 in
theorem c_X8_send (Z : Sys) {M : Mem} (hs : St M) (x1 : Int32) {q : Int32 × Mem} (hf : f_X8_send x1 M = some q) : Ct Z yX8_send cX8_send 5 (some .int) rm_X8_send [.ref (zs Z + 0), .int x1] M False (PostI q.1 q.2) := by
  refine Ct.of (by decide +kernel) (Nat.le_of_ble_eq_true rfl) (fun X hR hq _ => ?_)
  show G Z X Y_X8_send False 0 0 0 [(0, .ref (zs Z + 0)), (1, .int x1)] [] M
  replace hq : RetOk Z X (some .int) False (PostI q.1 q.2) 0 0 := hq
  unfold f_X8_send at hf
  refine G.iload_n 0 1 dX8_send_0 rfl rfl ?_
  refine G.iconst 1 (-1 : Int32) dX8_send_1 (by decide +kernel) ?_
  refine G.icmp_eq 2 18 dX8_send_2 (by decide) (fun h1 => ?_) (fun h1 => ?_)
  · replace hf := (if_pos h1).symm.trans hf
    exact b_X8_send_18 Z X hR hq x1 hs hf
  · replace hf := (if_neg h1).symm.trans hf
    refine G.aload_n 5 0 dX8_send_5 rfl rfl ?_
    refine G.getp 6 ck_8 0 1 (hs.k k0_0) (pc_8_0 hs) (by decide) (by decide +kernel) wd_400 dX8_send_6 ?_
    refine G.iload_n 9 1 dX8_send_9 rfl rfl ?_
    refine G.cvZ 10 (As := [.int x1]) ck_0 (hs.k k0_1) (c_X0_isHall Z hs 1 x1 k0_1 rfl) mk_X0_isHall vk_X0_isHall rfl wd_444 hR (by decide +kernel) ⟨rfl, rfl⟩ rfl (Nat.le_of_ble_eq_true rfl) dX8_send_10 (fun hs18 z19 => ?_)
    refine G.if_ne 13 18 dX8_send_13 (by decide) (fun h20 => ?_) (fun h20 => ?_)
    · replace hf := (if_neg h20).symm.trans hf
      exact b_X8_send_18 Z X hR hq x1 hs18 hf
    · replace hf := (if_pos h20).symm.trans hf
      refine G.iconst 16 (-1 : Int32) dX8_send_16 (by decide +kernel) ?_
      (have hf9 := Option.some.inj hf; subst hf9)
      exact G.rI 17 hq dX8_send_17 hs18
abbrev Y_X8_set : My := (cX8_set, RX8, 4)
def rm_X8_set : Room := { frames := 2, cells := 0, slots := 0, locals := 222 }
theorem dX8_set_0 : decode cX8_set 0 = .ok (.iload_n 1, 1) := by decide +kernel
theorem dX8_set_1 : decode cX8_set 1 = .ok (.iconst 0, 1) := by decide +kernel
theorem dX8_set_2 : decode cX8_set 2 = .ok (.bipush 9, 2) := by decide +kernel
theorem dX8_set_4 : decode cX8_set 4 = .ok (.invokestatic 50, 3) := by decide +kernel
theorem dX8_set_7 : decode cX8_set 7 = .ok (.ifCond .eq 15, 3) := by decide +kernel
theorem dX8_set_10 : decode cX8_set 10 = .ok (.iload_n 2, 1) := by decide +kernel
theorem dX8_set_11 : decode cX8_set 11 = .ok (.iconst 0, 1) := by decide +kernel
theorem dX8_set_12 : decode cX8_set 12 = .ok (.iload_n 1, 1) := by decide +kernel
theorem dX8_set_13 : decode cX8_set 13 = .ok (.invokestatic 90, 3) := by decide +kernel
theorem dX8_set_16 : decode cX8_set 16 = .ok (.invokestatic 50, 3) := by decide +kernel
theorem dX8_set_19 : decode cX8_set 19 = .ok (.ifCond .ne 5, 3) := by decide +kernel
theorem dX8_set_22 : decode cX8_set 22 = .ok (.iconst (-1), 1) := by decide +kernel
theorem dX8_set_23 : decode cX8_set 23 = .ok (.ireturn, 1) := by decide +kernel
theorem dX8_set_24 : decode cX8_set 24 = .ok (.aload_n 0, 1) := by decide +kernel
theorem dX8_set_25 : decode cX8_set 25 = .ok (.getfield 10, 3) := by decide +kernel
theorem dX8_set_28 : decode cX8_set 28 = .ok (.getfield 94, 3) := by decide +kernel
theorem dX8_set_31 : decode cX8_set 31 = .ok (.iload_n 1, 1) := by decide +kernel
theorem dX8_set_32 : decode cX8_set 32 = .ok (.iaload, 1) := by decide +kernel
theorem dX8_set_33 : decode cX8_set 33 = .ok (.istore_n 3, 1) := by decide +kernel
theorem dX8_set_34 : decode cX8_set 34 = .ok (.aload_n 0, 1) := by decide +kernel
theorem dX8_set_35 : decode cX8_set 35 = .ok (.getfield 10, 3) := by decide +kernel
theorem dX8_set_38 : decode cX8_set 38 = .ok (.getfield 94, 3) := by decide +kernel
theorem dX8_set_41 : decode cX8_set 41 = .ok (.iload_n 1, 1) := by decide +kernel
theorem dX8_set_42 : decode cX8_set 42 = .ok (.iload_n 2, 1) := by decide +kernel
theorem dX8_set_43 : decode cX8_set 43 = .ok (.iastore, 1) := by decide +kernel
theorem dX8_set_44 : decode cX8_set 44 = .ok (.iload_n 3, 1) := by decide +kernel
theorem dX8_set_45 : decode cX8_set 45 = .ok (.ireturn, 1) := by decide +kernel
def f_X8_set (x1 : Int32) (x2 : Int32) (M : Mem) : Option (Int32 × Mem) := if (f_X8_within x1 (0 : Int32) (9 : Int32)) = 0 then some ((-1 : Int32), M) else if (f_X8_within x2 (0 : Int32) (f_X0_mostOfLaw x1)) = 0 then some ((-1 : Int32), M) else gd (inR x1 10) (some ((mI M 3 x1.toNatClampNeg), (sI M 3 x1.toNatClampNeg x2)))
set_option maxRecDepth 100000 in
set_option maxHeartbeats 4000000 in
theorem c_X8_set (Z : Sys) {M : Mem} (hs : St M) (x1 : Int32) (x2 : Int32) {q : Int32 × Mem} (hf : f_X8_set x1 x2 M = some q) : Ct Z yX8_set cX8_set 4 (some .int) rm_X8_set [.ref (zs Z + 0), .int x1, .int x2] M False (PostI q.1 q.2) := by
  refine Ct.of (by decide +kernel) (Nat.le_of_ble_eq_true rfl) (fun X hR hq _ => ?_)
  show G Z X Y_X8_set False 0 0 0 [(0, .ref (zs Z + 0)), (1, .int x1), (2, .int x2)] [] M
  replace hq : RetOk Z X (some .int) False (PostI q.1 q.2) 0 0 := hq
  unfold f_X8_set at hf
  refine G.iload_n 0 1 dX8_set_0 rfl rfl ?_
  refine G.iconst 1 (0 : Int32) dX8_set_1 (by decide +kernel) ?_
  refine G.bipush 2 (9 : Int32) dX8_set_2 (by decide +kernel) ?_
  refine G.csZ 4 (As := [.int x1, .int (0 : Int32), .int (9 : Int32)]) (c_X8_within Z hs x1 (0 : Int32) (9 : Int32) rfl) mk_X8_within wd_430 wd_429 hR (by decide +kernel) ⟨rfl, rfl⟩ rfl (Nat.le_of_ble_eq_true rfl) dX8_set_4 (fun hs1 z2 => ?_)
  refine G.if_eq 7 22 dX8_set_7 (by decide) (fun h3 => ?_) (fun h3 => ?_)
  · replace hf := (if_pos h3).symm.trans hf
    refine G.iconst 22 (-1 : Int32) dX8_set_22 (by decide +kernel) ?_
    (have hf9 := Option.some.inj hf; subst hf9)
    exact G.rI 23 hq dX8_set_23 hs1
  · replace hf := (if_neg h3).symm.trans hf
    refine G.iload_n 10 2 dX8_set_10 rfl rfl ?_
    refine G.iconst 11 (0 : Int32) dX8_set_11 (by decide +kernel) ?_
    refine G.iload_n 12 1 dX8_set_12 rfl rfl ?_
    refine G.csI 13 (As := [.int x1]) (c_X0_mostOfLaw Z hs1 x1 rfl) mk_X0_mostOfLaw wd_458 wd_457 hR (by decide +kernel) ⟨rfl, rfl⟩ rfl (Nat.le_of_ble_eq_true rfl) dX8_set_13 (fun hs4 => ?_)
    refine G.csZ 16 (As := [.int x2, .int (0 : Int32), .int (f_X0_mostOfLaw x1)]) (c_X8_within Z hs4 x2 (0 : Int32) (f_X0_mostOfLaw x1) rfl) mk_X8_within wd_430 wd_429 hR (by decide +kernel) ⟨rfl, rfl⟩ rfl (Nat.le_of_ble_eq_true rfl) dX8_set_16 (fun hs6 z7 => ?_)
    refine G.if_ne 19 24 dX8_set_19 (by decide) (fun h8 => ?_) (fun h8 => ?_)
    · replace hf := (if_neg h8).symm.trans hf
      refine G.aload_n 24 0 dX8_set_24 rfl rfl ?_
      refine G.getp 25 ck_8 0 1 (hs6.k k0_0) (pc_8_0 hs6) (by decide) (by decide +kernel) wd_400 dX8_set_25 ?_
      refine G.getp 28 ck_0 2 3 (hs6.k k0_1) (pt_0_2 hs6 k0_1).1 (by decide) (by decide +kernel) wd_266 dX8_set_28 ?_
      refine G.iload_n 31 1 dX8_set_31 rfl rfl ?_
      obtain ⟨g9, hf⟩ := gd_e hf
      refine G.ia 32 x1.toNatClampNeg (hs6.k k0_3) g9 rfl dX8_set_32 ?_
      refine G.istore_n 33 [(3, .int (mI M 3 x1.toNatClampNeg)), (0, .ref (zs Z + 0)), (1, .int x1), (2, .int x2)] dX8_set_33 rfl (Nat.le_of_ble_eq_true rfl) rfl ?_
      refine G.aload_n 34 1 dX8_set_34 rfl rfl ?_
      refine G.getp 35 ck_8 0 1 (hs6.k k0_0) (pc_8_0 hs6) (by decide) (by decide +kernel) wd_400 dX8_set_35 ?_
      refine G.getp 38 ck_0 2 3 (hs6.k k0_1) (pt_0_2 hs6 k0_1).1 (by decide) (by decide +kernel) wd_266 dX8_set_38 ?_
      refine G.iload_n 41 2 dX8_set_41 rfl rfl ?_
      refine G.iload_n 42 3 dX8_set_42 rfl rfl ?_
      refine G.ist 43 x1.toNatClampNeg (hs6.k k0_3) g9 rfl dX8_set_43 ?_
      refine G.iload_n 44 0 dX8_set_44 rfl rfl ?_
      (have hf9 := Option.some.inj hf; subst hf9)
      exact G.rI 45 hq dX8_set_45 (St.i hs6)
    · replace hf := (if_pos h8).symm.trans hf
      refine G.iconst 22 (-1 : Int32) dX8_set_22 (by decide +kernel) ?_
      (have hf9 := Option.some.inj hf; subst hf9)
      exact G.rI 23 hq dX8_set_23 hs6
abbrev Y_X8_sheet : My := (cX8_sheet, RX8, 6)
def rm_X8_sheet : Room := { frames := 3, cells := 0, slots := 0, locals := 243 }
theorem dX8_sheet_0 : decode cX8_sheet 0 = .ok (.aload_n 0, 1) := by decide +kernel
theorem dX8_sheet_1 : decode cX8_sheet 1 = .ok (.getfield 10, 3) := by decide +kernel
theorem dX8_sheet_4 : decode cX8_sheet 4 = .ok (.iload_n 1, 1) := by decide +kernel
theorem dX8_sheet_5 : decode cX8_sheet 5 = .ok (.invokevirtual 58, 3) := by decide +kernel
theorem dX8_sheet_8 : decode cX8_sheet 8 = .ok (.ifCond .eq 24, 3) := by decide +kernel
theorem dX8_sheet_11 : decode cX8_sheet 11 = .ok (.iload_n 2, 1) := by decide +kernel
theorem dX8_sheet_12 : decode cX8_sheet 12 = .ok (.iconst 0, 1) := by decide +kernel
theorem dX8_sheet_13 : decode cX8_sheet 13 = .ok (.bipush 7, 2) := by decide +kernel
theorem dX8_sheet_15 : decode cX8_sheet 15 = .ok (.invokestatic 50, 3) := by decide +kernel
theorem dX8_sheet_18 : decode cX8_sheet 18 = .ok (.ifCond .eq 14, 3) := by decide +kernel
theorem dX8_sheet_21 : decode cX8_sheet 21 = .ok (.iload_n 3, 1) := by decide +kernel
theorem dX8_sheet_22 : decode cX8_sheet 22 = .ok (.iconst 0, 1) := by decide +kernel
theorem dX8_sheet_23 : decode cX8_sheet 23 = .ok (.sipush 999, 3) := by decide +kernel
theorem dX8_sheet_26 : decode cX8_sheet 26 = .ok (.invokestatic 50, 3) := by decide +kernel
theorem dX8_sheet_29 : decode cX8_sheet 29 = .ok (.ifCond .ne 5, 3) := by decide +kernel
theorem dX8_sheet_32 : decode cX8_sheet 32 = .ok (.iconst (-1), 1) := by decide +kernel
theorem dX8_sheet_33 : decode cX8_sheet 33 = .ok (.ireturn, 1) := by decide +kernel
theorem dX8_sheet_34 : decode cX8_sheet 34 = .ok (.aload_n 0, 1) := by decide +kernel
theorem dX8_sheet_35 : decode cX8_sheet 35 = .ok (.getfield 10, 3) := by decide +kernel
theorem dX8_sheet_38 : decode cX8_sheet 38 = .ok (.getfield 62, 3) := by decide +kernel
theorem dX8_sheet_41 : decode cX8_sheet 41 = .ok (.iload_n 1, 1) := by decide +kernel
theorem dX8_sheet_42 : decode cX8_sheet 42 = .ok (.aaload, 1) := by decide +kernel
theorem dX8_sheet_43 : decode cX8_sheet 43 = .ok (.getfield 80, 3) := by decide +kernel
theorem dX8_sheet_46 : decode cX8_sheet 46 = .ok (.astore 4, 2) := by decide +kernel
theorem dX8_sheet_48 : decode cX8_sheet 48 = .ok (.aload 4, 2) := by decide +kernel
theorem dX8_sheet_50 : decode cX8_sheet 50 = .ok (.getfield 84, 3) := by decide +kernel
theorem dX8_sheet_53 : decode cX8_sheet 53 = .ok (.istore 5, 2) := by decide +kernel
theorem dX8_sheet_55 : decode cX8_sheet 55 = .ok (.aload 4, 2) := by decide +kernel
theorem dX8_sheet_57 : decode cX8_sheet 57 = .ok (.iload_n 2, 1) := by decide +kernel
theorem dX8_sheet_58 : decode cX8_sheet 58 = .ok (.putfield 84, 3) := by decide +kernel
theorem dX8_sheet_61 : decode cX8_sheet 61 = .ok (.aload 4, 2) := by decide +kernel
theorem dX8_sheet_63 : decode cX8_sheet 63 = .ok (.iload_n 3, 1) := by decide +kernel
theorem dX8_sheet_64 : decode cX8_sheet 64 = .ok (.putfield 87, 3) := by decide +kernel
theorem dX8_sheet_67 : decode cX8_sheet 67 = .ok (.iload 5, 2) := by decide +kernel
theorem dX8_sheet_69 : decode cX8_sheet 69 = .ok (.ireturn, 1) := by decide +kernel
def f_X8_sheet (x1 : Int32) (x2 : Int32) (x3 : Int32) (M : Mem) : Option (Int32 × Mem) := if (f_X0_isHall 1 x1 M) = 0 then some ((-1 : Int32), M) else if (f_X8_within x2 (0 : Int32) (7 : Int32)) = 0 then some ((-1 : Int32), M) else if (f_X8_within x3 (0 : Int32) (999 : Int32)) = 0 then some ((-1 : Int32), M) else gd (inR x1 30) (some ((mI M ((2 + 23 + 2 * x1.toNatClampNeg) + 1) 0), (sI (sI M ((2 + 23 + 2 * x1.toNatClampNeg) + 1) 0 x2) ((2 + 23 + 2 * x1.toNatClampNeg) + 1) 1 x3)))
set_option maxRecDepth 100000 in
set_option maxHeartbeats 4000000 in
theorem c_X8_sheet (Z : Sys) {M : Mem} (hs : St M) (x1 : Int32) (x2 : Int32) (x3 : Int32) {q : Int32 × Mem} (hf : f_X8_sheet x1 x2 x3 M = some q) : Ct Z yX8_sheet cX8_sheet 6 (some .int) rm_X8_sheet [.ref (zs Z + 0), .int x1, .int x2, .int x3] M False (PostI q.1 q.2) := by
  refine Ct.of (by decide +kernel) (Nat.le_of_ble_eq_true rfl) (fun X hR hq _ => ?_)
  show G Z X Y_X8_sheet False 0 0 0 [(0, .ref (zs Z + 0)), (1, .int x1), (2, .int x2), (3, .int x3)] [] M
  replace hq : RetOk Z X (some .int) False (PostI q.1 q.2) 0 0 := hq
  unfold f_X8_sheet at hf
  refine G.aload_n 0 0 dX8_sheet_0 rfl rfl ?_
  refine G.getp 1 ck_8 0 1 (hs.k k0_0) (pc_8_0 hs) (by decide) (by decide +kernel) wd_400 dX8_sheet_1 ?_
  refine G.iload_n 4 1 dX8_sheet_4 rfl rfl ?_
  refine G.cvZ 5 (As := [.int x1]) ck_0 (hs.k k0_1) (c_X0_isHall Z hs 1 x1 k0_1 rfl) mk_X0_isHall vk_X0_isHall rfl wd_444 hR (by decide +kernel) ⟨rfl, rfl⟩ rfl (Nat.le_of_ble_eq_true rfl) dX8_sheet_5 (fun hs1 z2 => ?_)
  refine G.if_eq 8 32 dX8_sheet_8 (by decide) (fun h3 => ?_) (fun h3 => ?_)
  · replace hf := (if_pos h3).symm.trans hf
    refine G.iconst 32 (-1 : Int32) dX8_sheet_32 (by decide +kernel) ?_
    (have hf9 := Option.some.inj hf; subst hf9)
    exact G.rI 33 hq dX8_sheet_33 hs1
  · replace hf := (if_neg h3).symm.trans hf
    refine G.iload_n 11 2 dX8_sheet_11 rfl rfl ?_
    refine G.iconst 12 (0 : Int32) dX8_sheet_12 (by decide +kernel) ?_
    refine G.bipush 13 (7 : Int32) dX8_sheet_13 (by decide +kernel) ?_
    refine G.csZ 15 (As := [.int x2, .int (0 : Int32), .int (7 : Int32)]) (c_X8_within Z hs1 x2 (0 : Int32) (7 : Int32) rfl) mk_X8_within wd_430 wd_429 hR (by decide +kernel) ⟨rfl, rfl⟩ rfl (Nat.le_of_ble_eq_true rfl) dX8_sheet_15 (fun hs4 z5 => ?_)
    refine G.if_eq 18 32 dX8_sheet_18 (by decide) (fun h6 => ?_) (fun h6 => ?_)
    · replace hf := (if_pos h6).symm.trans hf
      refine G.iconst 32 (-1 : Int32) dX8_sheet_32 (by decide +kernel) ?_
      (have hf9 := Option.some.inj hf; subst hf9)
      exact G.rI 33 hq dX8_sheet_33 hs4
    · replace hf := (if_neg h6).symm.trans hf
      refine G.iload_n 21 3 dX8_sheet_21 rfl rfl ?_
      refine G.iconst 22 (0 : Int32) dX8_sheet_22 (by decide +kernel) ?_
      refine G.sipush 23 (999 : Int32) dX8_sheet_23 (by decide +kernel) ?_
      refine G.csZ 26 (As := [.int x3, .int (0 : Int32), .int (999 : Int32)]) (c_X8_within Z hs4 x3 (0 : Int32) (999 : Int32) rfl) mk_X8_within wd_430 wd_429 hR (by decide +kernel) ⟨rfl, rfl⟩ rfl (Nat.le_of_ble_eq_true rfl) dX8_sheet_26 (fun hs7 z8 => ?_)
      refine G.if_ne 29 34 dX8_sheet_29 (by decide) (fun h9 => ?_) (fun h9 => ?_)
      · replace hf := (if_neg h9).symm.trans hf
        refine G.aload_n 34 0 dX8_sheet_34 rfl rfl ?_
        refine G.getp 35 ck_8 0 1 (hs7.k k0_0) (pc_8_0 hs7) (by decide) (by decide +kernel) wd_400 dX8_sheet_35 ?_
        refine G.getp 38 ck_0 0 2 (hs7.k k0_1) (pt_0_0 hs7 k0_1).1 (by decide) (by decide +kernel) wd_260 dX8_sheet_38 ?_
        refine G.iload_n 41 1 dX8_sheet_41 rfl rfl ?_
        obtain ⟨g10, hf⟩ := gd_e hf
        refine G.aa 42 x1.toNatClampNeg (2 + 23 + 2 * x1.toNatClampNeg) (hs7.k k0_2) (by decide) rfl rfl g10 rfl (pa_13 hs7 k0_2 (inlt g10)).1 dX8_sheet_42 ?_
        refine G.getp 43 ck_1 0 ((2 + 23 + 2 * x1.toNatClampNeg) + 1) (hs7.k (pa_13 hs7 k0_2 (inlt g10)).2) (pt_1_0 hs7 (pa_13 hs7 k0_2 (inlt g10)).2).1 (by decide) (by decide +kernel) wd_188 dX8_sheet_43 ?_
        refine G.astore 46 [(4, .ref (zs Z + ((2 + 23 + 2 * x1.toNatClampNeg) + 1))), (0, .ref (zs Z + 0)), (1, .int x1), (2, .int x2), (3, .int x3)] dX8_sheet_46 (Nat.le_of_ble_eq_true rfl) rfl ?_
        refine G.aload 48 0 dX8_sheet_48 rfl ?_
        refine G.geti 50 ck_5 0 (hs7.k (pt_1_0 hs7 (pa_13 hs7 k0_2 (inlt g10)).2).2) (by decide) (by decide +kernel) wd_176 dX8_sheet_50 ?_
        refine G.istore 53 [(5, .int (mI M ((2 + 23 + 2 * x1.toNatClampNeg) + 1) 0)), (4, .ref (zs Z + ((2 + 23 + 2 * x1.toNatClampNeg) + 1))), (0, .ref (zs Z + 0)), (1, .int x1), (2, .int x2), (3, .int x3)] dX8_sheet_53 (Nat.le_of_ble_eq_true rfl) rfl ?_
        refine G.aload 55 1 dX8_sheet_55 rfl ?_
        refine G.iload_n 57 4 dX8_sheet_57 rfl rfl ?_
        refine G.puti 58 ck_5 0 (hs7.k (pt_1_0 hs7 (pa_13 hs7 k0_2 (inlt g10)).2).2) (by decide) (by decide +kernel) rfl wd_176 rfl rfl dX8_sheet_58 ?_
        refine G.aload 61 1 dX8_sheet_61 rfl ?_
        refine G.iload_n 63 5 dX8_sheet_63 rfl rfl ?_
        refine G.puti 64 ck_5 1 ((St.i hs7).k (pt_1_0 hs7 (pa_13 hs7 k0_2 (inlt g10)).2).2) (by decide) (by decide +kernel) rfl wd_179 rfl rfl dX8_sheet_64 ?_
        refine G.iload 67 0 dX8_sheet_67 rfl ?_
        (have hf9 := Option.some.inj hf; subst hf9)
        exact G.rI 69 hq dX8_sheet_69 (St.i (St.i hs7))
      · replace hf := (if_pos h9).symm.trans hf
        refine G.iconst 32 (-1 : Int32) dX8_sheet_32 (by decide +kernel) ?_
        (have hf9 := Option.some.inj hf; subst hf9)
        exact G.rI 33 hq dX8_sheet_33 hs7
abbrev Y_X8_sheetRefusal : My := (cX8_sheetRefusal, RX8, 2)
def rm_X8_sheetRefusal : Room := { frames := 3, cells := 0, slots := 0, locals := 242 }
theorem dX8_sheetRefusal_0 : decode cX8_sheetRefusal 0 = .ok (.iload_n 1, 1) := by decide +kernel
theorem dX8_sheetRefusal_1 : decode cX8_sheetRefusal 1 = .ok (.invokestatic 281, 3) := by decide +kernel
theorem dX8_sheetRefusal_4 : decode cX8_sheetRefusal 4 = .ok (.ifCond .ne 5, 3) := by decide +kernel
theorem dX8_sheetRefusal_7 : decode cX8_sheetRefusal 7 = .ok (.iconst (-1), 1) := by decide +kernel
theorem dX8_sheetRefusal_8 : decode cX8_sheetRefusal 8 = .ok (.ireturn, 1) := by decide +kernel
theorem dX8_sheetRefusal_9 : decode cX8_sheetRefusal 9 = .ok (.aload_n 0, 1) := by decide +kernel
theorem dX8_sheetRefusal_10 : decode cX8_sheetRefusal 10 = .ok (.getfield 24, 3) := by decide +kernel
theorem dX8_sheetRefusal_13 : decode cX8_sheetRefusal 13 = .ok (.iload_n 1, 1) := by decide +kernel
theorem dX8_sheetRefusal_14 : decode cX8_sheetRefusal 14 = .ok (.aaload, 1) := by decide +kernel
theorem dX8_sheetRefusal_15 : decode cX8_sheetRefusal 15 = .ok (.getfield 308, 3) := by decide +kernel
theorem dX8_sheetRefusal_18 : decode cX8_sheetRefusal 18 = .ok (.ifCond .ne 6, 3) := by decide +kernel
theorem dX8_sheetRefusal_21 : decode cX8_sheetRefusal 21 = .ok (.bipush (-11), 2) := by decide +kernel
theorem dX8_sheetRefusal_23 : decode cX8_sheetRefusal 23 = .ok (.ireturn, 1) := by decide +kernel
theorem dX8_sheetRefusal_24 : decode cX8_sheetRefusal 24 = .ok (.aload_n 0, 1) := by decide +kernel
theorem dX8_sheetRefusal_25 : decode cX8_sheetRefusal 25 = .ok (.getfield 24, 3) := by decide +kernel
theorem dX8_sheetRefusal_28 : decode cX8_sheetRefusal 28 = .ok (.iload_n 1, 1) := by decide +kernel
theorem dX8_sheetRefusal_29 : decode cX8_sheetRefusal 29 = .ok (.aaload, 1) := by decide +kernel
theorem dX8_sheetRefusal_30 : decode cX8_sheetRefusal 30 = .ok (.getfield 308, 3) := by decide +kernel
theorem dX8_sheetRefusal_33 : decode cX8_sheetRefusal 33 = .ok (.iconst 1, 1) := by decide +kernel
theorem dX8_sheetRefusal_34 : decode cX8_sheetRefusal 34 = .ok (.if_icmp .ne 7, 3) := by decide +kernel
theorem dX8_sheetRefusal_37 : decode cX8_sheetRefusal 37 = .ok (.iconst 0, 1) := by decide +kernel
theorem dX8_sheetRefusal_38 : decode cX8_sheetRefusal 38 = .ok (.goto 5, 3) := by decide +kernel
theorem dX8_sheetRefusal_41 : decode cX8_sheetRefusal 41 = .ok (.bipush (-12), 2) := by decide +kernel
theorem dX8_sheetRefusal_43 : decode cX8_sheetRefusal 43 = .ok (.ireturn, 1) := by decide +kernel
def f_X8_sheetRefusal (x1 : Int32) (M : Mem) : Option Int32 := if (f_X8_isShelf x1) = 0 then some (-1 : Int32) else gd (inR x1 8) (if (mI M (253 + 7 + 3 * x1.toNatClampNeg) 0) = 0 then some (-11 : Int32) else if (mI M (253 + 7 + 3 * x1.toNatClampNeg) 0) = (1 : Int32) then some (0 : Int32) else some (-12 : Int32))
set_option maxRecDepth 100000 in
set_option maxHeartbeats 4000000 in
theorem c_X8_sheetRefusal (Z : Sys) {M : Mem} (hs : St M) (x1 : Int32) {q : Int32} (hf : f_X8_sheetRefusal x1 M = some q) : Ct Z yX8_sheetRefusal cX8_sheetRefusal 2 (some .int) rm_X8_sheetRefusal [.ref (zs Z + 0), .int x1] M False (PostI q M) := by
  refine Ct.of (by decide +kernel) (Nat.le_of_ble_eq_true rfl) (fun X hR hq _ => ?_)
  show G Z X Y_X8_sheetRefusal False 0 0 0 [(0, .ref (zs Z + 0)), (1, .int x1)] [] M
  replace hq : RetOk Z X (some .int) False (PostI q M) 0 0 := hq
  unfold f_X8_sheetRefusal at hf
  refine G.iload_n 0 1 dX8_sheetRefusal_0 rfl rfl ?_
  refine G.csZ 1 (As := [.int x1]) (c_X8_isShelf Z hs x1 rfl) mk_X8_isShelf wd_522 wd_521 hR (by decide +kernel) ⟨rfl, rfl⟩ rfl (Nat.le_of_ble_eq_true rfl) dX8_sheetRefusal_1 (fun hs1 z2 => ?_)
  refine G.if_ne 4 9 dX8_sheetRefusal_4 (by decide) (fun h3 => ?_) (fun h3 => ?_)
  · replace hf := (if_neg h3).symm.trans hf
    refine G.aload_n 9 0 dX8_sheetRefusal_9 rfl rfl ?_
    refine G.getp 10 ck_8 4 253 (hs1.k k0_0) (pc_8_4 hs1) (by decide) (by decide +kernel) wd_404 dX8_sheetRefusal_10 ?_
    refine G.iload_n 13 1 dX8_sheetRefusal_13 rfl rfl ?_
    obtain ⟨g4, hf⟩ := gd_e hf
    refine G.aa 14 x1.toNatClampNeg (253 + 7 + 3 * x1.toNatClampNeg) (hs1.k k0_253) (by decide) rfl rfl g4 rfl (pa_14 hs1 k0_253 (inlt g4)).1 dX8_sheetRefusal_14 ?_
    refine G.geti 15 ck_6 0 (hs1.k (pa_14 hs1 k0_253 (inlt g4)).2) (by decide) (by decide +kernel) wd_374 dX8_sheetRefusal_15 ?_
    refine G.if_ne 18 24 dX8_sheetRefusal_18 (by decide) (fun h5 => ?_) (fun h5 => ?_)
    · replace hf := (if_neg h5).symm.trans hf
      refine G.aload_n 24 0 dX8_sheetRefusal_24 rfl rfl ?_
      refine G.getp 25 ck_8 4 253 (hs1.k k0_0) (pc_8_4 hs1) (by decide) (by decide +kernel) wd_404 dX8_sheetRefusal_25 ?_
      refine G.iload_n 28 1 dX8_sheetRefusal_28 rfl rfl ?_
      refine G.aa 29 x1.toNatClampNeg (253 + 7 + 3 * x1.toNatClampNeg) (hs1.k k0_253) (by decide) rfl rfl g4 rfl (pa_14 hs1 k0_253 (inlt g4)).1 dX8_sheetRefusal_29 ?_
      refine G.geti 30 ck_6 0 (hs1.k (pa_14 hs1 k0_253 (inlt g4)).2) (by decide) (by decide +kernel) wd_374 dX8_sheetRefusal_30 ?_
      refine G.iconst 33 (1 : Int32) dX8_sheetRefusal_33 (by decide +kernel) ?_
      refine G.icmp_ne 34 41 dX8_sheetRefusal_34 (by decide) (fun h6 => ?_) (fun h6 => ?_)
      · replace hf := (if_neg h6).symm.trans hf
        refine G.bipush 41 (-12 : Int32) dX8_sheetRefusal_41 (by decide +kernel) ?_
        (have hf9 := Option.some.inj hf; subst hf9)
        exact G.rI 43 hq dX8_sheetRefusal_43 hs1
      · replace hf := (if_pos h6).symm.trans hf
        refine G.iconst 37 (0 : Int32) dX8_sheetRefusal_37 (by decide +kernel) ?_
        refine G.goto 38 43 dX8_sheetRefusal_38 (by decide) ?_
        (have hf9 := Option.some.inj hf; subst hf9)
        exact G.rI 43 hq dX8_sheetRefusal_43 hs1
    · replace hf := (if_pos h5).symm.trans hf
      refine G.bipush 21 (-11 : Int32) dX8_sheetRefusal_21 (by decide +kernel) ?_
      (have hf9 := Option.some.inj hf; subst hf9)
      exact G.rI 23 hq dX8_sheetRefusal_23 hs1
  · replace hf := (if_pos h3).symm.trans hf
    refine G.iconst 7 (-1 : Int32) dX8_sheetRefusal_7 (by decide +kernel) ?_
    (have hf9 := Option.some.inj hf; subst hf9)
    exact G.rI 8 hq dX8_sheetRefusal_8 hs1
abbrev Y_X8_sum : My := (cX8_sum, RX8, 3)
def rm_X8_sum : Room := { frames := 3, cells := 0, slots := 0, locals := 244 }
theorem dX8_sum_0 : decode cX8_sum 0 = .ok (.iload_n 1, 1) := by decide +kernel
theorem dX8_sum_1 : decode cX8_sum 1 = .ok (.invokestatic 204, 3) := by decide +kernel
theorem dX8_sum_4 : decode cX8_sum 4 = .ok (.ifCond .ne 6, 3) := by decide +kernel
theorem dX8_sum_7 : decode cX8_sum 7 = .ok (.ldc 171, 2) := by decide +kernel
theorem dX8_sum_9 : decode cX8_sum 9 = .ok (.ireturn, 1) := by decide +kernel
theorem dX8_sum_10 : decode cX8_sum 10 = .ok (.iload_n 2, 1) := by decide +kernel
theorem dX8_sum_11 : decode cX8_sum 11 = .ok (.tableswitch 109 0 5 #[37, 46, 55, 64, 73, 91], 37) := by decide +kernel
theorem dX8_sum_48 : decode cX8_sum 48 = .ok (.aload_n 0, 1) := by decide +kernel
theorem dX8_sum_49 : decode cX8_sum 49 = .ok (.getfield 10, 3) := by decide +kernel
theorem dX8_sum_52 : decode cX8_sum 52 = .ok (.iload_n 1, 1) := by decide +kernel
theorem dX8_sum_53 : decode cX8_sum 53 = .ok (.invokevirtual 216, 3) := by decide +kernel
theorem dX8_sum_56 : decode cX8_sum 56 = .ok (.ireturn, 1) := by decide +kernel
theorem dX8_sum_57 : decode cX8_sum 57 = .ok (.aload_n 0, 1) := by decide +kernel
theorem dX8_sum_58 : decode cX8_sum 58 = .ok (.getfield 10, 3) := by decide +kernel
theorem dX8_sum_61 : decode cX8_sum 61 = .ok (.iload_n 1, 1) := by decide +kernel
theorem dX8_sum_62 : decode cX8_sum 62 = .ok (.invokevirtual 219, 3) := by decide +kernel
theorem dX8_sum_65 : decode cX8_sum 65 = .ok (.ireturn, 1) := by decide +kernel
theorem dX8_sum_66 : decode cX8_sum 66 = .ok (.aload_n 0, 1) := by decide +kernel
theorem dX8_sum_67 : decode cX8_sum 67 = .ok (.getfield 10, 3) := by decide +kernel
theorem dX8_sum_70 : decode cX8_sum 70 = .ok (.iload_n 1, 1) := by decide +kernel
theorem dX8_sum_71 : decode cX8_sum 71 = .ok (.invokevirtual 222, 3) := by decide +kernel
theorem dX8_sum_74 : decode cX8_sum 74 = .ok (.ireturn, 1) := by decide +kernel
theorem dX8_sum_75 : decode cX8_sum 75 = .ok (.aload_n 0, 1) := by decide +kernel
theorem dX8_sum_76 : decode cX8_sum 76 = .ok (.getfield 10, 3) := by decide +kernel
theorem dX8_sum_79 : decode cX8_sum 79 = .ok (.iload_n 1, 1) := by decide +kernel
theorem dX8_sum_80 : decode cX8_sum 80 = .ok (.invokevirtual 225, 3) := by decide +kernel
theorem dX8_sum_83 : decode cX8_sum 83 = .ok (.ireturn, 1) := by decide +kernel
theorem dX8_sum_84 : decode cX8_sum 84 = .ok (.aload_n 0, 1) := by decide +kernel
theorem dX8_sum_85 : decode cX8_sum 85 = .ok (.getfield 10, 3) := by decide +kernel
theorem dX8_sum_88 : decode cX8_sum 88 = .ok (.iload_n 1, 1) := by decide +kernel
theorem dX8_sum_89 : decode cX8_sum 89 = .ok (.invokevirtual 222, 3) := by decide +kernel
theorem dX8_sum_92 : decode cX8_sum 92 = .ok (.aload_n 0, 1) := by decide +kernel
theorem dX8_sum_93 : decode cX8_sum 93 = .ok (.getfield 10, 3) := by decide +kernel
theorem dX8_sum_96 : decode cX8_sum 96 = .ok (.iload_n 1, 1) := by decide +kernel
theorem dX8_sum_97 : decode cX8_sum 97 = .ok (.invokevirtual 216, 3) := by decide +kernel
theorem dX8_sum_100 : decode cX8_sum 100 = .ok (.isub, 1) := by decide +kernel
theorem dX8_sum_101 : decode cX8_sum 101 = .ok (.ireturn, 1) := by decide +kernel
theorem dX8_sum_102 : decode cX8_sum 102 = .ok (.aload_n 0, 1) := by decide +kernel
theorem dX8_sum_103 : decode cX8_sum 103 = .ok (.getfield 10, 3) := by decide +kernel
theorem dX8_sum_106 : decode cX8_sum 106 = .ok (.iload_n 1, 1) := by decide +kernel
theorem dX8_sum_107 : decode cX8_sum 107 = .ok (.invokevirtual 225, 3) := by decide +kernel
theorem dX8_sum_110 : decode cX8_sum 110 = .ok (.aload_n 0, 1) := by decide +kernel
theorem dX8_sum_111 : decode cX8_sum 111 = .ok (.getfield 10, 3) := by decide +kernel
theorem dX8_sum_114 : decode cX8_sum 114 = .ok (.iload_n 1, 1) := by decide +kernel
theorem dX8_sum_115 : decode cX8_sum 115 = .ok (.invokevirtual 219, 3) := by decide +kernel
theorem dX8_sum_118 : decode cX8_sum 118 = .ok (.isub, 1) := by decide +kernel
theorem dX8_sum_119 : decode cX8_sum 119 = .ok (.ireturn, 1) := by decide +kernel
theorem dX8_sum_120 : decode cX8_sum 120 = .ok (.ldc 171, 2) := by decide +kernel
theorem dX8_sum_122 : decode cX8_sum 122 = .ok (.ireturn, 1) := by decide +kernel
def f_X8_sum (x1 : Int32) (x2 : Int32) (M : Mem) : Option Int32 := if (f_X8_isDistrict x1) = 0 then some (-1000000001 : Int32) else if x2 = (0 : Int32) then (f_X0_writtenCame 1 x1 M).bind fun q7 => some q7 else if x2 = (1 : Int32) then (f_X0_writtenOurs 1 x1 M).bind fun q12 => some q12 else if x2 = (2 : Int32) then (f_X0_sentCame 1 x1 M).bind fun q17 => some q17 else if x2 = (3 : Int32) then (f_X0_sentOurs 1 x1 M).bind fun q22 => some q22 else if x2 = (4 : Int32) then (f_X0_sentCame 1 x1 M).bind fun q27 => (f_X0_writtenCame 1 x1 M).bind fun q31 => some (q27 - q31) else if x2 = (5 : Int32) then (f_X0_sentOurs 1 x1 M).bind fun q36 => (f_X0_writtenOurs 1 x1 M).bind fun q40 => some (q36 - q40) else some (-1000000001 : Int32)
set_option maxRecDepth 100000 in
set_option maxHeartbeats 4000000 in
theorem c_X8_sum (Z : Sys) {M : Mem} (hs : St M) (x1 : Int32) (x2 : Int32) {q : Int32} (hf : f_X8_sum x1 x2 M = some q) : Ct Z yX8_sum cX8_sum 3 (some .int) rm_X8_sum [.ref (zs Z + 0), .int x1, .int x2] M False (PostI q M) := by
  refine Ct.of (by decide +kernel) (Nat.le_of_ble_eq_true rfl) (fun X hR hq _ => ?_)
  show G Z X Y_X8_sum False 0 0 0 [(0, .ref (zs Z + 0)), (1, .int x1), (2, .int x2)] [] M
  replace hq : RetOk Z X (some .int) False (PostI q M) 0 0 := hq
  unfold f_X8_sum at hf
  refine G.iload_n 0 1 dX8_sum_0 rfl rfl ?_
  refine G.csZ 1 (As := [.int x1]) (c_X8_isDistrict Z hs x1 rfl) mk_X8_isDistrict wd_687 wd_686 hR (by decide +kernel) ⟨rfl, rfl⟩ rfl (Nat.le_of_ble_eq_true rfl) dX8_sum_1 (fun hs1 z2 => ?_)
  refine G.if_ne 4 10 dX8_sum_4 (by decide) (fun h3 => ?_) (fun h3 => ?_)
  · replace hf := (if_neg h3).symm.trans hf
    refine G.iload_n 10 2 dX8_sum_10 rfl rfl ?_
    by_cases h4 : x2 = (0 : Int32)
    · replace hf := (if_pos h4).symm.trans hf
      refine G.tableIn 11 48 (off := 37) dX8_sum_11 (by rw [h4]; decide +kernel) (by rw [h4]; decide +kernel) (by rw [h4]; decide +kernel) (by decide) ?_
      refine G.aload_n 48 0 dX8_sum_48 rfl rfl ?_
      refine G.getp 49 ck_8 0 1 (hs1.k k0_0) (pc_8_0 hs1) (by decide) (by decide +kernel) wd_400 dX8_sum_49 ?_
      refine G.iload_n 52 1 dX8_sum_52 rfl rfl ?_
      obtain ⟨q7, e8, hf⟩ := bd_e hf
      refine G.cvI 53 (As := [.int x1]) ck_0 (hs1.k k0_1) (c_X0_writtenCame Z hs1 1 x1 k0_1 e8) mk_X0_writtenCame vk_X0_writtenCame rfl wd_698 hR (by decide +kernel) ⟨rfl, rfl⟩ rfl (Nat.le_of_ble_eq_true rfl) dX8_sum_53 (fun hs5 => ?_)
      (have hf9 := Option.some.inj hf; subst hf9)
      exact G.rI 56 hq dX8_sum_56 hs5
    · replace hf := (if_neg h4).symm.trans hf
      by_cases h9 : x2 = (1 : Int32)
      · replace hf := (if_pos h9).symm.trans hf
        refine G.tableIn 11 57 (off := 46) dX8_sum_11 (by rw [h9]; decide +kernel) (by rw [h9]; decide +kernel) (by rw [h9]; decide +kernel) (by decide) ?_
        refine G.aload_n 57 0 dX8_sum_57 rfl rfl ?_
        refine G.getp 58 ck_8 0 1 (hs1.k k0_0) (pc_8_0 hs1) (by decide) (by decide +kernel) wd_400 dX8_sum_58 ?_
        refine G.iload_n 61 1 dX8_sum_61 rfl rfl ?_
        obtain ⟨q12, e13, hf⟩ := bd_e hf
        refine G.cvI 62 (As := [.int x1]) ck_0 (hs1.k k0_1) (c_X0_writtenOurs Z hs1 1 x1 k0_1 e13) mk_X0_writtenOurs vk_X0_writtenOurs rfl wd_702 hR (by decide +kernel) ⟨rfl, rfl⟩ rfl (Nat.le_of_ble_eq_true rfl) dX8_sum_62 (fun hs10 => ?_)
        (have hf9 := Option.some.inj hf; subst hf9)
        exact G.rI 65 hq dX8_sum_65 hs10
      · replace hf := (if_neg h9).symm.trans hf
        by_cases h14 : x2 = (2 : Int32)
        · replace hf := (if_pos h14).symm.trans hf
          refine G.tableIn 11 66 (off := 55) dX8_sum_11 (by rw [h14]; decide +kernel) (by rw [h14]; decide +kernel) (by rw [h14]; decide +kernel) (by decide) ?_
          refine G.aload_n 66 0 dX8_sum_66 rfl rfl ?_
          refine G.getp 67 ck_8 0 1 (hs1.k k0_0) (pc_8_0 hs1) (by decide) (by decide +kernel) wd_400 dX8_sum_67 ?_
          refine G.iload_n 70 1 dX8_sum_70 rfl rfl ?_
          obtain ⟨q17, e18, hf⟩ := bd_e hf
          refine G.cvI 71 (As := [.int x1]) ck_0 (hs1.k k0_1) (c_X0_sentCame Z hs1 1 x1 k0_1 e18) mk_X0_sentCame vk_X0_sentCame rfl wd_706 hR (by decide +kernel) ⟨rfl, rfl⟩ rfl (Nat.le_of_ble_eq_true rfl) dX8_sum_71 (fun hs15 => ?_)
          (have hf9 := Option.some.inj hf; subst hf9)
          exact G.rI 74 hq dX8_sum_74 hs15
        · replace hf := (if_neg h14).symm.trans hf
          by_cases h19 : x2 = (3 : Int32)
          · replace hf := (if_pos h19).symm.trans hf
            refine G.tableIn 11 75 (off := 64) dX8_sum_11 (by rw [h19]; decide +kernel) (by rw [h19]; decide +kernel) (by rw [h19]; decide +kernel) (by decide) ?_
            refine G.aload_n 75 0 dX8_sum_75 rfl rfl ?_
            refine G.getp 76 ck_8 0 1 (hs1.k k0_0) (pc_8_0 hs1) (by decide) (by decide +kernel) wd_400 dX8_sum_76 ?_
            refine G.iload_n 79 1 dX8_sum_79 rfl rfl ?_
            obtain ⟨q22, e23, hf⟩ := bd_e hf
            refine G.cvI 80 (As := [.int x1]) ck_0 (hs1.k k0_1) (c_X0_sentOurs Z hs1 1 x1 k0_1 e23) mk_X0_sentOurs vk_X0_sentOurs rfl wd_711 hR (by decide +kernel) ⟨rfl, rfl⟩ rfl (Nat.le_of_ble_eq_true rfl) dX8_sum_80 (fun hs20 => ?_)
            (have hf9 := Option.some.inj hf; subst hf9)
            exact G.rI 83 hq dX8_sum_83 hs20
          · replace hf := (if_neg h19).symm.trans hf
            by_cases h24 : x2 = (4 : Int32)
            · replace hf := (if_pos h24).symm.trans hf
              refine G.tableIn 11 84 (off := 73) dX8_sum_11 (by rw [h24]; decide +kernel) (by rw [h24]; decide +kernel) (by rw [h24]; decide +kernel) (by decide) ?_
              refine G.aload_n 84 0 dX8_sum_84 rfl rfl ?_
              refine G.getp 85 ck_8 0 1 (hs1.k k0_0) (pc_8_0 hs1) (by decide) (by decide +kernel) wd_400 dX8_sum_85 ?_
              refine G.iload_n 88 1 dX8_sum_88 rfl rfl ?_
              obtain ⟨q27, e28, hf⟩ := bd_e hf
              refine G.cvI 89 (As := [.int x1]) ck_0 (hs1.k k0_1) (c_X0_sentCame Z hs1 1 x1 k0_1 e28) mk_X0_sentCame vk_X0_sentCame rfl wd_706 hR (by decide +kernel) ⟨rfl, rfl⟩ rfl (Nat.le_of_ble_eq_true rfl) dX8_sum_89 (fun hs25 => ?_)
              refine G.aload_n 92 0 dX8_sum_92 rfl rfl ?_
              refine G.getp 93 ck_8 0 1 (hs25.k k0_0) (pc_8_0 hs25) (by decide) (by decide +kernel) wd_400 dX8_sum_93 ?_
              refine G.iload_n 96 1 dX8_sum_96 rfl rfl ?_
              obtain ⟨q31, e32, hf⟩ := bd_e hf
              refine G.cvI 97 (As := [.int x1]) ck_0 (hs25.k k0_1) (c_X0_writtenCame Z hs25 1 x1 k0_1 e32) mk_X0_writtenCame vk_X0_writtenCame rfl wd_698 hR (by decide +kernel) ⟨rfl, rfl⟩ rfl (Nat.le_of_ble_eq_true rfl) dX8_sum_97 (fun hs29 => ?_)
              refine G.isub 100 dX8_sum_100 ?_
              (have hf9 := Option.some.inj hf; subst hf9)
              exact G.rI 101 hq dX8_sum_101 hs29
            · replace hf := (if_neg h24).symm.trans hf
              by_cases h33 : x2 = (5 : Int32)
              · replace hf := (if_pos h33).symm.trans hf
                refine G.tableIn 11 102 (off := 91) dX8_sum_11 (by rw [h33]; decide +kernel) (by rw [h33]; decide +kernel) (by rw [h33]; decide +kernel) (by decide) ?_
                refine G.aload_n 102 0 dX8_sum_102 rfl rfl ?_
                refine G.getp 103 ck_8 0 1 (hs1.k k0_0) (pc_8_0 hs1) (by decide) (by decide +kernel) wd_400 dX8_sum_103 ?_
                refine G.iload_n 106 1 dX8_sum_106 rfl rfl ?_
                obtain ⟨q36, e37, hf⟩ := bd_e hf
                refine G.cvI 107 (As := [.int x1]) ck_0 (hs1.k k0_1) (c_X0_sentOurs Z hs1 1 x1 k0_1 e37) mk_X0_sentOurs vk_X0_sentOurs rfl wd_711 hR (by decide +kernel) ⟨rfl, rfl⟩ rfl (Nat.le_of_ble_eq_true rfl) dX8_sum_107 (fun hs34 => ?_)
                refine G.aload_n 110 0 dX8_sum_110 rfl rfl ?_
                refine G.getp 111 ck_8 0 1 (hs34.k k0_0) (pc_8_0 hs34) (by decide) (by decide +kernel) wd_400 dX8_sum_111 ?_
                refine G.iload_n 114 1 dX8_sum_114 rfl rfl ?_
                obtain ⟨q40, e41, hf⟩ := bd_e hf
                refine G.cvI 115 (As := [.int x1]) ck_0 (hs34.k k0_1) (c_X0_writtenOurs Z hs34 1 x1 k0_1 e41) mk_X0_writtenOurs vk_X0_writtenOurs rfl wd_702 hR (by decide +kernel) ⟨rfl, rfl⟩ rfl (Nat.le_of_ble_eq_true rfl) dX8_sum_115 (fun hs38 => ?_)
                refine G.isub 118 dX8_sum_118 ?_
                (have hf9 := Option.some.inj hf; subst hf9)
                exact G.rI 119 hq dX8_sum_119 hs38
              · replace hf := (if_neg h33).symm.trans hf
                have t_h4 := ti (0 : Int32) (0) (by decide +kernel) h4
                have t_h9 := ti (1 : Int32) (1) (by decide +kernel) h9
                have t_h14 := ti (2 : Int32) (2) (by decide +kernel) h14
                have t_h19 := ti (3 : Int32) (3) (by decide +kernel) h19
                have t_h24 := ti (4 : Int32) (4) (by decide +kernel) h24
                have t_h33 := ti (5 : Int32) (5) (by decide +kernel) h33
                refine G.tableOut 11 120 dX8_sum_11 (by omega) (by decide) ?_
                refine G.ldc 120 (-1000000001 : Int32) wd_623 dX8_sum_120 ?_
                (have hf9 := Option.some.inj hf; subst hf9)
                exact G.rI 122 hq dX8_sum_122 hs1
  · replace hf := (if_pos h3).symm.trans hf
    refine G.ldc 7 (-1000000001 : Int32) wd_623 dX8_sum_7 ?_
    (have hf9 := Option.some.inj hf; subst hf9)
    exact G.rI 9 hq dX8_sum_9 hs1
abbrev Y_X8_truly : My := (cX8_truly, RX8, 6)
def rm_X8_truly : Room := { frames := 3, cells := 0, slots := 0, locals := 243 }
theorem dX8_truly_0 : decode cX8_truly 0 = .ok (.aload_n 0, 1) := by decide +kernel
theorem dX8_truly_1 : decode cX8_truly 1 = .ok (.getfield 10, 3) := by decide +kernel
theorem dX8_truly_4 : decode cX8_truly 4 = .ok (.iload_n 1, 1) := by decide +kernel
theorem dX8_truly_5 : decode cX8_truly 5 = .ok (.invokevirtual 58, 3) := by decide +kernel
theorem dX8_truly_8 : decode cX8_truly 8 = .ok (.ifCond .ne 5, 3) := by decide +kernel
theorem dX8_truly_11 : decode cX8_truly 11 = .ok (.iconst (-1), 1) := by decide +kernel
theorem dX8_truly_12 : decode cX8_truly 12 = .ok (.ireturn, 1) := by decide +kernel
theorem dX8_truly_13 : decode cX8_truly 13 = .ok (.aload_n 0, 1) := by decide +kernel
theorem dX8_truly_14 : decode cX8_truly 14 = .ok (.getfield 10, 3) := by decide +kernel
theorem dX8_truly_17 : decode cX8_truly 17 = .ok (.getfield 62, 3) := by decide +kernel
theorem dX8_truly_20 : decode cX8_truly 20 = .ok (.iload_n 1, 1) := by decide +kernel
theorem dX8_truly_21 : decode cX8_truly 21 = .ok (.aaload, 1) := by decide +kernel
theorem dX8_truly_22 : decode cX8_truly 22 = .ok (.astore 4, 2) := by decide +kernel
theorem dX8_truly_24 : decode cX8_truly 24 = .ok (.iload_n 2, 1) := by decide +kernel
theorem dX8_truly_25 : decode cX8_truly 25 = .ok (.iconst 0, 1) := by decide +kernel
theorem dX8_truly_26 : decode cX8_truly 26 = .ok (.aload 4, 2) := by decide +kernel
theorem dX8_truly_28 : decode cX8_truly 28 = .ok (.getfield 66, 3) := by decide +kernel
theorem dX8_truly_31 : decode cX8_truly 31 = .ok (.invokestatic 50, 3) := by decide +kernel
theorem dX8_truly_34 : decode cX8_truly 34 = .ok (.ifCond .eq 12, 3) := by decide +kernel
theorem dX8_truly_37 : decode cX8_truly 37 = .ok (.iload_n 3, 1) := by decide +kernel
theorem dX8_truly_38 : decode cX8_truly 38 = .ok (.iconst 0, 1) := by decide +kernel
theorem dX8_truly_39 : decode cX8_truly 39 = .ok (.iload_n 2, 1) := by decide +kernel
theorem dX8_truly_40 : decode cX8_truly 40 = .ok (.invokestatic 50, 3) := by decide +kernel
theorem dX8_truly_43 : decode cX8_truly 43 = .ok (.ifCond .ne 5, 3) := by decide +kernel
theorem dX8_truly_46 : decode cX8_truly 46 = .ok (.iconst (-1), 1) := by decide +kernel
theorem dX8_truly_47 : decode cX8_truly 47 = .ok (.ireturn, 1) := by decide +kernel
theorem dX8_truly_48 : decode cX8_truly 48 = .ok (.aload 4, 2) := by decide +kernel
theorem dX8_truly_50 : decode cX8_truly 50 = .ok (.getfield 72, 3) := by decide +kernel
theorem dX8_truly_53 : decode cX8_truly 53 = .ok (.istore 5, 2) := by decide +kernel
theorem dX8_truly_55 : decode cX8_truly 55 = .ok (.aload 4, 2) := by decide +kernel
theorem dX8_truly_57 : decode cX8_truly 57 = .ok (.iload_n 2, 1) := by decide +kernel
theorem dX8_truly_58 : decode cX8_truly 58 = .ok (.putfield 72, 3) := by decide +kernel
theorem dX8_truly_61 : decode cX8_truly 61 = .ok (.aload 4, 2) := by decide +kernel
theorem dX8_truly_63 : decode cX8_truly 63 = .ok (.iload_n 3, 1) := by decide +kernel
theorem dX8_truly_64 : decode cX8_truly 64 = .ok (.putfield 75, 3) := by decide +kernel
theorem dX8_truly_67 : decode cX8_truly 67 = .ok (.iload 5, 2) := by decide +kernel
theorem dX8_truly_69 : decode cX8_truly 69 = .ok (.ireturn, 1) := by decide +kernel
def f_X8_truly (x1 : Int32) (x2 : Int32) (x3 : Int32) (M : Mem) : Option (Int32 × Mem) := if (f_X0_isHall 1 x1 M) = 0 then some ((-1 : Int32), M) else gd (inR x1 30) (if (f_X8_within x2 (0 : Int32) (mI M (2 + 23 + 2 * x1.toNatClampNeg) 1)) = 0 then some ((-1 : Int32), M) else if (f_X8_within x3 (0 : Int32) x2) = 0 then some ((-1 : Int32), M) else some ((mI M (2 + 23 + 2 * x1.toNatClampNeg) 6), (sI (sI M (2 + 23 + 2 * x1.toNatClampNeg) 6 x2) (2 + 23 + 2 * x1.toNatClampNeg) 7 x3)))
set_option maxRecDepth 100000 in
set_option maxHeartbeats 4000000 in
theorem c_X8_truly (Z : Sys) {M : Mem} (hs : St M) (x1 : Int32) (x2 : Int32) (x3 : Int32) {q : Int32 × Mem} (hf : f_X8_truly x1 x2 x3 M = some q) : Ct Z yX8_truly cX8_truly 6 (some .int) rm_X8_truly [.ref (zs Z + 0), .int x1, .int x2, .int x3] M False (PostI q.1 q.2) := by
  refine Ct.of (by decide +kernel) (Nat.le_of_ble_eq_true rfl) (fun X hR hq _ => ?_)
  show G Z X Y_X8_truly False 0 0 0 [(0, .ref (zs Z + 0)), (1, .int x1), (2, .int x2), (3, .int x3)] [] M
  replace hq : RetOk Z X (some .int) False (PostI q.1 q.2) 0 0 := hq
  unfold f_X8_truly at hf
  refine G.aload_n 0 0 dX8_truly_0 rfl rfl ?_
  refine G.getp 1 ck_8 0 1 (hs.k k0_0) (pc_8_0 hs) (by decide) (by decide +kernel) wd_400 dX8_truly_1 ?_
  refine G.iload_n 4 1 dX8_truly_4 rfl rfl ?_
  refine G.cvZ 5 (As := [.int x1]) ck_0 (hs.k k0_1) (c_X0_isHall Z hs 1 x1 k0_1 rfl) mk_X0_isHall vk_X0_isHall rfl wd_444 hR (by decide +kernel) ⟨rfl, rfl⟩ rfl (Nat.le_of_ble_eq_true rfl) dX8_truly_5 (fun hs1 z2 => ?_)
  refine G.if_ne 8 13 dX8_truly_8 (by decide) (fun h3 => ?_) (fun h3 => ?_)
  · replace hf := (if_neg h3).symm.trans hf
    refine G.aload_n 13 0 dX8_truly_13 rfl rfl ?_
    refine G.getp 14 ck_8 0 1 (hs1.k k0_0) (pc_8_0 hs1) (by decide) (by decide +kernel) wd_400 dX8_truly_14 ?_
    refine G.getp 17 ck_0 0 2 (hs1.k k0_1) (pt_0_0 hs1 k0_1).1 (by decide) (by decide +kernel) wd_260 dX8_truly_17 ?_
    refine G.iload_n 20 1 dX8_truly_20 rfl rfl ?_
    obtain ⟨g4, hf⟩ := gd_e hf
    refine G.aa 21 x1.toNatClampNeg (2 + 23 + 2 * x1.toNatClampNeg) (hs1.k k0_2) (by decide) rfl rfl g4 rfl (pa_13 hs1 k0_2 (inlt g4)).1 dX8_truly_21 ?_
    refine G.astore 22 [(4, .ref (zs Z + (2 + 23 + 2 * x1.toNatClampNeg))), (0, .ref (zs Z + 0)), (1, .int x1), (2, .int x2), (3, .int x3)] dX8_truly_22 (Nat.le_of_ble_eq_true rfl) rfl ?_
    refine G.iload_n 24 3 dX8_truly_24 rfl rfl ?_
    refine G.iconst 25 (0 : Int32) dX8_truly_25 (by decide +kernel) ?_
    refine G.aload 26 0 dX8_truly_26 rfl ?_
    refine G.geti 28 ck_1 1 (hs1.k (pa_13 hs1 k0_2 (inlt g4)).2) (by decide) (by decide +kernel) wd_190 dX8_truly_28 ?_
    refine G.csZ 31 (As := [.int x2, .int (0 : Int32), .int (mI M (2 + 23 + 2 * x1.toNatClampNeg) 1)]) (c_X8_within Z hs1 x2 (0 : Int32) (mI M (2 + 23 + 2 * x1.toNatClampNeg) 1) rfl) mk_X8_within wd_430 wd_429 hR (by decide +kernel) ⟨rfl, rfl⟩ rfl (Nat.le_of_ble_eq_true rfl) dX8_truly_31 (fun hs5 z6 => ?_)
    refine G.if_eq 34 46 dX8_truly_34 (by decide) (fun h7 => ?_) (fun h7 => ?_)
    · replace hf := (if_pos h7).symm.trans hf
      refine G.iconst 46 (-1 : Int32) dX8_truly_46 (by decide +kernel) ?_
      (have hf9 := Option.some.inj hf; subst hf9)
      exact G.rI 47 hq dX8_truly_47 hs5
    · replace hf := (if_neg h7).symm.trans hf
      refine G.iload_n 37 4 dX8_truly_37 rfl rfl ?_
      refine G.iconst 38 (0 : Int32) dX8_truly_38 (by decide +kernel) ?_
      refine G.iload_n 39 3 dX8_truly_39 rfl rfl ?_
      refine G.csZ 40 (As := [.int x3, .int (0 : Int32), .int x2]) (c_X8_within Z hs5 x3 (0 : Int32) x2 rfl) mk_X8_within wd_430 wd_429 hR (by decide +kernel) ⟨rfl, rfl⟩ rfl (Nat.le_of_ble_eq_true rfl) dX8_truly_40 (fun hs8 z9 => ?_)
      refine G.if_ne 43 48 dX8_truly_43 (by decide) (fun h10 => ?_) (fun h10 => ?_)
      · replace hf := (if_neg h10).symm.trans hf
        refine G.aload 48 0 dX8_truly_48 rfl ?_
        refine G.geti 50 ck_1 6 (hs8.k (pa_13 hs1 k0_2 (inlt g4)).2) (by decide) (by decide +kernel) wd_208 dX8_truly_50 ?_
        refine G.istore 53 [(5, .int (mI M (2 + 23 + 2 * x1.toNatClampNeg) 6)), (4, .ref (zs Z + (2 + 23 + 2 * x1.toNatClampNeg))), (0, .ref (zs Z + 0)), (1, .int x1), (2, .int x2), (3, .int x3)] dX8_truly_53 (Nat.le_of_ble_eq_true rfl) rfl ?_
        refine G.aload 55 1 dX8_truly_55 rfl ?_
        refine G.iload_n 57 4 dX8_truly_57 rfl rfl ?_
        refine G.puti 58 ck_1 6 (hs8.k (pa_13 hs1 k0_2 (inlt g4)).2) (by decide) (by decide +kernel) rfl wd_208 rfl rfl dX8_truly_58 ?_
        refine G.aload 61 1 dX8_truly_61 rfl ?_
        refine G.iload_n 63 5 dX8_truly_63 rfl rfl ?_
        refine G.puti 64 ck_1 7 ((St.i hs8).k (pa_13 hs1 k0_2 (inlt g4)).2) (by decide) (by decide +kernel) rfl wd_211 rfl rfl dX8_truly_64 ?_
        refine G.iload 67 0 dX8_truly_67 rfl ?_
        (have hf9 := Option.some.inj hf; subst hf9)
        exact G.rI 69 hq dX8_truly_69 (St.i (St.i hs8))
      · replace hf := (if_pos h10).symm.trans hf
        refine G.iconst 46 (-1 : Int32) dX8_truly_46 (by decide +kernel) ?_
        (have hf9 := Option.some.inj hf; subst hf9)
        exact G.rI 47 hq dX8_truly_47 hs8
  · replace hf := (if_pos h3).symm.trans hf
    refine G.iconst 11 (-1 : Int32) dX8_truly_11 (by decide +kernel) ?_
    (have hf9 := Option.some.inj hf; subst hf9)
    exact G.rI 12 hq dX8_truly_12 hs1
abbrev Y_X8_trulyAll : My := (cX8_trulyAll, RX8, 4)
def rm_X8_trulyAll : Room := { frames := 4, cells := 0, slots := 0, locals := 264 }
theorem dX8_trulyAll_0 : decode cX8_trulyAll 0 = .ok (.aload_n 0, 1) := by decide +kernel
theorem dX8_trulyAll_1 : decode cX8_trulyAll 1 = .ok (.getfield 10, 3) := by decide +kernel
theorem dX8_trulyAll_4 : decode cX8_trulyAll 4 = .ok (.iload_n 1, 1) := by decide +kernel
theorem dX8_trulyAll_5 : decode cX8_trulyAll 5 = .ok (.invokevirtual 58, 3) := by decide +kernel
theorem dX8_trulyAll_8 : decode cX8_trulyAll 8 = .ok (.ifCond .ne 5, 3) := by decide +kernel
theorem dX8_trulyAll_11 : decode cX8_trulyAll 11 = .ok (.iconst (-1), 1) := by decide +kernel
theorem dX8_trulyAll_12 : decode cX8_trulyAll 12 = .ok (.ireturn, 1) := by decide +kernel
theorem dX8_trulyAll_13 : decode cX8_trulyAll 13 = .ok (.aload_n 0, 1) := by decide +kernel
theorem dX8_trulyAll_14 : decode cX8_trulyAll 14 = .ok (.getfield 10, 3) := by decide +kernel
theorem dX8_trulyAll_17 : decode cX8_trulyAll 17 = .ok (.getfield 62, 3) := by decide +kernel
theorem dX8_trulyAll_20 : decode cX8_trulyAll 20 = .ok (.iload_n 1, 1) := by decide +kernel
theorem dX8_trulyAll_21 : decode cX8_trulyAll 21 = .ok (.aaload, 1) := by decide +kernel
theorem dX8_trulyAll_22 : decode cX8_trulyAll 22 = .ok (.astore_n 2, 1) := by decide +kernel
theorem dX8_trulyAll_23 : decode cX8_trulyAll 23 = .ok (.aload_n 2, 1) := by decide +kernel
theorem dX8_trulyAll_24 : decode cX8_trulyAll 24 = .ok (.getfield 105, 3) := by decide +kernel
theorem dX8_trulyAll_27 : decode cX8_trulyAll 27 = .ok (.ifCond .ne 25, 3) := by decide +kernel
theorem dX8_trulyAll_30 : decode cX8_trulyAll 30 = .ok (.aload_n 2, 1) := by decide +kernel
theorem dX8_trulyAll_31 : decode cX8_trulyAll 31 = .ok (.getfield 109, 3) := by decide +kernel
theorem dX8_trulyAll_34 : decode cX8_trulyAll 34 = .ok (.aload_n 2, 1) := by decide +kernel
theorem dX8_trulyAll_35 : decode cX8_trulyAll 35 = .ok (.getfield 66, 3) := by decide +kernel
theorem dX8_trulyAll_38 : decode cX8_trulyAll 38 = .ok (.if_icmp .ne 14, 3) := by decide +kernel
theorem dX8_trulyAll_41 : decode cX8_trulyAll 41 = .ok (.aload_n 2, 1) := by decide +kernel
theorem dX8_trulyAll_42 : decode cX8_trulyAll 42 = .ok (.getfield 112, 3) := by decide +kernel
theorem dX8_trulyAll_45 : decode cX8_trulyAll 45 = .ok (.aload_n 2, 1) := by decide +kernel
theorem dX8_trulyAll_46 : decode cX8_trulyAll 46 = .ok (.getfield 66, 3) := by decide +kernel
theorem dX8_trulyAll_49 : decode cX8_trulyAll 49 = .ok (.if_icmp .eq 6, 3) := by decide +kernel
theorem dX8_trulyAll_52 : decode cX8_trulyAll 52 = .ok (.bipush (-4), 2) := by decide +kernel
theorem dX8_trulyAll_54 : decode cX8_trulyAll 54 = .ok (.ireturn, 1) := by decide +kernel
theorem dX8_trulyAll_55 : decode cX8_trulyAll 55 = .ok (.aload_n 2, 1) := by decide +kernel
theorem dX8_trulyAll_56 : decode cX8_trulyAll 56 = .ok (.getfield 177, 3) := by decide +kernel
theorem dX8_trulyAll_59 : decode cX8_trulyAll 59 = .ok (.bipush 95, 2) := by decide +kernel
theorem dX8_trulyAll_61 : decode cX8_trulyAll 61 = .ok (.if_icmp .lt 7, 3) := by decide +kernel
theorem dX8_trulyAll_64 : decode cX8_trulyAll 64 = .ok (.iconst 1, 1) := by decide +kernel
theorem dX8_trulyAll_65 : decode cX8_trulyAll 65 = .ok (.goto 4, 3) := by decide +kernel
theorem dX8_trulyAll_68 : decode cX8_trulyAll 68 = .ok (.iconst 0, 1) := by decide +kernel
theorem dX8_trulyAll_69 : decode cX8_trulyAll 69 = .ok (.istore_n 3, 1) := by decide +kernel
theorem dX8_trulyAll_70 : decode cX8_trulyAll 70 = .ok (.aload_n 0, 1) := by decide +kernel
theorem dX8_trulyAll_71 : decode cX8_trulyAll 71 = .ok (.getfield 10, 3) := by decide +kernel
theorem dX8_trulyAll_74 : decode cX8_trulyAll 74 = .ok (.iload_n 1, 1) := by decide +kernel
theorem dX8_trulyAll_75 : decode cX8_trulyAll 75 = .ok (.invokevirtual 180, 3) := by decide +kernel
theorem dX8_trulyAll_78 : decode cX8_trulyAll 78 = .ok (.ifCond .eq 9, 3) := by decide +kernel
theorem dX8_trulyAll_81 : decode cX8_trulyAll 81 = .ok (.iload_n 3, 1) := by decide +kernel
theorem dX8_trulyAll_82 : decode cX8_trulyAll 82 = .ok (.iconst 1, 1) := by decide +kernel
theorem dX8_trulyAll_83 : decode cX8_trulyAll 83 = .ok (.iadd, 1) := by decide +kernel
theorem dX8_trulyAll_84 : decode cX8_trulyAll 84 = .ok (.goto 4, 3) := by decide +kernel
theorem dX8_trulyAll_87 : decode cX8_trulyAll 87 = .ok (.iload_n 3, 1) := by decide +kernel
theorem dX8_trulyAll_88 : decode cX8_trulyAll 88 = .ok (.ireturn, 1) := by decide +kernel
def f_X8_trulyAll (x1 : Int32) (M : Mem) : Option Int32 := if (f_X0_isHall 1 x1 M) = 0 then some (-1 : Int32) else gd (inR x1 30) (if (mI M (2 + 23 + 2 * x1.toNatClampNeg) 9) = 0 then if (mI M (2 + 23 + 2 * x1.toNatClampNeg) 10) = (mI M (2 + 23 + 2 * x1.toNatClampNeg) 1) then if (mI M (2 + 23 + 2 * x1.toNatClampNeg) 11) = (mI M (2 + 23 + 2 * x1.toNatClampNeg) 1) then if (mI M (2 + 23 + 2 * x1.toNatClampNeg) 5) < (95 : Int32) then (f_X0_hasHighKin 1 x1 M).bind fun q11 => if q11 = 0 then some (0 : Int32) else some ((0 : Int32) + (1 : Int32)) else (f_X0_hasHighKin 1 x1 M).bind fun q16 => if q16 = 0 then some (1 : Int32) else some ((1 : Int32) + (1 : Int32)) else some (-4 : Int32) else some (-4 : Int32) else some (-4 : Int32))
set_option maxRecDepth 100000 in
set_option maxHeartbeats 4000000 in
theorem c_X8_trulyAll (Z : Sys) {M : Mem} (hs : St M) (x1 : Int32) {q : Int32} (hf : f_X8_trulyAll x1 M = some q) : Ct Z yX8_trulyAll cX8_trulyAll 4 (some .int) rm_X8_trulyAll [.ref (zs Z + 0), .int x1] M False (PostI q M) := by
  refine Ct.of (by decide +kernel) (Nat.le_of_ble_eq_true rfl) (fun X hR hq _ => ?_)
  show G Z X Y_X8_trulyAll False 0 0 0 [(0, .ref (zs Z + 0)), (1, .int x1)] [] M
  replace hq : RetOk Z X (some .int) False (PostI q M) 0 0 := hq
  unfold f_X8_trulyAll at hf
  refine G.aload_n 0 0 dX8_trulyAll_0 rfl rfl ?_
  refine G.getp 1 ck_8 0 1 (hs.k k0_0) (pc_8_0 hs) (by decide) (by decide +kernel) wd_400 dX8_trulyAll_1 ?_
  refine G.iload_n 4 1 dX8_trulyAll_4 rfl rfl ?_
  refine G.cvZ 5 (As := [.int x1]) ck_0 (hs.k k0_1) (c_X0_isHall Z hs 1 x1 k0_1 rfl) mk_X0_isHall vk_X0_isHall rfl wd_444 hR (by decide +kernel) ⟨rfl, rfl⟩ rfl (Nat.le_of_ble_eq_true rfl) dX8_trulyAll_5 (fun hs1 z2 => ?_)
  refine G.if_ne 8 13 dX8_trulyAll_8 (by decide) (fun h3 => ?_) (fun h3 => ?_)
  · replace hf := (if_neg h3).symm.trans hf
    refine G.aload_n 13 0 dX8_trulyAll_13 rfl rfl ?_
    refine G.getp 14 ck_8 0 1 (hs1.k k0_0) (pc_8_0 hs1) (by decide) (by decide +kernel) wd_400 dX8_trulyAll_14 ?_
    refine G.getp 17 ck_0 0 2 (hs1.k k0_1) (pt_0_0 hs1 k0_1).1 (by decide) (by decide +kernel) wd_260 dX8_trulyAll_17 ?_
    refine G.iload_n 20 1 dX8_trulyAll_20 rfl rfl ?_
    obtain ⟨g4, hf⟩ := gd_e hf
    refine G.aa 21 x1.toNatClampNeg (2 + 23 + 2 * x1.toNatClampNeg) (hs1.k k0_2) (by decide) rfl rfl g4 rfl (pa_13 hs1 k0_2 (inlt g4)).1 dX8_trulyAll_21 ?_
    refine G.astore_n 22 [(2, .ref (zs Z + (2 + 23 + 2 * x1.toNatClampNeg))), (0, .ref (zs Z + 0)), (1, .int x1)] dX8_trulyAll_22 rfl (Nat.le_of_ble_eq_true rfl) rfl ?_
    refine G.aload_n 23 0 dX8_trulyAll_23 rfl rfl ?_
    refine G.geti 24 ck_1 9 (hs1.k (pa_13 hs1 k0_2 (inlt g4)).2) (by decide) (by decide +kernel) wd_221 dX8_trulyAll_24 ?_
    refine G.if_ne 27 52 dX8_trulyAll_27 (by decide) (fun h5 => ?_) (fun h5 => ?_)
    · replace hf := (if_neg h5).symm.trans hf
      refine G.bipush 52 (-4 : Int32) dX8_trulyAll_52 (by decide +kernel) ?_
      (have hf9 := Option.some.inj hf; subst hf9)
      exact G.rI 54 hq dX8_trulyAll_54 hs1
    · replace hf := (if_pos h5).symm.trans hf
      refine G.aload_n 30 0 dX8_trulyAll_30 rfl rfl ?_
      refine G.geti 31 ck_1 10 (hs1.k (pa_13 hs1 k0_2 (inlt g4)).2) (by decide) (by decide +kernel) wd_226 dX8_trulyAll_31 ?_
      refine G.aload_n 34 0 dX8_trulyAll_34 rfl rfl ?_
      refine G.geti 35 ck_1 1 (hs1.k (pa_13 hs1 k0_2 (inlt g4)).2) (by decide) (by decide +kernel) wd_190 dX8_trulyAll_35 ?_
      refine G.icmp_ne 38 52 dX8_trulyAll_38 (by decide) (fun h6 => ?_) (fun h6 => ?_)
      · replace hf := (if_neg h6).symm.trans hf
        refine G.bipush 52 (-4 : Int32) dX8_trulyAll_52 (by decide +kernel) ?_
        (have hf9 := Option.some.inj hf; subst hf9)
        exact G.rI 54 hq dX8_trulyAll_54 hs1
      · replace hf := (if_pos h6).symm.trans hf
        refine G.aload_n 41 0 dX8_trulyAll_41 rfl rfl ?_
        refine G.geti 42 ck_1 11 (hs1.k (pa_13 hs1 k0_2 (inlt g4)).2) (by decide) (by decide +kernel) wd_230 dX8_trulyAll_42 ?_
        refine G.aload_n 45 0 dX8_trulyAll_45 rfl rfl ?_
        refine G.geti 46 ck_1 1 (hs1.k (pa_13 hs1 k0_2 (inlt g4)).2) (by decide) (by decide +kernel) wd_190 dX8_trulyAll_46 ?_
        refine G.icmp_eq 49 55 dX8_trulyAll_49 (by decide) (fun h7 => ?_) (fun h7 => ?_)
        · replace hf := (if_pos h7).symm.trans hf
          refine G.aload_n 55 0 dX8_trulyAll_55 rfl rfl ?_
          refine G.geti 56 ck_1 5 (hs1.k (pa_13 hs1 k0_2 (inlt g4)).2) (by decide) (by decide +kernel) wd_205 dX8_trulyAll_56 ?_
          refine G.bipush 59 (95 : Int32) dX8_trulyAll_59 (by decide +kernel) ?_
          refine G.icmp_lt 61 68 dX8_trulyAll_61 (by decide) (fun h8 => ?_) (fun h8 => ?_)
          · replace hf := (if_pos h8).symm.trans hf
            refine G.iconst 68 (0 : Int32) dX8_trulyAll_68 (by decide +kernel) ?_
            refine G.istore_n 69 [(3, .int (0 : Int32)), (2, .ref (zs Z + (2 + 23 + 2 * x1.toNatClampNeg))), (0, .ref (zs Z + 0)), (1, .int x1)] dX8_trulyAll_69 rfl (Nat.le_of_ble_eq_true rfl) rfl ?_
            refine G.aload_n 70 2 dX8_trulyAll_70 rfl rfl ?_
            refine G.getp 71 ck_8 0 1 (hs1.k k0_0) (pc_8_0 hs1) (by decide) (by decide +kernel) wd_400 dX8_trulyAll_71 ?_
            refine G.iload_n 74 3 dX8_trulyAll_74 rfl rfl ?_
            obtain ⟨q11, e12, hf⟩ := bd_e hf
            refine G.cvZ 75 (As := [.int x1]) ck_0 (hs1.k k0_1) (c_X0_hasHighKin Z hs1 1 x1 k0_1 e12) mk_X0_hasHighKin vk_X0_hasHighKin rfl wd_634 hR (by decide +kernel) ⟨rfl, rfl⟩ rfl (Nat.le_of_ble_eq_true rfl) dX8_trulyAll_75 (fun hs9 z10 => ?_)
            refine G.if_eq 78 87 dX8_trulyAll_78 (by decide) (fun h13 => ?_) (fun h13 => ?_)
            · replace hf := (if_pos h13).symm.trans hf
              refine G.iload_n 87 0 dX8_trulyAll_87 rfl rfl ?_
              (have hf9 := Option.some.inj hf; subst hf9)
              exact G.rI 88 hq dX8_trulyAll_88 hs9
            · replace hf := (if_neg h13).symm.trans hf
              refine G.iload_n 81 0 dX8_trulyAll_81 rfl rfl ?_
              refine G.iconst 82 (1 : Int32) dX8_trulyAll_82 (by decide +kernel) ?_
              refine G.iadd 83 dX8_trulyAll_83 ?_
              refine G.goto 84 88 dX8_trulyAll_84 (by decide) ?_
              (have hf9 := Option.some.inj hf; subst hf9)
              exact G.rI 88 hq dX8_trulyAll_88 hs9
          · replace hf := (if_neg h8).symm.trans hf
            refine G.iconst 64 (1 : Int32) dX8_trulyAll_64 (by decide +kernel) ?_
            refine G.goto 65 69 dX8_trulyAll_65 (by decide) ?_
            refine G.istore_n 69 [(3, .int (1 : Int32)), (2, .ref (zs Z + (2 + 23 + 2 * x1.toNatClampNeg))), (0, .ref (zs Z + 0)), (1, .int x1)] dX8_trulyAll_69 rfl (Nat.le_of_ble_eq_true rfl) rfl ?_
            refine G.aload_n 70 2 dX8_trulyAll_70 rfl rfl ?_
            refine G.getp 71 ck_8 0 1 (hs1.k k0_0) (pc_8_0 hs1) (by decide) (by decide +kernel) wd_400 dX8_trulyAll_71 ?_
            refine G.iload_n 74 3 dX8_trulyAll_74 rfl rfl ?_
            obtain ⟨q16, e17, hf⟩ := bd_e hf
            refine G.cvZ 75 (As := [.int x1]) ck_0 (hs1.k k0_1) (c_X0_hasHighKin Z hs1 1 x1 k0_1 e17) mk_X0_hasHighKin vk_X0_hasHighKin rfl wd_634 hR (by decide +kernel) ⟨rfl, rfl⟩ rfl (Nat.le_of_ble_eq_true rfl) dX8_trulyAll_75 (fun hs14 z15 => ?_)
            refine G.if_eq 78 87 dX8_trulyAll_78 (by decide) (fun h18 => ?_) (fun h18 => ?_)
            · replace hf := (if_pos h18).symm.trans hf
              refine G.iload_n 87 0 dX8_trulyAll_87 rfl rfl ?_
              (have hf9 := Option.some.inj hf; subst hf9)
              exact G.rI 88 hq dX8_trulyAll_88 hs14
            · replace hf := (if_neg h18).symm.trans hf
              refine G.iload_n 81 0 dX8_trulyAll_81 rfl rfl ?_
              refine G.iconst 82 (1 : Int32) dX8_trulyAll_82 (by decide +kernel) ?_
              refine G.iadd 83 dX8_trulyAll_83 ?_
              refine G.goto 84 88 dX8_trulyAll_84 (by decide) ?_
              (have hf9 := Option.some.inj hf; subst hf9)
              exact G.rI 88 hq dX8_trulyAll_88 hs14
        · replace hf := (if_neg h7).symm.trans hf
          refine G.bipush 52 (-4 : Int32) dX8_trulyAll_52 (by decide +kernel) ?_
          (have hf9 := Option.some.inj hf; subst hf9)
          exact G.rI 54 hq dX8_trulyAll_54 hs1
  · replace hf := (if_pos h3).symm.trans hf
    refine G.iconst 11 (-1 : Int32) dX8_trulyAll_11 (by decide +kernel) ?_
    (have hf9 := Option.some.inj hf; subst hf9)
    exact G.rI 12 hq dX8_trulyAll_12 hs1
