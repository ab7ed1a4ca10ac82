abbrev Y_X8_land : My := (cX8_land, RX8, 2)
def rm_X8_land : Room := { frames := 3, cells := 0, slots := 0, locals := 247 }
theorem dX8_land_0 : decode cX8_land 0 = .ok (.aload_n 0, 1) := by decide +kernel
theorem dX8_land_1 : decode cX8_land 1 = .ok (.getfield 10, 3) := by decide +kernel
theorem dX8_land_4 : decode cX8_land 4 = .ok (.iload_n 1, 1) := by decide +kernel
theorem dX8_land_5 : decode cX8_land 5 = .ok (.invokevirtual 265, 3) := by decide +kernel
theorem dX8_land_8 : decode cX8_land 8 = .ok (.ireturn, 1) := by decide +kernel
def f_X8_land (x1 : Int32) (M : Mem) : Option (Int32 × Mem) := (f_X0_becomeHonest 1 x1 M).bind fun q3 => some (q3.1, q3.2)
set_option maxRecDepth 100000 in
set_option maxHeartbeats 4000000 in
theorem c_X8_land (Z : Sys) {M : Mem} (hs : St M) (x1 : Int32) {q : Int32 × Mem} (hf : f_X8_land x1 M = some q) : Ct Z yX8_land cX8_land 2 (some .int) rm_X8_land [.ref (zs Z + 0), .int x1] M False (PostI q.1 q.2) := by
  refine Ct.of (by decide +kernel) (Nat.le_of_ble_eq_true rfl) (fun X hR hq _ => ?_)
  show G Z X Y_X8_land False 0 0 0 [(0, .ref (zs Z + 0)), (1, .int x1)] [] M
  replace hq : RetOk Z X (some .int) False (PostI q.1 q.2) 0 0 := hq
  unfold f_X8_land at hf
  refine G.aload_n 0 0 dX8_land_0 rfl rfl ?_
  refine G.getp 1 ck_8 0 1 (hs.k k0_0) (pc_8_0 hs) (by decide) (by decide +kernel) wd_400 dX8_land_1 ?_
  refine G.iload_n 4 1 dX8_land_4 rfl rfl ?_
  obtain ⟨q3, e4, hf⟩ := bd_e hf
  refine G.cvI 5 (As := [.int x1]) ck_0 (hs.k k0_1) (c_X0_becomeHonest Z hs 1 x1 k0_1 e4) mk_X0_becomeHonest vk_X0_becomeHonest rfl wd_846 hR (by decide +kernel) ⟨rfl, rfl⟩ rfl (Nat.le_of_ble_eq_true rfl) dX8_land_5 (fun hs1 => ?_)
  (have hf9 := Option.some.inj hf; subst hf9)
  exact G.rI 8 hq dX8_land_8 hs1
abbrev Y_X8_leastCame : My := (cX8_leastCame, RX8, 2)
def rm_X8_leastCame : Room := { frames := 1, cells := 0, slots := 0, locals := 200 }
theorem dX8_leastCame_0 : decode cX8_leastCame 0 = .ok (.iconst 1, 1) := by decide +kernel
theorem dX8_leastCame_1 : decode cX8_leastCame 1 = .ok (.istore_n 1, 1) := by decide +kernel
theorem dX8_leastCame_2 : decode cX8_leastCame 2 = .ok (.iload_n 1, 1) := by decide +kernel
theorem dX8_leastCame_3 : decode cX8_leastCame 3 = .ok (.bipush 100, 2) := by decide +kernel
theorem dX8_leastCame_5 : decode cX8_leastCame 5 = .ok (.if_icmp .ge 20, 3) := by decide +kernel
theorem dX8_leastCame_8 : decode cX8_leastCame 8 = .ok (.iload_n 1, 1) := by decide +kernel
theorem dX8_leastCame_9 : decode cX8_leastCame 9 = .ok (.iload_n 0, 1) := by decide +kernel
theorem dX8_leastCame_10 : decode cX8_leastCame 10 = .ok (.imul, 1) := by decide +kernel
theorem dX8_leastCame_11 : decode cX8_leastCame 11 = .ok (.bipush 100, 2) := by decide +kernel
theorem dX8_leastCame_13 : decode cX8_leastCame 13 = .ok (.irem, 1) := by decide +kernel
theorem dX8_leastCame_14 : decode cX8_leastCame 14 = .ok (.ifCond .ne 5, 3) := by decide +kernel
theorem dX8_leastCame_17 : decode cX8_leastCame 17 = .ok (.iload_n 1, 1) := by decide +kernel
theorem dX8_leastCame_18 : decode cX8_leastCame 18 = .ok (.ireturn, 1) := by decide +kernel
theorem dX8_leastCame_19 : decode cX8_leastCame 19 = .ok (.iinc 1 1, 3) := by decide +kernel
theorem dX8_leastCame_22 : decode cX8_leastCame 22 = .ok (.goto (-20), 3) := by decide +kernel
theorem dX8_leastCame_25 : decode cX8_leastCame 25 = .ok (.bipush 100, 2) := by decide +kernel
theorem dX8_leastCame_27 : decode cX8_leastCame 27 = .ok (.ireturn, 1) := by decide +kernel
def L_X8_leastCame_2 : Nat → Int32 → Int32 → Option Int32
  | 0, _, _ => none
  | n + 1, x0, x1 => if (100 : Int32) ≤ x1 then some (100 : Int32) else if (jrem (x1 * x0) (100 : Int32)) = 0 then some x1 else L_X8_leastCame_2 n x0 (x1 + 1)
def f_X8_leastCame (x0 : Int32) : Option Int32 := L_X8_leastCame_2 FU x0 (1 : Int32)
set_option maxRecDepth 100000 in
set_option maxHeartbeats 4000000 in
theorem l_X8_leastCame_2 (Z : Sys) (X : Cx) (hR : xR X = rm_X8_leastCame) {q : Int32} {M : Mem} (hq : RetOk Z X (some .int) False (PostI q M) 0 0) : ∀ (n : Nat) (x0 : Int32) (x1 : Int32) (hs : St M) (hf : L_X8_leastCame_2 n x0 x1 = some q), G Z X Y_X8_leastCame False 0 0 2 [(0, .int x0), (1, .int x1)] [] M := by
  intro n
  induction n with
  | zero => intro x0 x1 hs  hf; cases hf
  | succ n ih =>
    intro x0 x1 hs  hf
    unfold L_X8_leastCame_2 at hf
    refine G.iload_n 2 1 dX8_leastCame_2 rfl rfl ?_
    refine G.bipush 3 (100 : Int32) dX8_leastCame_3 (by decide +kernel) ?_
    refine G.icmp_ge 5 25 dX8_leastCame_5 (by decide) (fun h1 => ?_) (fun h1 => ?_)
    · replace hf := (if_pos h1).symm.trans hf
      refine G.bipush 25 (100 : Int32) dX8_leastCame_25 (by decide +kernel) ?_
      (have hf9 := Option.some.inj hf; subst hf9)
      exact G.rI 27 hq dX8_leastCame_27 hs
    · replace hf := (if_neg h1).symm.trans hf
      refine G.iload_n 8 1 dX8_leastCame_8 rfl rfl ?_
      refine G.iload_n 9 0 dX8_leastCame_9 rfl rfl ?_
      refine G.imul 10 dX8_leastCame_10 ?_
      refine G.bipush 11 (100 : Int32) dX8_leastCame_11 (by decide +kernel) ?_
      refine G.iremJ 13 dX8_leastCame_13 (by decide +kernel) ?_
      refine G.if_ne 14 19 dX8_leastCame_14 (by decide) (fun h2 => ?_) (fun h2 => ?_)
      · replace hf := (if_neg h2).symm.trans hf
        refine G.iinc 19 1 (x1 + 1) [(1, .int (x1 + 1)), (0, .int x0)] dX8_leastCame_19 rfl (congrArg (fun z => x1 + z) (by decide +kernel)) (Nat.le_of_ble_eq_true rfl) rfl ?_
        refine G.goto 22 2 dX8_leastCame_22 (by decide) ?_
        refine G.locs [1, 0] rfl ?_
        exact ih x0 (x1 + 1) hs hf
      · replace hf := (if_pos h2).symm.trans hf
        refine G.iload_n 17 1 dX8_leastCame_17 rfl rfl ?_
        (have hf9 := Option.some.inj hf; subst hf9)
        exact G.rI 18 hq dX8_leastCame_18 hs
set_option maxRecDepth 100000 in
set_option maxHeartbeats 4000000 in
theorem c_X8_leastCame (Z : Sys) {M : Mem} (hs : St M) (x0 : Int32) {q : Int32} (hf : f_X8_leastCame x0 = some q) : Ct Z yX8_leastCame cX8_leastCame 2 (some .int) rm_X8_leastCame [.int x0] M False (PostI q M) := by
  refine Ct.of (by decide +kernel) (Nat.le_of_ble_eq_true rfl) (fun X hR hq _ => ?_)
  show G Z X Y_X8_leastCame False 0 0 0 [(0, .int x0)] [] M
  replace hq : RetOk Z X (some .int) False (PostI q M) 0 0 := hq
  unfold f_X8_leastCame at hf
  refine G.iconst 0 (1 : Int32) dX8_leastCame_0 (by decide +kernel) ?_
  refine G.istore_n 1 [(1, .int (1 : Int32)), (0, .int x0)] dX8_leastCame_1 rfl (Nat.le_of_ble_eq_true rfl) rfl ?_
  refine G.locs [1, 0] rfl ?_
  exact l_X8_leastCame_2 Z X hR hq FU x0 (1 : Int32) hs hf
abbrev Y_X8_left : My := (cX8_left, RX8, 2)
def rm_X8_left : Room := { frames := 5, cells := 0, slots := 0, locals := 286 }
theorem dX8_left_0 : decode cX8_left 0 = .ok (.aload_n 0, 1) := by decide +kernel
theorem dX8_left_1 : decode cX8_left 1 = .ok (.getfield 10, 3) := by decide +kernel
theorem dX8_left_4 : decode cX8_left 4 = .ok (.iload_n 1, 1) := by decide +kernel
theorem dX8_left_5 : decode cX8_left 5 = .ok (.invokevirtual 58, 3) := by decide +kernel
theorem dX8_left_8 : decode cX8_left 8 = .ok (.ifCond .ne 6, 3) := by decide +kernel
theorem dX8_left_11 : decode cX8_left 11 = .ok (.ldc 171, 2) := by decide +kernel
theorem dX8_left_13 : decode cX8_left 13 = .ok (.ireturn, 1) := by decide +kernel
theorem dX8_left_14 : decode cX8_left 14 = .ok (.aload_n 0, 1) := by decide +kernel
theorem dX8_left_15 : decode cX8_left 15 = .ok (.getfield 10, 3) := by decide +kernel
theorem dX8_left_18 : decode cX8_left 18 = .ok (.getfield 62, 3) := by decide +kernel
theorem dX8_left_21 : decode cX8_left 21 = .ok (.iload_n 1, 1) := by decide +kernel
theorem dX8_left_22 : decode cX8_left 22 = .ok (.aaload, 1) := by decide +kernel
theorem dX8_left_23 : decode cX8_left 23 = .ok (.getfield 105, 3) := by decide +kernel
theorem dX8_left_26 : decode cX8_left 26 = .ok (.ifCond .eq 6, 3) := by decide +kernel
theorem dX8_left_29 : decode cX8_left 29 = .ok (.ldc 172, 2) := by decide +kernel
theorem dX8_left_31 : decode cX8_left 31 = .ok (.ireturn, 1) := by decide +kernel
theorem dX8_left_32 : decode cX8_left 32 = .ok (.aload_n 0, 1) := by decide +kernel
theorem dX8_left_33 : decode cX8_left 33 = .ok (.getfield 10, 3) := by decide +kernel
theorem dX8_left_36 : decode cX8_left 36 = .ok (.aload_n 0, 1) := by decide +kernel
theorem dX8_left_37 : decode cX8_left 37 = .ok (.getfield 10, 3) := by decide +kernel
theorem dX8_left_40 : decode cX8_left 40 = .ok (.getfield 62, 3) := by decide +kernel
theorem dX8_left_43 : decode cX8_left 43 = .ok (.iload_n 1, 1) := by decide +kernel
theorem dX8_left_44 : decode cX8_left 44 = .ok (.aaload, 1) := by decide +kernel
theorem dX8_left_45 : decode cX8_left 45 = .ok (.invokevirtual 173, 3) := by decide +kernel
theorem dX8_left_48 : decode cX8_left 48 = .ok (.ireturn, 1) := by decide +kernel
def f_X8_left (x1 : Int32) (M : Mem) : Option (Int32 × Mem) := if (f_X0_isHall 1 x1 M) = 0 then some ((-1000000001 : Int32), M) else gd (inR x1 30) (if (mI M (2 + 23 + 2 * x1.toNatClampNeg) 9) = 0 then (f_X0_shareFromMiddle 1 (2 + 23 + 2 * x1.toNatClampNeg) M).bind fun q8 => some (q8.1, q8.2) else some ((-1000000004 : Int32), M))
set_option maxRecDepth 100000 in
set_option maxHeartbeats 4000000 in
theorem c_X8_left (Z : Sys) {M : Mem} (hs : St M) (x1 : Int32) {q : Int32 × Mem} (hf : f_X8_left x1 M = some q) : Ct Z yX8_left cX8_left 2 (some .int) rm_X8_left [.ref (zs Z + 0), .int x1] M False (PostI q.1 q.2) := by
  refine Ct.of (by decide +kernel) (Nat.le_of_ble_eq_true rfl) (fun X hR hq _ => ?_)
  show G Z X Y_X8_left False 0 0 0 [(0, .ref (zs Z + 0)), (1, .int x1)] [] M
  replace hq : RetOk Z X (some .int) False (PostI q.1 q.2) 0 0 := hq
  unfold f_X8_left at hf
  refine G.aload_n 0 0 dX8_left_0 rfl rfl ?_
  refine G.getp 1 ck_8 0 1 (hs.k k0_0) (pc_8_0 hs) (by decide) (by decide +kernel) wd_400 dX8_left_1 ?_
  refine G.iload_n 4 1 dX8_left_4 rfl rfl ?_
  refine G.cvZ 5 (As := [.int x1]) ck_0 (hs.k k0_1) (c_X0_isHall Z hs 1 x1 k0_1 rfl) mk_X0_isHall vk_X0_isHall rfl wd_444 hR (by decide +kernel) ⟨rfl, rfl⟩ rfl (Nat.le_of_ble_eq_true rfl) dX8_left_5 (fun hs1 z2 => ?_)
  refine G.if_ne 8 14 dX8_left_8 (by decide) (fun h3 => ?_) (fun h3 => ?_)
  · replace hf := (if_neg h3).symm.trans hf
    refine G.aload_n 14 0 dX8_left_14 rfl rfl ?_
    refine G.getp 15 ck_8 0 1 (hs1.k k0_0) (pc_8_0 hs1) (by decide) (by decide +kernel) wd_400 dX8_left_15 ?_
    refine G.getp 18 ck_0 0 2 (hs1.k k0_1) (pt_0_0 hs1 k0_1).1 (by decide) (by decide +kernel) wd_260 dX8_left_18 ?_
    refine G.iload_n 21 1 dX8_left_21 rfl rfl ?_
    obtain ⟨g4, hf⟩ := gd_e hf
    refine G.aa 22 x1.toNatClampNeg (2 + 23 + 2 * x1.toNatClampNeg) (hs1.k k0_2) (by decide) rfl rfl g4 rfl (pa_13 hs1 k0_2 (inlt g4)).1 dX8_left_22 ?_
    refine G.geti 23 ck_1 9 (hs1.k (pa_13 hs1 k0_2 (inlt g4)).2) (by decide) (by decide +kernel) wd_221 dX8_left_23 ?_
    refine G.if_eq 26 32 dX8_left_26 (by decide) (fun h5 => ?_) (fun h5 => ?_)
    · replace hf := (if_pos h5).symm.trans hf
      refine G.aload_n 32 0 dX8_left_32 rfl rfl ?_
      refine G.getp 33 ck_8 0 1 (hs1.k k0_0) (pc_8_0 hs1) (by decide) (by decide +kernel) wd_400 dX8_left_33 ?_
      refine G.aload_n 36 0 dX8_left_36 rfl rfl ?_
      refine G.getp 37 ck_8 0 1 (hs1.k k0_0) (pc_8_0 hs1) (by decide) (by decide +kernel) wd_400 dX8_left_37 ?_
      refine G.getp 40 ck_0 0 2 (hs1.k k0_1) (pt_0_0 hs1 k0_1).1 (by decide) (by decide +kernel) wd_260 dX8_left_40 ?_
      refine G.iload_n 43 1 dX8_left_43 rfl rfl ?_
      refine G.aa 44 x1.toNatClampNeg (2 + 23 + 2 * x1.toNatClampNeg) (hs1.k k0_2) (by decide) rfl rfl g4 rfl (pa_13 hs1 k0_2 (inlt g4)).1 dX8_left_44 ?_
      obtain ⟨q8, e9, hf⟩ := bd_e hf
      refine G.cvI 45 (As := [.ref (zs Z + (2 + 23 + 2 * x1.toNatClampNeg))]) ck_0 (hs1.k k0_1) (c_X0_shareFromMiddle Z hs1 1 (2 + 23 + 2 * x1.toNatClampNeg) k0_1 (pa_13 hs1 k0_2 (inlt g4)).2 e9) mk_X0_shareFromMiddle vk_X0_shareFromMiddle rfl wd_625 hR (by decide +kernel) ⟨rfl, rfl⟩ rfl (Nat.le_of_ble_eq_true rfl) dX8_left_45 (fun hs6 => ?_)
      (have hf9 := Option.some.inj hf; subst hf9)
      exact G.rI 48 hq dX8_left_48 hs6
    · replace hf := (if_neg h5).symm.trans hf
      refine G.ldc 29 (-1000000004 : Int32) wd_624 dX8_left_29 ?_
      (have hf9 := Option.some.inj hf; subst hf9)
      exact G.rI 31 hq dX8_left_31 hs1
  · replace hf := (if_pos h3).symm.trans hf
    refine G.ldc 11 (-1000000001 : Int32) wd_623 dX8_left_11 ?_
    (have hf9 := Option.some.inj hf; subst hf9)
    exact G.rI 13 hq dX8_left_13 hs1
abbrev Y_X8_mark : My := (cX8_mark, RX8, 4)
def rm_X8_mark : Room := { frames := 10, cells := 0, slots := 0, locals := 397 }
theorem dX8_mark_0 : decode cX8_mark 0 = .ok (.iload_n 1, 1) := by decide +kernel
theorem dX8_mark_1 : decode cX8_mark 1 = .ok (.invokestatic 281, 3) := by decide +kernel
theorem dX8_mark_4 : decode cX8_mark 4 = .ok (.ifCond .ne 5, 3) := by decide +kernel
theorem dX8_mark_7 : decode cX8_mark 7 = .ok (.iconst (-1), 1) := by decide +kernel
theorem dX8_mark_8 : decode cX8_mark 8 = .ok (.ireturn, 1) := by decide +kernel
theorem dX8_mark_9 : decode cX8_mark 9 = .ok (.aload_n 0, 1) := by decide +kernel
theorem dX8_mark_10 : decode cX8_mark 10 = .ok (.getfield 10, 3) := by decide +kernel
theorem dX8_mark_13 : decode cX8_mark 13 = .ok (.getfield 284, 3) := by decide +kernel
theorem dX8_mark_16 : decode cX8_mark 16 = .ok (.bipush 10, 2) := by decide +kernel
theorem dX8_mark_18 : decode cX8_mark 18 = .ok (.if_icmp .lt 6, 3) := by decide +kernel
theorem dX8_mark_21 : decode cX8_mark 21 = .ok (.bipush (-2), 2) := by decide +kernel
theorem dX8_mark_23 : decode cX8_mark 23 = .ok (.ireturn, 1) := by decide +kernel
theorem dX8_mark_24 : decode cX8_mark 24 = .ok (.aload_n 0, 1) := by decide +kernel
theorem dX8_mark_25 : decode cX8_mark 25 = .ok (.iload_n 1, 1) := by decide +kernel
theorem dX8_mark_26 : decode cX8_mark 26 = .ok (.invokevirtual 271, 3) := by decide +kernel
theorem dX8_mark_29 : decode cX8_mark 29 = .ok (.istore_n 2, 1) := by decide +kernel
theorem dX8_mark_30 : decode cX8_mark 30 = .ok (.iload_n 2, 1) := by decide +kernel
theorem dX8_mark_31 : decode cX8_mark 31 = .ok (.ifCond .eq 5, 3) := by decide +kernel
theorem dX8_mark_34 : decode cX8_mark 34 = .ok (.iload_n 2, 1) := by decide +kernel
theorem dX8_mark_35 : decode cX8_mark 35 = .ok (.ireturn, 1) := by decide +kernel
theorem dX8_mark_36 : decode cX8_mark 36 = .ok (.aload_n 0, 1) := by decide +kernel
theorem dX8_mark_37 : decode cX8_mark 37 = .ok (.getfield 45, 3) := by decide +kernel
theorem dX8_mark_40 : decode cX8_mark 40 = .ok (.aload_n 0, 1) := by decide +kernel
theorem dX8_mark_41 : decode cX8_mark 41 = .ok (.getfield 24, 3) := by decide +kernel
theorem dX8_mark_44 : decode cX8_mark 44 = .ok (.iload_n 1, 1) := by decide +kernel
theorem dX8_mark_45 : decode cX8_mark 45 = .ok (.aaload, 1) := by decide +kernel
theorem dX8_mark_46 : decode cX8_mark 46 = .ok (.getfield 139, 3) := by decide +kernel
theorem dX8_mark_49 : decode cX8_mark 49 = .ok (.aload_n 0, 1) := by decide +kernel
theorem dX8_mark_50 : decode cX8_mark 50 = .ok (.getfield 24, 3) := by decide +kernel
theorem dX8_mark_53 : decode cX8_mark 53 = .ok (.iload_n 1, 1) := by decide +kernel
theorem dX8_mark_54 : decode cX8_mark 54 = .ok (.aaload, 1) := by decide +kernel
theorem dX8_mark_55 : decode cX8_mark 55 = .ok (.getfield 274, 3) := by decide +kernel
theorem dX8_mark_58 : decode cX8_mark 58 = .ok (.invokevirtual 277, 3) := by decide +kernel
theorem dX8_mark_61 : decode cX8_mark 61 = .ok (.istore_n 3, 1) := by decide +kernel
theorem dX8_mark_62 : decode cX8_mark 62 = .ok (.iload_n 3, 1) := by decide +kernel
theorem dX8_mark_63 : decode cX8_mark 63 = .ok (.iconst (-1), 1) := by decide +kernel
theorem dX8_mark_64 : decode cX8_mark 64 = .ok (.if_icmp .eq 8, 3) := by decide +kernel
theorem dX8_mark_67 : decode cX8_mark 67 = .ok (.bipush (-100), 2) := by decide +kernel
theorem dX8_mark_69 : decode cX8_mark 69 = .ok (.iload_n 3, 1) := by decide +kernel
theorem dX8_mark_70 : decode cX8_mark 70 = .ok (.isub, 1) := by decide +kernel
theorem dX8_mark_71 : decode cX8_mark 71 = .ok (.ireturn, 1) := by decide +kernel
theorem dX8_mark_72 : decode cX8_mark 72 = .ok (.aload_n 0, 1) := by decide +kernel
theorem dX8_mark_73 : decode cX8_mark 73 = .ok (.getfield 10, 3) := by decide +kernel
theorem dX8_mark_76 : decode cX8_mark 76 = .ok (.aload_n 0, 1) := by decide +kernel
theorem dX8_mark_77 : decode cX8_mark 77 = .ok (.getfield 24, 3) := by decide +kernel
theorem dX8_mark_80 : decode cX8_mark 80 = .ok (.iload_n 1, 1) := by decide +kernel
theorem dX8_mark_81 : decode cX8_mark 81 = .ok (.aaload, 1) := by decide +kernel
theorem dX8_mark_82 : decode cX8_mark 82 = .ok (.getfield 139, 3) := by decide +kernel
theorem dX8_mark_85 : decode cX8_mark 85 = .ok (.aload_n 0, 1) := by decide +kernel
theorem dX8_mark_86 : decode cX8_mark 86 = .ok (.getfield 24, 3) := by decide +kernel
theorem dX8_mark_89 : decode cX8_mark 89 = .ok (.iload_n 1, 1) := by decide +kernel
theorem dX8_mark_90 : decode cX8_mark 90 = .ok (.aaload, 1) := by decide +kernel
theorem dX8_mark_91 : decode cX8_mark 91 = .ok (.getfield 274, 3) := by decide +kernel
theorem dX8_mark_94 : decode cX8_mark 94 = .ok (.invokevirtual 287, 3) := by decide +kernel
theorem dX8_mark_97 : decode cX8_mark 97 = .ok (.ireturn, 1) := by decide +kernel
def f_X8_mark (x1 : Int32) (M : Mem) : Option (Int32 × Mem) := if (f_X8_isShelf x1) = 0 then some ((-1 : Int32), M) else if (mI M 1 8) < (10 : Int32) then (f_X8_textRefusal x1 M).bind fun q7 => if q7 = 0 then gd (inR x1 8) ((f_X2_faultOf ((253 + 7 + 3 * x1.toNatClampNeg) + 2) (mI M (253 + 7 + 3 * x1.toNatClampNeg) 5) M).bind fun q13 => if q13.1 = (-1 : Int32) then (f_X0_addMark 1 ((253 + 7 + 3 * x1.toNatClampNeg) + 2) (mI q13.2 (253 + 7 + 3 * x1.toNatClampNeg) 5) q13.2).bind fun q18 => some (q18.1, q18.2) else some (((-100 : Int32) - q13.1), q13.2)) else some (q7, M) else some ((-2 : Int32), M)
set_option maxRecDepth 100000 in
set_option maxHeartbeats 4000000 in
theorem c_X8_mark (Z : Sys) {M : Mem} (hs : St M) (x1 : Int32) {q : Int32 × Mem} (hf : f_X8_mark x1 M = some q) : Ct Z yX8_mark cX8_mark 4 (some .int) rm_X8_mark [.ref (zs Z + 0), .int x1] M False (PostI q.1 q.2) := by
  refine Ct.of (by decide +kernel) (Nat.le_of_ble_eq_true rfl) (fun X hR hq _ => ?_)
  show G Z X Y_X8_mark False 0 0 0 [(0, .ref (zs Z + 0)), (1, .int x1)] [] M
  replace hq : RetOk Z X (some .int) False (PostI q.1 q.2) 0 0 := hq
  unfold f_X8_mark at hf
  refine G.iload_n 0 1 dX8_mark_0 rfl rfl ?_
  refine G.csZ 1 (As := [.int x1]) (c_X8_isShelf Z hs x1 rfl) mk_X8_isShelf wd_522 wd_521 hR (by decide +kernel) ⟨rfl, rfl⟩ rfl (Nat.le_of_ble_eq_true rfl) dX8_mark_1 (fun hs1 z2 => ?_)
  refine G.if_ne 4 9 dX8_mark_4 (by decide) (fun h3 => ?_) (fun h3 => ?_)
  · replace hf := (if_neg h3).symm.trans hf
    refine G.aload_n 9 0 dX8_mark_9 rfl rfl ?_
    refine G.getp 10 ck_8 0 1 (hs1.k k0_0) (pc_8_0 hs1) (by decide) (by decide +kernel) wd_400 dX8_mark_10 ?_
    refine G.geti 13 ck_0 8 (hs1.k k0_1) (by decide) (by decide +kernel) wd_276 dX8_mark_13 ?_
    refine G.bipush 16 (10 : Int32) dX8_mark_16 (by decide +kernel) ?_
    refine G.icmp_lt 18 24 dX8_mark_18 (by decide) (fun h4 => ?_) (fun h4 => ?_)
    · replace hf := (if_pos h4).symm.trans hf
      refine G.aload_n 24 0 dX8_mark_24 rfl rfl ?_
      refine G.iload_n 25 1 dX8_mark_25 rfl rfl ?_
      obtain ⟨q7, e8, hf⟩ := bd_e hf
      refine G.cvI 26 (As := [.int x1]) ck_8 (hs1.k k0_0) (c_X8_textRefusal Z hs1 x1 e8) mk_X8_textRefusal vk_X8_textRefusal rfl wd_874 hR (by decide +kernel) ⟨rfl, rfl⟩ rfl (Nat.le_of_ble_eq_true rfl) dX8_mark_26 (fun hs5 => ?_)
      refine G.istore_n 29 [(2, .int q7), (0, .ref (zs Z + 0)), (1, .int x1)] dX8_mark_29 rfl (Nat.le_of_ble_eq_true rfl) rfl ?_
      refine G.iload_n 30 0 dX8_mark_30 rfl rfl ?_
      refine G.if_eq 31 36 dX8_mark_31 (by decide) (fun h9 => ?_) (fun h9 => ?_)
      · replace hf := (if_pos h9).symm.trans hf
        refine G.aload_n 36 1 dX8_mark_36 rfl rfl ?_
        refine G.getp 37 ck_8 7 259 (hs5.k k0_0) (pc_8_7 hs5) (by decide) (by decide +kernel) wd_407 dX8_mark_37 ?_
        refine G.aload_n 40 1 dX8_mark_40 rfl rfl ?_
        refine G.getp 41 ck_8 4 253 (hs5.k k0_0) (pc_8_4 hs5) (by decide) (by decide +kernel) wd_404 dX8_mark_41 ?_
        refine G.iload_n 44 2 dX8_mark_44 rfl rfl ?_
        obtain ⟨g10, hf⟩ := gd_e hf
        refine G.aa 45 x1.toNatClampNeg (253 + 7 + 3 * x1.toNatClampNeg) (hs5.k k0_253) (by decide) rfl rfl g10 rfl (pa_14 hs5 k0_253 (inlt g10)).1 dX8_mark_45 ?_
        refine G.getp 46 ck_6 6 ((253 + 7 + 3 * x1.toNatClampNeg) + 2) (hs5.k (pa_14 hs5 k0_253 (inlt g10)).2) (pt_6_6 hs5 (pa_14 hs5 k0_253 (inlt g10)).2).1 (by decide) (by decide +kernel) wd_384 dX8_mark_46 ?_
        refine G.aload_n 49 1 dX8_mark_49 rfl rfl ?_
        refine G.getp 50 ck_8 4 253 (hs5.k k0_0) (pc_8_4 hs5) (by decide) (by decide +kernel) wd_404 dX8_mark_50 ?_
        refine G.iload_n 53 2 dX8_mark_53 rfl rfl ?_
        refine G.aa 54 x1.toNatClampNeg (253 + 7 + 3 * x1.toNatClampNeg) (hs5.k k0_253) (by decide) rfl rfl g10 rfl (pa_14 hs5 k0_253 (inlt g10)).1 dX8_mark_54 ?_
        refine G.geti 55 ck_6 5 (hs5.k (pa_14 hs5 k0_253 (inlt g10)).2) (by decide) (by decide +kernel) wd_382 dX8_mark_55 ?_
        obtain ⟨q13, e14, hf⟩ := bd_e hf
        refine G.cvI 58 (As := [.ref (zs Z + ((253 + 7 + 3 * x1.toNatClampNeg) + 2)), .int (mI M (253 + 7 + 3 * x1.toNatClampNeg) 5)]) ck_2 (hs5.k k0_259) (c_X2_faultOf Z hs5 ((253 + 7 + 3 * x1.toNatClampNeg) + 2) (mI M (253 + 7 + 3 * x1.toNatClampNeg) 5) (ln_k (pt_6_6 hs5 (pa_14 hs5 k0_253 (inlt g10)).2).2) e14) mk_X2_faultOf vk_X2_faultOf rfl wd_882 hR (by decide +kernel) ⟨rfl, rfl⟩ rfl (Nat.le_of_ble_eq_true rfl) dX8_mark_58 (fun hs11 => ?_)
        refine G.istore_n 61 [(3, .int q13.1), (2, .int q7), (0, .ref (zs Z + 0)), (1, .int x1)] dX8_mark_61 rfl (Nat.le_of_ble_eq_true rfl) rfl ?_
        refine G.iload_n 62 0 dX8_mark_62 rfl rfl ?_
        refine G.iconst 63 (-1 : Int32) dX8_mark_63 (by decide +kernel) ?_
        refine G.icmp_eq 64 72 dX8_mark_64 (by decide) (fun h15 => ?_) (fun h15 => ?_)
        · replace hf := (if_pos h15).symm.trans hf
          refine G.aload_n 72 2 dX8_mark_72 rfl rfl ?_
          refine G.getp 73 ck_8 0 1 (hs11.k k0_0) (pc_8_0 hs11) (by decide) (by decide +kernel) wd_400 dX8_mark_73 ?_
          refine G.aload_n 76 2 dX8_mark_76 rfl rfl ?_
          refine G.getp 77 ck_8 4 253 (hs11.k k0_0) (pc_8_4 hs11) (by decide) (by decide +kernel) wd_404 dX8_mark_77 ?_
          refine G.iload_n 80 3 dX8_mark_80 rfl rfl ?_
          refine G.aa 81 x1.toNatClampNeg (253 + 7 + 3 * x1.toNatClampNeg) (hs11.k k0_253) (by decide) rfl rfl g10 rfl (pa_14 hs11 k0_253 (inlt g10)).1 dX8_mark_81 ?_
          refine G.getp 82 ck_6 6 ((253 + 7 + 3 * x1.toNatClampNeg) + 2) (hs11.k (pa_14 hs11 k0_253 (inlt g10)).2) (pt_6_6 hs11 (pa_14 hs11 k0_253 (inlt g10)).2).1 (by decide) (by decide +kernel) wd_384 dX8_mark_82 ?_
          refine G.aload_n 85 2 dX8_mark_85 rfl rfl ?_
          refine G.getp 86 ck_8 4 253 (hs11.k k0_0) (pc_8_4 hs11) (by decide) (by decide +kernel) wd_404 dX8_mark_86 ?_
          refine G.iload_n 89 3 dX8_mark_89 rfl rfl ?_
          refine G.aa 90 x1.toNatClampNeg (253 + 7 + 3 * x1.toNatClampNeg) (hs11.k k0_253) (by decide) rfl rfl g10 rfl (pa_14 hs11 k0_253 (inlt g10)).1 dX8_mark_90 ?_
          refine G.geti 91 ck_6 5 (hs11.k (pa_14 hs11 k0_253 (inlt g10)).2) (by decide) (by decide +kernel) wd_382 dX8_mark_91 ?_
          obtain ⟨q18, e19, hf⟩ := bd_e hf
          refine G.cvI 94 (As := [.ref (zs Z + ((253 + 7 + 3 * x1.toNatClampNeg) + 2)), .int (mI q13.2 (253 + 7 + 3 * x1.toNatClampNeg) 5)]) ck_0 (hs11.k k0_1) (c_X0_addMark Z hs11 1 ((253 + 7 + 3 * x1.toNatClampNeg) + 2) (mI q13.2 (253 + 7 + 3 * x1.toNatClampNeg) 5) k0_1 (ln_k (pt_6_6 hs11 (pa_14 hs11 k0_253 (inlt g10)).2).2) e19) mk_X0_addMark vk_X0_addMark rfl wd_1012 hR (by decide +kernel) ⟨rfl, rfl⟩ rfl (Nat.le_of_ble_eq_true rfl) dX8_mark_94 (fun hs16 => ?_)
          (have hf9 := Option.some.inj hf; subst hf9)
          exact G.rI 97 hq dX8_mark_97 hs16
        · replace hf := (if_neg h15).symm.trans hf
          refine G.bipush 67 (-100 : Int32) dX8_mark_67 (by decide +kernel) ?_
          refine G.iload_n 69 0 dX8_mark_69 rfl rfl ?_
          refine G.isub 70 dX8_mark_70 ?_
          (have hf9 := Option.some.inj hf; subst hf9)
          exact G.rI 71 hq dX8_mark_71 hs11
      · replace hf := (if_neg h9).symm.trans hf
        refine G.iload_n 34 0 dX8_mark_34 rfl rfl ?_
        (have hf9 := Option.some.inj hf; subst hf9)
        exact G.rI 35 hq dX8_mark_35 hs5
    · replace hf := (if_neg h4).symm.trans hf
      refine G.bipush 21 (-2 : Int32) dX8_mark_21 (by decide +kernel) ?_
      (have hf9 := Option.some.inj hf; subst hf9)
      exact G.rI 23 hq dX8_mark_23 hs1
  · replace hf := (if_pos h3).symm.trans hf
    refine G.iconst 7 (-1 : Int32) dX8_mark_7 (by decide +kernel) ?_
    (have hf9 := Option.some.inj hf; subst hf9)
    exact G.rI 8 hq dX8_mark_8 hs1
abbrev Y_X8_marked : My := (cX8_marked, RX8, 2)
def rm_X8_marked : Room := { frames := 8, cells := 0, slots := 0, locals := 359 }
theorem dX8_marked_0 : decode cX8_marked 0 = .ok (.aload_n 0, 1) := by decide +kernel
theorem dX8_marked_1 : decode cX8_marked 1 = .ok (.getfield 10, 3) := by decide +kernel
theorem dX8_marked_4 : decode cX8_marked 4 = .ok (.iload_n 1, 1) := by decide +kernel
theorem dX8_marked_5 : decode cX8_marked 5 = .ok (.invokevirtual 58, 3) := by decide +kernel
theorem dX8_marked_8 : decode cX8_marked 8 = .ok (.ifCond .ne 5, 3) := by decide +kernel
theorem dX8_marked_11 : decode cX8_marked 11 = .ok (.iconst (-1), 1) := by decide +kernel
theorem dX8_marked_12 : decode cX8_marked 12 = .ok (.ireturn, 1) := by decide +kernel
theorem dX8_marked_13 : decode cX8_marked 13 = .ok (.aload_n 0, 1) := by decide +kernel
theorem dX8_marked_14 : decode cX8_marked 14 = .ok (.getfield 10, 3) := by decide +kernel
theorem dX8_marked_17 : decode cX8_marked 17 = .ok (.iload_n 1, 1) := by decide +kernel
theorem dX8_marked_18 : decode cX8_marked 18 = .ok (.invokevirtual 290, 3) := by decide +kernel
theorem dX8_marked_21 : decode cX8_marked 21 = .ok (.ireturn, 1) := by decide +kernel
def f_X8_marked (x1 : Int32) (M : Mem) : Option (Int32 × Mem) := if (f_X0_isHall 1 x1 M) = 0 then some ((-1 : Int32), M) else (f_X0_nameOf 1 x1 M).bind fun q6 => some (q6.1, q6.2)
set_option maxRecDepth 100000 in
set_option maxHeartbeats 4000000 in
theorem c_X8_marked (Z : Sys) {M : Mem} (hs : St M) (x1 : Int32) {q : Int32 × Mem} (hf : f_X8_marked x1 M = some q) : Ct Z yX8_marked cX8_marked 2 (some .int) rm_X8_marked [.ref (zs Z + 0), .int x1] M False (PostI q.1 q.2) := by
  refine Ct.of (by decide +kernel) (Nat.le_of_ble_eq_true rfl) (fun X hR hq _ => ?_)
  show G Z X Y_X8_marked False 0 0 0 [(0, .ref (zs Z + 0)), (1, .int x1)] [] M
  replace hq : RetOk Z X (some .int) False (PostI q.1 q.2) 0 0 := hq
  unfold f_X8_marked at hf
  refine G.aload_n 0 0 dX8_marked_0 rfl rfl ?_
  refine G.getp 1 ck_8 0 1 (hs.k k0_0) (pc_8_0 hs) (by decide) (by decide +kernel) wd_400 dX8_marked_1 ?_
  refine G.iload_n 4 1 dX8_marked_4 rfl rfl ?_
  refine G.cvZ 5 (As := [.int x1]) ck_0 (hs.k k0_1) (c_X0_isHall Z hs 1 x1 k0_1 rfl) mk_X0_isHall vk_X0_isHall rfl wd_444 hR (by decide +kernel) ⟨rfl, rfl⟩ rfl (Nat.le_of_ble_eq_true rfl) dX8_marked_5 (fun hs1 z2 => ?_)
  refine G.if_ne 8 13 dX8_marked_8 (by decide) (fun h3 => ?_) (fun h3 => ?_)
  · replace hf := (if_neg h3).symm.trans hf
    refine G.aload_n 13 0 dX8_marked_13 rfl rfl ?_
    refine G.getp 14 ck_8 0 1 (hs1.k k0_0) (pc_8_0 hs1) (by decide) (by decide +kernel) wd_400 dX8_marked_14 ?_
    refine G.iload_n 17 1 dX8_marked_17 rfl rfl ?_
    obtain ⟨q6, e7, hf⟩ := bd_e hf
    refine G.cvI 18 (As := [.int x1]) ck_0 (hs1.k k0_1) (c_X0_nameOf Z hs1 1 x1 k0_1 e7) mk_X0_nameOf vk_X0_nameOf rfl wd_1020 hR (by decide +kernel) ⟨rfl, rfl⟩ rfl (Nat.le_of_ble_eq_true rfl) dX8_marked_18 (fun hs4 => ?_)
    (have hf9 := Option.some.inj hf; subst hf9)
    exact G.rI 21 hq dX8_marked_21 hs4
  · replace hf := (if_pos h3).symm.trans hf
    refine G.iconst 11 (-1 : Int32) dX8_marked_11 (by decide +kernel) ?_
    (have hf9 := Option.some.inj hf; subst hf9)
    exact G.rI 12 hq dX8_marked_12 hs1
abbrev Y_X8_roundChoices : My := (cX8_roundChoices, RX8, 3)
def rm_X8_roundChoices : Room := { frames := 2, cells := 0, slots := 0, locals := 221 }
theorem dX8_roundChoices_0 : decode cX8_roundChoices 0 = .ok (.iconst 0, 1) := by decide +kernel
theorem dX8_roundChoices_1 : decode cX8_roundChoices 1 = .ok (.istore_n 1, 1) := by decide +kernel
theorem dX8_roundChoices_2 : decode cX8_roundChoices 2 = .ok (.iconst 0, 1) := by decide +kernel
theorem dX8_roundChoices_3 : decode cX8_roundChoices 3 = .ok (.istore_n 2, 1) := by decide +kernel
theorem dX8_roundChoices_4 : decode cX8_roundChoices 4 = .ok (.iload_n 2, 1) := by decide +kernel
theorem dX8_roundChoices_5 : decode cX8_roundChoices 5 = .ok (.iload_n 0, 1) := by decide +kernel
theorem dX8_roundChoices_6 : decode cX8_roundChoices 6 = .ok (.if_icmp .gt 20, 3) := by decide +kernel
theorem dX8_roundChoices_9 : decode cX8_roundChoices 9 = .ok (.iload_n 0, 1) := by decide +kernel
theorem dX8_roundChoices_10 : decode cX8_roundChoices 10 = .ok (.iload_n 2, 1) := by decide +kernel
theorem dX8_roundChoices_11 : decode cX8_roundChoices 11 = .ok (.invokestatic 164, 3) := by decide +kernel
theorem dX8_roundChoices_14 : decode cX8_roundChoices 14 = .ok (.ifCond .eq 6, 3) := by decide +kernel
theorem dX8_roundChoices_17 : decode cX8_roundChoices 17 = .ok (.iinc 1 1, 3) := by decide +kernel
theorem dX8_roundChoices_20 : decode cX8_roundChoices 20 = .ok (.iinc 2 1, 3) := by decide +kernel
theorem dX8_roundChoices_23 : decode cX8_roundChoices 23 = .ok (.goto (-19), 3) := by decide +kernel
theorem dX8_roundChoices_26 : decode cX8_roundChoices 26 = .ok (.iload_n 1, 1) := by decide +kernel
theorem dX8_roundChoices_27 : decode cX8_roundChoices 27 = .ok (.ireturn, 1) := by decide +kernel
def B_X8_roundChoices_20 (rc_4 : Int32 → Int32 → Int32 → Option Int32) (x0 : Int32) (x1 : Int32) (x2 : Int32) : Option Int32 := rc_4 x0 x1 (x2 + 1)
def L_X8_roundChoices_4 : Nat → Int32 → Int32 → Int32 → Option Int32
  | 0, _, _, _ => none
  | n + 1, x0, x1, x2 => if x0 < x2 then some x1 else (f_X8_isRound x0 x2).bind fun q4 => if q4 = 0 then B_X8_roundChoices_20 (L_X8_roundChoices_4 n) x0 x1 x2 else B_X8_roundChoices_20 (L_X8_roundChoices_4 n) x0 (x1 + 1) x2
def f_X8_roundChoices (x0 : Int32) : Option Int32 := L_X8_roundChoices_4 FU x0 (0 : Int32) (0 : Int32)
set_option maxRecDepth 100000 in
set_option maxHeartbeats 4000000 in
theorem b_X8_roundChoices_20 (Z : Sys) (X : Cx) (hR : xR X = rm_X8_roundChoices) {q : Int32} {M : Mem} (hq : RetOk Z X (some .int) False (PostI q M) 0 0) (rc_4 : Int32 → Int32 → Int32 → Option Int32) (hrc_4 : ∀ (x0 : Int32) (x1 : Int32) (x2 : Int32), St M → rc_4 x0 x1 x2 = some q → G Z X Y_X8_roundChoices False 0 0 4 [(0, .int x0), (1, .int x1), (2, .int x2)] [] M) (x0 : Int32) (x1 : Int32) (x2 : Int32) (hs : St M) (hf : B_X8_roundChoices_20 rc_4 x0 x1 x2 = some q) : G Z X Y_X8_roundChoices False 0 0 20 [(0, .int x0), (1, .int x1), (2, .int x2)] [] M := by
  unfold B_X8_roundChoices_20 at hf
  refine G.iinc 20 2 (x2 + 1) [(2, .int (x2 + 1)), (0, .int x0), (1, .int x1)] dX8_roundChoices_20 rfl (congrArg (fun z => x2 + z) (by decide +kernel)) (Nat.le_of_ble_eq_true rfl) rfl ?_
  refine G.goto 23 4 dX8_roundChoices_23 (by decide) ?_
  refine G.locs [1, 2, 0] rfl ?_
  exact hrc_4 x0 x1 (x2 + 1) hs hf
set_option maxRecDepth 100000 in
set_option maxHeartbeats 4000000 in
theorem l_X8_roundChoices_4 (Z : Sys) (X : Cx) (hR : xR X = rm_X8_roundChoices) {q : Int32} {M : Mem} (hq : RetOk Z X (some .int) False (PostI q M) 0 0) : ∀ (n : Nat) (x0 : Int32) (x1 : Int32) (x2 : Int32) (hs : St M) (hf : L_X8_roundChoices_4 n x0 x1 x2 = some q), G Z X Y_X8_roundChoices False 0 0 4 [(0, .int x0), (1, .int x1), (2, .int x2)] [] M := by
  intro n
  induction n with
  | zero => intro x0 x1 x2 hs  hf; cases hf
  | succ n ih =>
    intro x0 x1 x2 hs  hf
    unfold L_X8_roundChoices_4 at hf
    refine G.iload_n 4 2 dX8_roundChoices_4 rfl rfl ?_
    refine G.iload_n 5 0 dX8_roundChoices_5 rfl rfl ?_
    refine G.icmp_gt 6 26 dX8_roundChoices_6 (by decide) (fun h1 => ?_) (fun h1 => ?_)
    · replace hf := (if_pos h1).symm.trans hf
      refine G.iload_n 26 1 dX8_roundChoices_26 rfl rfl ?_
      (have hf9 := Option.some.inj hf; subst hf9)
      exact G.rI 27 hq dX8_roundChoices_27 hs
    · replace hf := (if_neg h1).symm.trans hf
      refine G.iload_n 9 0 dX8_roundChoices_9 rfl rfl ?_
      refine G.iload_n 10 2 dX8_roundChoices_10 rfl rfl ?_
      obtain ⟨q4, e5, hf⟩ := bd_e hf
      refine G.csZ 11 (As := [.int x0, .int x2]) (c_X8_isRound Z hs x0 x2 e5) mk_X8_isRound wd_593 wd_603 hR (by decide +kernel) ⟨rfl, rfl⟩ rfl (Nat.le_of_ble_eq_true rfl) dX8_roundChoices_11 (fun hs2 z3 => ?_)
      refine G.if_eq 14 20 dX8_roundChoices_14 (by decide) (fun h6 => ?_) (fun h6 => ?_)
      · replace hf := (if_pos h6).symm.trans hf
        exact b_X8_roundChoices_20 Z X hR hq (L_X8_roundChoices_4 n) ih x0 x1 x2 hs2 hf
      · replace hf := (if_neg h6).symm.trans hf
        refine G.iinc 17 1 (x1 + 1) [(1, .int (x1 + 1)), (0, .int x0), (2, .int x2)] dX8_roundChoices_17 rfl (congrArg (fun z => x1 + z) (by decide +kernel)) (Nat.le_of_ble_eq_true rfl) rfl ?_
        refine G.locs [1, 0, 2] rfl ?_
        exact b_X8_roundChoices_20 Z X hR hq (L_X8_roundChoices_4 n) ih x0 (x1 + 1) x2 hs2 hf
set_option maxRecDepth 100000 in
set_option maxHeartbeats 4000000 in
theorem c_X8_roundChoices (Z : Sys) {M : Mem} (hs : St M) (x0 : Int32) {q : Int32} (hf : f_X8_roundChoices x0 = some q) : Ct Z yX8_roundChoices cX8_roundChoices 3 (some .int) rm_X8_roundChoices [.int x0] M False (PostI q M) := by
  refine Ct.of (by decide +kernel) (Nat.le_of_ble_eq_true rfl) (fun X hR hq _ => ?_)
  show G Z X Y_X8_roundChoices False 0 0 0 [(0, .int x0)] [] M
  replace hq : RetOk Z X (some .int) False (PostI q M) 0 0 := hq
  unfold f_X8_roundChoices at hf
  refine G.iconst 0 (0 : Int32) dX8_roundChoices_0 (by decide +kernel) ?_
  refine G.istore_n 1 [(1, .int (0 : Int32)), (0, .int x0)] dX8_roundChoices_1 rfl (Nat.le_of_ble_eq_true rfl) rfl ?_
  refine G.iconst 2 (0 : Int32) dX8_roundChoices_2 (by decide +kernel) ?_
  refine G.istore_n 3 [(2, .int (0 : Int32)), (1, .int (0 : Int32)), (0, .int x0)] dX8_roundChoices_3 rfl (Nat.le_of_ble_eq_true rfl) rfl ?_
  refine G.locs [2, 1, 0] rfl ?_
  exact l_X8_roundChoices_4 Z X hR hq FU x0 (0 : Int32) (0 : Int32) hs hf
abbrev Y_X8_may : My := (cX8_may, RX8, 3)
def rm_X8_may : Room := { frames := 3, cells := 0, slots := 0, locals := 243 }
theorem dX8_may_0 : decode cX8_may 0 = .ok (.iload_n 2, 1) := by decide +kernel
theorem dX8_may_1 : decode cX8_may 1 = .ok (.ifCond .ne 19, 3) := by decide +kernel
theorem dX8_may_4 : decode cX8_may 4 = .ok (.iload_n 1, 1) := by decide +kernel
theorem dX8_may_5 : decode cX8_may 5 = .ok (.iconst 1, 1) := by decide +kernel
theorem dX8_may_6 : decode cX8_may 6 = .ok (.sipush 999, 3) := by decide +kernel
theorem dX8_may_9 : decode cX8_may 9 = .ok (.invokestatic 50, 3) := by decide +kernel
theorem dX8_may_12 : decode cX8_may 12 = .ok (.ifCond .eq 8, 3) := by decide +kernel
theorem dX8_may_15 : decode cX8_may 15 = .ok (.iload_n 1, 1) := by decide +kernel
theorem dX8_may_16 : decode cX8_may 16 = .ok (.invokestatic 158, 3) := by decide +kernel
theorem dX8_may_19 : decode cX8_may 19 = .ok (.ireturn, 1) := by decide +kernel
theorem dX8_may_20 : decode cX8_may 20 = .ok (.iload_n 2, 1) := by decide +kernel
theorem dX8_may_21 : decode cX8_may 21 = .ok (.iconst 1, 1) := by decide +kernel
theorem dX8_may_22 : decode cX8_may 22 = .ok (.if_icmp .ne 18, 3) := by decide +kernel
theorem dX8_may_25 : decode cX8_may 25 = .ok (.iload_n 1, 1) := by decide +kernel
theorem dX8_may_26 : decode cX8_may 26 = .ok (.iconst 0, 1) := by decide +kernel
theorem dX8_may_27 : decode cX8_may 27 = .ok (.bipush 100, 2) := by decide +kernel
theorem dX8_may_29 : decode cX8_may 29 = .ok (.invokestatic 50, 3) := by decide +kernel
theorem dX8_may_32 : decode cX8_may 32 = .ok (.ifCond .eq 8, 3) := by decide +kernel
theorem dX8_may_35 : decode cX8_may 35 = .ok (.iload_n 1, 1) := by decide +kernel
theorem dX8_may_36 : decode cX8_may 36 = .ok (.invokestatic 161, 3) := by decide +kernel
theorem dX8_may_39 : decode cX8_may 39 = .ok (.ireturn, 1) := by decide +kernel
theorem dX8_may_40 : decode cX8_may 40 = .ok (.iconst (-1), 1) := by decide +kernel
theorem dX8_may_41 : decode cX8_may 41 = .ok (.ireturn, 1) := by decide +kernel
def B_X8_may_20 (x1 : Int32) (x2 : Int32) : Option Int32 := if x2 = (1 : Int32) then if (f_X8_within x1 (0 : Int32) (100 : Int32)) = 0 then some (-1 : Int32) else (f_X8_leastCame x1).bind fun q8 => some q8 else some (-1 : Int32)
def f_X8_may (x1 : Int32) (x2 : Int32) : Option Int32 := if x2 = 0 then if (f_X8_within x1 (1 : Int32) (999 : Int32)) = 0 then B_X8_may_20 x1 x2 else (f_X8_roundChoices x1).bind fun q15 => some q15 else B_X8_may_20 x1 x2
set_option maxRecDepth 100000 in
set_option maxHeartbeats 4000000 in
theorem b_X8_may_20 (Z : Sys) (X : Cx) (hR : xR X = rm_X8_may) {q : Int32} {M : Mem} (hq : RetOk Z X (some .int) False (PostI q M) 0 0) (x1 : Int32) (x2 : Int32) (hs : St M) (hf : B_X8_may_20 x1 x2 = some q) : G Z X Y_X8_may False 0 0 20 [(1, .int x1), (2, .int x2)] [] M := by
  unfold B_X8_may_20 at hf
  refine G.iload_n 20 1 dX8_may_20 rfl rfl ?_
  refine G.iconst 21 (1 : Int32) dX8_may_21 (by decide +kernel) ?_
  refine G.icmp_ne 22 40 dX8_may_22 (by decide) (fun h2 => ?_) (fun h2 => ?_)
  · replace hf := (if_neg h2).symm.trans hf
    refine G.iconst 40 (-1 : Int32) dX8_may_40 (by decide +kernel) ?_
    (have hf9 := Option.some.inj hf; subst hf9)
    exact G.rI 41 hq dX8_may_41 hs
  · replace hf := (if_pos h2).symm.trans hf
    refine G.iload_n 25 0 dX8_may_25 rfl rfl ?_
    refine G.iconst 26 (0 : Int32) dX8_may_26 (by decide +kernel) ?_
    refine G.bipush 27 (100 : Int32) dX8_may_27 (by decide +kernel) ?_
    refine G.csZ 29 (As := [.int x1, .int (0 : Int32), .int (100 : Int32)]) (c_X8_within Z hs x1 (0 : Int32) (100 : Int32) rfl) mk_X8_within wd_430 wd_429 hR (by decide +kernel) ⟨rfl, rfl⟩ rfl (Nat.le_of_ble_eq_true rfl) dX8_may_29 (fun hs3 z4 => ?_)
    refine G.if_eq 32 40 dX8_may_32 (by decide) (fun h5 => ?_) (fun h5 => ?_)
    · replace hf := (if_pos h5).symm.trans hf
      refine G.iconst 40 (-1 : Int32) dX8_may_40 (by decide +kernel) ?_
      (have hf9 := Option.some.inj hf; subst hf9)
      exact G.rI 41 hq dX8_may_41 hs3
    · replace hf := (if_neg h5).symm.trans hf
      refine G.iload_n 35 0 dX8_may_35 rfl rfl ?_
      obtain ⟨q8, e9, hf⟩ := bd_e hf
      refine G.csI 36 (As := [.int x1]) (c_X8_leastCame Z hs3 x1 e9) mk_X8_leastCame wd_605 wd_604 hR (by decide +kernel) ⟨rfl, rfl⟩ rfl (Nat.le_of_ble_eq_true rfl) dX8_may_36 (fun hs6 => ?_)
      (have hf9 := Option.some.inj hf; subst hf9)
      exact G.rI 39 hq dX8_may_39 hs6
set_option maxRecDepth 100000 in
set_option maxHeartbeats 4000000 in
theorem c_X8_may (Z : Sys) {M : Mem} (hs : St M) (x1 : Int32) (x2 : Int32) {q : Int32} (hf : f_X8_may x1 x2 = some q) : Ct Z yX8_may cX8_may 3 (some .int) rm_X8_may [.ref (zs Z + 0), .int x1, .int x2] M False (PostI q M) := by
  refine Ct.of (by decide +kernel) (Nat.le_of_ble_eq_true rfl) (fun X hR hq _ => ?_)
  show G Z X Y_X8_may False 0 0 0 [(0, .ref (zs Z + 0)), (1, .int x1), (2, .int x2)] [] M
  replace hq : RetOk Z X (some .int) False (PostI q M) 0 0 := hq
  unfold f_X8_may at hf
  refine G.iload_n 0 2 dX8_may_0 rfl rfl ?_
  refine G.if_ne 1 20 dX8_may_1 (by decide) (fun h1 => ?_) (fun h1 => ?_)
  · replace hf := (if_neg h1).symm.trans hf
    refine G.locs [1, 2] rfl ?_
    exact b_X8_may_20 Z X hR hq x1 x2 hs hf
  · replace hf := (if_pos h1).symm.trans hf
    refine G.iload_n 4 1 dX8_may_4 rfl rfl ?_
    refine G.iconst 5 (1 : Int32) dX8_may_5 (by decide +kernel) ?_
    refine G.sipush 6 (999 : Int32) dX8_may_6 (by decide +kernel) ?_
    refine G.csZ 9 (As := [.int x1, .int (1 : Int32), .int (999 : Int32)]) (c_X8_within Z hs x1 (1 : Int32) (999 : Int32) rfl) mk_X8_within wd_430 wd_429 hR (by decide +kernel) ⟨rfl, rfl⟩ rfl (Nat.le_of_ble_eq_true rfl) dX8_may_9 (fun hs10 z11 => ?_)
    refine G.if_eq 12 20 dX8_may_12 (by decide) (fun h12 => ?_) (fun h12 => ?_)
    · replace hf := (if_pos h12).symm.trans hf
      refine G.locs [1, 2] rfl ?_
      exact b_X8_may_20 Z X hR hq x1 x2 hs10 hf
    · replace hf := (if_neg h12).symm.trans hf
      refine G.iload_n 15 1 dX8_may_15 rfl rfl ?_
      obtain ⟨q15, e16, hf⟩ := bd_e hf
      refine G.csI 16 (As := [.int x1]) (c_X8_roundChoices Z hs10 x1 e16) mk_X8_roundChoices wd_601 wd_600 hR (by decide +kernel) ⟨rfl, rfl⟩ rfl (Nat.le_of_ble_eq_true rfl) dX8_may_16 (fun hs13 => ?_)
      (have hf9 := Option.some.inj hf; subst hf9)
      exact G.rI 19 hq dX8_may_19 hs13
abbrev Y_X8_measure : My := (cX8_measure, RX8, 2)
def rm_X8_measure : Room := { frames := 5, cells := 0, slots := 0, locals := 294 }
theorem dX8_measure_0 : decode cX8_measure 0 = .ok (.iload_n 1, 1) := by decide +kernel
theorem dX8_measure_1 : decode cX8_measure 1 = .ok (.iconst 0, 1) := by decide +kernel
theorem dX8_measure_2 : decode cX8_measure 2 = .ok (.iconst 4, 1) := by decide +kernel
theorem dX8_measure_3 : decode cX8_measure 3 = .ok (.invokestatic 50, 3) := by decide +kernel
theorem dX8_measure_6 : decode cX8_measure 6 = .ok (.ifCond .ne 5, 3) := by decide +kernel
theorem dX8_measure_9 : decode cX8_measure 9 = .ok (.iconst (-1), 1) := by decide +kernel
theorem dX8_measure_10 : decode cX8_measure 10 = .ok (.ireturn, 1) := by decide +kernel
theorem dX8_measure_11 : decode cX8_measure 11 = .ok (.aload_n 0, 1) := by decide +kernel
theorem dX8_measure_12 : decode cX8_measure 12 = .ok (.getfield 10, 3) := by decide +kernel
theorem dX8_measure_15 : decode cX8_measure 15 = .ok (.iload_n 1, 1) := by decide +kernel
theorem dX8_measure_16 : decode cX8_measure 16 = .ok (.invokevirtual 259, 3) := by decide +kernel
theorem dX8_measure_19 : decode cX8_measure 19 = .ok (.ireturn, 1) := by decide +kernel
def f_X8_measure (x1 : Int32) (M : Mem) : Option (Int32 × Mem) := if (f_X8_within x1 (0 : Int32) (4 : Int32)) = 0 then some ((-1 : Int32), M) else (f_X0_measured 1 x1 M).bind fun q6 => some (q6.1, q6.2)
set_option maxRecDepth 100000 in
set_option maxHeartbeats 4000000 in
theorem c_X8_measure (Z : Sys) {M : Mem} (hs : St M) (x1 : Int32) {q : Int32 × Mem} (hf : f_X8_measure x1 M = some q) : Ct Z yX8_measure cX8_measure 2 (some .int) rm_X8_measure [.ref (zs Z + 0), .int x1] M False (PostI q.1 q.2) := by
  refine Ct.of (by decide +kernel) (Nat.le_of_ble_eq_true rfl) (fun X hR hq _ => ?_)
  show G Z X Y_X8_measure False 0 0 0 [(0, .ref (zs Z + 0)), (1, .int x1)] [] M
  replace hq : RetOk Z X (some .int) False (PostI q.1 q.2) 0 0 := hq
  unfold f_X8_measure at hf
  refine G.iload_n 0 1 dX8_measure_0 rfl rfl ?_
  refine G.iconst 1 (0 : Int32) dX8_measure_1 (by decide +kernel) ?_
  refine G.iconst 2 (4 : Int32) dX8_measure_2 (by decide +kernel) ?_
  refine G.csZ 3 (As := [.int x1, .int (0 : Int32), .int (4 : Int32)]) (c_X8_within Z hs x1 (0 : Int32) (4 : Int32) rfl) mk_X8_within wd_430 wd_429 hR (by decide +kernel) ⟨rfl, rfl⟩ rfl (Nat.le_of_ble_eq_true rfl) dX8_measure_3 (fun hs1 z2 => ?_)
  refine G.if_ne 6 11 dX8_measure_6 (by decide) (fun h3 => ?_) (fun h3 => ?_)
  · replace hf := (if_neg h3).symm.trans hf
    refine G.aload_n 11 0 dX8_measure_11 rfl rfl ?_
    refine G.getp 12 ck_8 0 1 (hs1.k k0_0) (pc_8_0 hs1) (by decide) (by decide +kernel) wd_400 dX8_measure_12 ?_
    refine G.iload_n 15 1 dX8_measure_15 rfl rfl ?_
    obtain ⟨q6, e7, hf⟩ := bd_e hf
    refine G.cvI 16 (As := [.int x1]) ck_0 (hs1.k k0_1) (c_X0_measured Z hs1 1 x1 k0_1 e7) mk_X0_measured vk_X0_measured rfl wd_813 hR (by decide +kernel) ⟨rfl, rfl⟩ rfl (Nat.le_of_ble_eq_true rfl) dX8_measure_16 (fun hs4 => ?_)
    (have hf9 := Option.some.inj hf; subst hf9)
    exact G.rI 19 hq dX8_measure_19 hs4
  · replace hf := (if_pos h3).symm.trans hf
    refine G.iconst 9 (-1 : Int32) dX8_measure_9 (by decide +kernel) ?_
    (have hf9 := Option.some.inj hf; subst hf9)
    exact G.rI 10 hq dX8_measure_10 hs1
abbrev Y_X8_middle : My := (cX8_middle, RX8, 2)
def rm_X8_middle : Room := { frames := 4, cells := 0, slots := 0, locals := 265 }
theorem dX8_middle_0 : decode cX8_middle 0 = .ok (.iload_n 1, 1) := by decide +kernel
theorem dX8_middle_1 : decode cX8_middle 1 = .ok (.iconst 0, 1) := by decide +kernel
theorem dX8_middle_2 : decode cX8_middle 2 = .ok (.iconst 1, 1) := by decide +kernel
theorem dX8_middle_3 : decode cX8_middle 3 = .ok (.invokestatic 50, 3) := by decide +kernel
theorem dX8_middle_6 : decode cX8_middle 6 = .ok (.ifCond .ne 5, 3) := by decide +kernel
theorem dX8_middle_9 : decode cX8_middle 9 = .ok (.iconst (-1), 1) := by decide +kernel
theorem dX8_middle_10 : decode cX8_middle 10 = .ok (.ireturn, 1) := by decide +kernel
theorem dX8_middle_11 : decode cX8_middle 11 = .ok (.aload_n 0, 1) := by decide +kernel
theorem dX8_middle_12 : decode cX8_middle 12 = .ok (.getfield 10, 3) := by decide +kernel
theorem dX8_middle_15 : decode cX8_middle 15 = .ok (.iload_n 1, 1) := by decide +kernel
theorem dX8_middle_16 : decode cX8_middle 16 = .ok (.invokevirtual 168, 3) := by decide +kernel
theorem dX8_middle_19 : decode cX8_middle 19 = .ok (.ireturn, 1) := by decide +kernel
def f_X8_middle (x1 : Int32) (M : Mem) : Option (Int32 × Mem) := if (f_X8_within x1 (0 : Int32) (1 : Int32)) = 0 then some ((-1 : Int32), M) else (f_X0_middleShare 1 x1 M).bind fun q6 => some (q6.1, q6.2)
set_option maxRecDepth 100000 in
set_option maxHeartbeats 4000000 in
theorem c_X8_middle (Z : Sys) {M : Mem} (hs : St M) (x1 : Int32) {q : Int32 × Mem} (hf : f_X8_middle x1 M = some q) : Ct Z yX8_middle cX8_middle 2 (some .int) rm_X8_middle [.ref (zs Z + 0), .int x1] M False (PostI q.1 q.2) := by
  refine Ct.of (by decide +kernel) (Nat.le_of_ble_eq_true rfl) (fun X hR hq _ => ?_)
  show G Z X Y_X8_middle False 0 0 0 [(0, .ref (zs Z + 0)), (1, .int x1)] [] M
  replace hq : RetOk Z X (some .int) False (PostI q.1 q.2) 0 0 := hq
  unfold f_X8_middle at hf
  refine G.iload_n 0 1 dX8_middle_0 rfl rfl ?_
  refine G.iconst 1 (0 : Int32) dX8_middle_1 (by decide +kernel) ?_
  refine G.iconst 2 (1 : Int32) dX8_middle_2 (by decide +kernel) ?_
  refine G.csZ 3 (As := [.int x1, .int (0 : Int32), .int (1 : Int32)]) (c_X8_within Z hs x1 (0 : Int32) (1 : Int32) rfl) mk_X8_within wd_430 wd_429 hR (by decide +kernel) ⟨rfl, rfl⟩ rfl (Nat.le_of_ble_eq_true rfl) dX8_middle_3 (fun hs1 z2 => ?_)
  refine G.if_ne 6 11 dX8_middle_6 (by decide) (fun h3 => ?_) (fun h3 => ?_)
  · replace hf := (if_neg h3).symm.trans hf
    refine G.aload_n 11 0 dX8_middle_11 rfl rfl ?_
    refine G.getp 12 ck_8 0 1 (hs1.k k0_0) (pc_8_0 hs1) (by decide) (by decide +kernel) wd_400 dX8_middle_12 ?_
    refine G.iload_n 15 1 dX8_middle_15 rfl rfl ?_
    obtain ⟨q6, e7, hf⟩ := bd_e hf
    refine G.cvI 16 (As := [.int x1]) ck_0 (hs1.k k0_1) (c_X0_middleShare Z hs1 1 x1 k0_1 e7) mk_X0_middleShare vk_X0_middleShare rfl wd_611 hR (by decide +kernel) ⟨rfl, rfl⟩ rfl (Nat.le_of_ble_eq_true rfl) dX8_middle_16 (fun hs4 => ?_)
    (have hf9 := Option.some.inj hf; subst hf9)
    exact G.rI 19 hq dX8_middle_19 hs4
  · replace hf := (if_pos h3).symm.trans hf
    refine G.iconst 9 (-1 : Int32) dX8_middle_9 (by decide +kernel) ?_
    (have hf9 := Option.some.inj hf; subst hf9)
    exact G.rI 10 hq dX8_middle_10 hs1
abbrev Y_X8_odd : My := (cX8_odd, RX8, 7)
def rm_X8_odd : Room := { frames := 5, cells := 0, slots := 0, locals := 294 }
theorem dX8_odd_0 : decode cX8_odd 0 = .ok (.iload_n 1, 1) := by decide +kernel
theorem dX8_odd_1 : decode cX8_odd 1 = .ok (.iconst 0, 1) := by decide +kernel
theorem dX8_odd_2 : decode cX8_odd 2 = .ok (.iconst 4, 1) := by decide +kernel
theorem dX8_odd_3 : decode cX8_odd 3 = .ok (.invokestatic 50, 3) := by decide +kernel
theorem dX8_odd_6 : decode cX8_odd 6 = .ok (.ifCond .eq 13, 3) := by decide +kernel
theorem dX8_odd_9 : decode cX8_odd 9 = .ok (.iload_n 2, 1) := by decide +kernel
theorem dX8_odd_10 : decode cX8_odd 10 = .ok (.iconst 1, 1) := by decide +kernel
theorem dX8_odd_11 : decode cX8_odd 11 = .ok (.bipush 50, 2) := by decide +kernel
theorem dX8_odd_13 : decode cX8_odd 13 = .ok (.invokestatic 50, 3) := by decide +kernel
theorem dX8_odd_16 : decode cX8_odd 16 = .ok (.ifCond .ne 5, 3) := by decide +kernel
theorem dX8_odd_19 : decode cX8_odd 19 = .ok (.iconst (-1), 1) := by decide +kernel
theorem dX8_odd_20 : decode cX8_odd 20 = .ok (.ireturn, 1) := by decide +kernel
theorem dX8_odd_21 : decode cX8_odd 21 = .ok (.aload_n 0, 1) := by decide +kernel
theorem dX8_odd_22 : decode cX8_odd 22 = .ok (.getfield 10, 3) := by decide +kernel
theorem dX8_odd_25 : decode cX8_odd 25 = .ok (.iload_n 1, 1) := by decide +kernel
theorem dX8_odd_26 : decode cX8_odd 26 = .ok (.invokevirtual 259, 3) := by decide +kernel
theorem dX8_odd_29 : decode cX8_odd 29 = .ok (.istore 4, 2) := by decide +kernel
theorem dX8_odd_31 : decode cX8_odd 31 = .ok (.iconst 0, 1) := by decide +kernel
theorem dX8_odd_32 : decode cX8_odd 32 = .ok (.istore 5, 2) := by decide +kernel
theorem dX8_odd_34 : decode cX8_odd 34 = .ok (.aload_n 0, 1) := by decide +kernel
theorem dX8_odd_35 : decode cX8_odd 35 = .ok (.getfield 19, 3) := by decide +kernel
theorem dX8_odd_38 : decode cX8_odd 38 = .ok (.aload_n 0, 1) := by decide +kernel
theorem dX8_odd_39 : decode cX8_odd 39 = .ok (.getfield 10, 3) := by decide +kernel
theorem dX8_odd_42 : decode cX8_odd 42 = .ok (.invokevirtual 262, 3) := by decide +kernel
theorem dX8_odd_45 : decode cX8_odd 45 = .ok (.iconst 0, 1) := by decide +kernel
theorem dX8_odd_46 : decode cX8_odd 46 = .ok (.istore 6, 2) := by decide +kernel
theorem dX8_odd_48 : decode cX8_odd 48 = .ok (.iload 6, 2) := by decide +kernel
theorem dX8_odd_50 : decode cX8_odd 50 = .ok (.iload_n 2, 1) := by decide +kernel
theorem dX8_odd_51 : decode cX8_odd 51 = .ok (.if_icmp .ge 44, 3) := by decide +kernel
theorem dX8_odd_54 : decode cX8_odd 54 = .ok (.aload_n 0, 1) := by decide +kernel
theorem dX8_odd_55 : decode cX8_odd 55 = .ok (.getfield 19, 3) := by decide +kernel
theorem dX8_odd_58 : decode cX8_odd 58 = .ok (.iload_n 3, 1) := by decide +kernel
theorem dX8_odd_59 : decode cX8_odd 59 = .ok (.iload 6, 2) := by decide +kernel
theorem dX8_odd_61 : decode cX8_odd 61 = .ok (.iadd, 1) := by decide +kernel
theorem dX8_odd_62 : decode cX8_odd 62 = .ok (.invokevirtual 265, 3) := by decide +kernel
theorem dX8_odd_65 : decode cX8_odd 65 = .ok (.pop, 1) := by decide +kernel
theorem dX8_odd_66 : decode cX8_odd 66 = .ok (.aload_n 0, 1) := by decide +kernel
theorem dX8_odd_67 : decode cX8_odd 67 = .ok (.getfield 19, 3) := by decide +kernel
theorem dX8_odd_70 : decode cX8_odd 70 = .ok (.invokevirtual 268, 3) := by decide +kernel
theorem dX8_odd_73 : decode cX8_odd 73 = .ok (.aload_n 0, 1) := by decide +kernel
theorem dX8_odd_74 : decode cX8_odd 74 = .ok (.getfield 19, 3) := by decide +kernel
theorem dX8_odd_77 : decode cX8_odd 77 = .ok (.iload_n 1, 1) := by decide +kernel
theorem dX8_odd_78 : decode cX8_odd 78 = .ok (.invokevirtual 259, 3) := by decide +kernel
theorem dX8_odd_81 : decode cX8_odd 81 = .ok (.iload 4, 2) := by decide +kernel
theorem dX8_odd_83 : decode cX8_odd 83 = .ok (.if_icmp .lt 6, 3) := by decide +kernel
theorem dX8_odd_86 : decode cX8_odd 86 = .ok (.iinc 5 1, 3) := by decide +kernel
theorem dX8_odd_89 : decode cX8_odd 89 = .ok (.iinc 6 1, 3) := by decide +kernel
theorem dX8_odd_92 : decode cX8_odd 92 = .ok (.goto (-44), 3) := by decide +kernel
theorem dX8_odd_95 : decode cX8_odd 95 = .ok (.iload 5, 2) := by decide +kernel
theorem dX8_odd_97 : decode cX8_odd 97 = .ok (.ireturn, 1) := by decide +kernel
def B_X8_odd_89 (rc_48 : Int32 → Int32 → Int32 → Int32 → Int32 → Int32 → Mem → Option (Int32 × Mem)) (x1 : Int32) (x2 : Int32) (x3 : Int32) (x4 : Int32) (x5 : Int32) (x6 : Int32) (M : Mem) : Option (Int32 × Mem) := rc_48 x1 x2 x3 x4 x5 (x6 + 1) M
def L_X8_odd_48 : Nat → Int32 → Int32 → Int32 → Int32 → Int32 → Int32 → Mem → Option (Int32 × Mem)
  | 0, _, _, _, _, _, _, _ => none
  | n + 1, x1, x2, x3, x4, x5, x6, M => if x2 ≤ x6 then some (x5, M) else (f_X0_becomeHonest 169 (x3 + x6) M).bind fun q18 => (f_X0_writeTruth 169 q18.2).bind fun q22 => (f_X0_measured 169 x1 q22).bind fun q26 => if q26.1 < x4 then B_X8_odd_89 (L_X8_odd_48 n) x1 x2 x3 x4 x5 x6 q26.2 else B_X8_odd_89 (L_X8_odd_48 n) x1 x2 x3 x4 (x5 + 1) x6 q26.2
def f_X8_odd (x1 : Int32) (x2 : Int32) (x3 : Int32) (M : Mem) : Option (Int32 × Mem) := if (f_X8_within x1 (0 : Int32) (4 : Int32)) = 0 then some ((-1 : Int32), M) else if (f_X8_within x2 (1 : Int32) (50 : Int32)) = 0 then some ((-1 : Int32), M) else (f_X0_measured 1 x1 M).bind fun q9 => (f_X0_copyFrom 169 1 q9.2).bind fun q13 => L_X8_odd_48 FU x1 x2 x3 q9.1 (0 : Int32) (0 : Int32) q13
set_option maxRecDepth 100000 in
set_option maxHeartbeats 4000000 in
theorem b_X8_odd_89 (Z : Sys) (X : Cx) (hR : xR X = rm_X8_odd) {q : Int32 × Mem} (hq : RetOk Z X (some .int) False (PostI q.1 q.2) 0 0) (rc_48 : Int32 → Int32 → Int32 → Int32 → Int32 → Int32 → Mem → Option (Int32 × Mem)) (hrc_48 : ∀ (x1 : Int32) (x2 : Int32) (x3 : Int32) (x4 : Int32) (x5 : Int32) (x6 : Int32) (M : Mem), St M → rc_48 x1 x2 x3 x4 x5 x6 M = some q → G Z X Y_X8_odd False 0 0 48 [(0, .ref (zs Z + 0)), (1, .int x1), (2, .int x2), (3, .int x3), (4, .int x4), (5, .int x5), (6, .int x6)] [] M) (x1 : Int32) (x2 : Int32) (x3 : Int32) (x4 : Int32) (x5 : Int32) (x6 : Int32) {M : Mem} (hs : St M) (hf : B_X8_odd_89 rc_48 x1 x2 x3 x4 x5 x6 M = some q) : G Z X Y_X8_odd False 0 0 89 [(0, .ref (zs Z + 0)), (1, .int x1), (2, .int x2), (3, .int x3), (4, .int x4), (5, .int x5), (6, .int x6)] [] M := by
  unfold B_X8_odd_89 at hf
  refine G.iinc 89 6 (x6 + 1) [(6, .int (x6 + 1)), (0, .ref (zs Z + 0)), (1, .int x1), (2, .int x2), (3, .int x3), (4, .int x4), (5, .int x5)] dX8_odd_89 rfl (congrArg (fun z => x6 + z) (by decide +kernel)) (Nat.le_of_ble_eq_true rfl) rfl ?_
  refine G.goto 92 48 dX8_odd_92 (by decide) ?_
  refine G.locs [1, 2, 3, 4, 5, 6, 0] rfl ?_
  exact hrc_48 x1 x2 x3 x4 x5 (x6 + 1) M hs hf
set_option maxRecDepth 100000 in
set_option maxHeartbeats 4000000 in
theorem l_X8_odd_48 (Z : Sys) (X : Cx) (hR : xR X = rm_X8_odd) {q : Int32 × Mem} (hq : RetOk Z X (some .int) False (PostI q.1 q.2) 0 0) : ∀ (n : Nat) (x1 : Int32) (x2 : Int32) (x3 : Int32) (x4 : Int32) (x5 : Int32) (x6 : Int32) (M : Mem) (hs : St M) (hf : L_X8_odd_48 n x1 x2 x3 x4 x5 x6 M = some q), G Z X Y_X8_odd False 0 0 48 [(0, .ref (zs Z + 0)), (1, .int x1), (2, .int x2), (3, .int x3), (4, .int x4), (5, .int x5), (6, .int x6)] [] M := by
  intro n
  induction n with
  | zero => intro x1 x2 x3 x4 x5 x6 M hs  hf; cases hf
  | succ n ih =>
    intro x1 x2 x3 x4 x5 x6 M hs  hf
    unfold L_X8_odd_48 at hf
    refine G.iload 48 6 dX8_odd_48 rfl ?_
    refine G.iload_n 50 2 dX8_odd_50 rfl rfl ?_
    refine G.icmp_ge 51 95 dX8_odd_51 (by decide) (fun h15 => ?_) (fun h15 => ?_)
    · replace hf := (if_pos h15).symm.trans hf
      refine G.iload 95 5 dX8_odd_95 rfl ?_
      (have hf9 := Option.some.inj hf; subst hf9)
      exact G.rI 97 hq dX8_odd_97 hs
    · replace hf := (if_neg h15).symm.trans hf
      refine G.aload_n 54 0 dX8_odd_54 rfl rfl ?_
      refine G.getp 55 ck_8 2 169 (hs.k k0_0) (pc_8_2 hs) (by decide) (by decide +kernel) wd_402 dX8_odd_55 ?_
      refine G.iload_n 58 3 dX8_odd_58 rfl rfl ?_
      refine G.iload 59 6 dX8_odd_59 rfl ?_
      refine G.iadd 61 dX8_odd_61 ?_
      obtain ⟨q18, e19, hf⟩ := bd_e hf
      refine G.cvI 62 (As := [.int (x3 + x6)]) ck_0 (hs.k k0_169) (c_X0_becomeHonest Z hs 169 (x3 + x6) k0_169 e19) mk_X0_becomeHonest vk_X0_becomeHonest rfl wd_846 hR (by decide +kernel) ⟨rfl, rfl⟩ rfl (Nat.le_of_ble_eq_true rfl) dX8_odd_62 (fun hs16 => ?_)
      refine G.pop 65 dX8_odd_65 rfl ?_
      refine G.aload_n 66 0 dX8_odd_66 rfl rfl ?_
      refine G.getp 67 ck_8 2 169 (hs16.k k0_0) (pc_8_2 hs16) (by decide) (by decide +kernel) wd_402 dX8_odd_67 ?_
      obtain ⟨q22, e23, hf⟩ := bd_e hf
      refine G.cvV 70 (As := []) ck_0 (hs16.k k0_169) (c_X0_writeTruth Z hs16 169 k0_169 e23) mk_X0_writeTruth vk_X0_writeTruth rfl wd_861 hR (by decide +kernel) ⟨rfl, rfl⟩ rfl (Nat.le_of_ble_eq_true rfl) dX8_odd_70 (fun hs20 => ?_)
      refine G.aload_n 73 0 dX8_odd_73 rfl rfl ?_
      refine G.getp 74 ck_8 2 169 (hs20.k k0_0) (pc_8_2 hs20) (by decide) (by decide +kernel) wd_402 dX8_odd_74 ?_
      refine G.iload_n 77 1 dX8_odd_77 rfl rfl ?_
      obtain ⟨q26, e27, hf⟩ := bd_e hf
      refine G.cvI 78 (As := [.int x1]) ck_0 (hs20.k k0_169) (c_X0_measured Z hs20 169 x1 k0_169 e27) mk_X0_measured vk_X0_measured rfl wd_813 hR (by decide +kernel) ⟨rfl, rfl⟩ rfl (Nat.le_of_ble_eq_true rfl) dX8_odd_78 (fun hs24 => ?_)
      refine G.iload 81 4 dX8_odd_81 rfl ?_
      refine G.icmp_lt 83 89 dX8_odd_83 (by decide) (fun h28 => ?_) (fun h28 => ?_)
      · replace hf := (if_pos h28).symm.trans hf
        exact b_X8_odd_89 Z X hR hq (L_X8_odd_48 n) ih x1 x2 x3 x4 x5 x6 hs24 hf
      · replace hf := (if_neg h28).symm.trans hf
        refine G.iinc 86 5 (x5 + 1) [(5, .int (x5 + 1)), (0, .ref (zs Z + 0)), (1, .int x1), (2, .int x2), (3, .int x3), (4, .int x4), (6, .int x6)] dX8_odd_86 rfl (congrArg (fun z => x5 + z) (by decide +kernel)) (Nat.le_of_ble_eq_true rfl) rfl ?_
        refine G.locs [1, 2, 3, 4, 5, 0, 6] rfl ?_
        exact b_X8_odd_89 Z X hR hq (L_X8_odd_48 n) ih x1 x2 x3 x4 (x5 + 1) x6 hs24 hf
set_option maxRecDepth 100000 in
set_option maxHeartbeats 4000000 in
theorem c_X8_odd (Z : Sys) {M : Mem} (hs : St M) (x1 : Int32) (x2 : Int32) (x3 : Int32) {q : Int32 × Mem} (hf : f_X8_odd x1 x2 x3 M = some q) : Ct Z yX8_odd cX8_odd 7 (some .int) rm_X8_odd [.ref (zs Z + 0), .int x1, .int x2, .int x3] M False (PostI q.1 q.2) := by
  refine Ct.of (by decide +kernel) (Nat.le_of_ble_eq_true rfl) (fun X hR hq _ => ?_)
  show G Z X Y_X8_odd False 0 0 0 [(0, .ref (zs Z + 0)), (1, .int x1), (2, .int x2), (3, .int x3)] [] M
  replace hq : RetOk Z X (some .int) False (PostI q.1 q.2) 0 0 := hq
  unfold f_X8_odd at hf
  refine G.iload_n 0 1 dX8_odd_0 rfl rfl ?_
  refine G.iconst 1 (0 : Int32) dX8_odd_1 (by decide +kernel) ?_
  refine G.iconst 2 (4 : Int32) dX8_odd_2 (by decide +kernel) ?_
  refine G.csZ 3 (As := [.int x1, .int (0 : Int32), .int (4 : Int32)]) (c_X8_within Z hs x1 (0 : Int32) (4 : Int32) rfl) mk_X8_within wd_430 wd_429 hR (by decide +kernel) ⟨rfl, rfl⟩ rfl (Nat.le_of_ble_eq_true rfl) dX8_odd_3 (fun hs1 z2 => ?_)
  refine G.if_eq 6 19 dX8_odd_6 (by decide) (fun h3 => ?_) (fun h3 => ?_)
  · replace hf := (if_pos h3).symm.trans hf
    refine G.iconst 19 (-1 : Int32) dX8_odd_19 (by decide +kernel) ?_
    (have hf9 := Option.some.inj hf; subst hf9)
    exact G.rI 20 hq dX8_odd_20 hs1
  · replace hf := (if_neg h3).symm.trans hf
    refine G.iload_n 9 2 dX8_odd_9 rfl rfl ?_
    refine G.iconst 10 (1 : Int32) dX8_odd_10 (by decide +kernel) ?_
    refine G.bipush 11 (50 : Int32) dX8_odd_11 (by decide +kernel) ?_
    refine G.csZ 13 (As := [.int x2, .int (1 : Int32), .int (50 : Int32)]) (c_X8_within Z hs1 x2 (1 : Int32) (50 : Int32) rfl) mk_X8_within wd_430 wd_429 hR (by decide +kernel) ⟨rfl, rfl⟩ rfl (Nat.le_of_ble_eq_true rfl) dX8_odd_13 (fun hs4 z5 => ?_)
    refine G.if_ne 16 21 dX8_odd_16 (by decide) (fun h6 => ?_) (fun h6 => ?_)
    · replace hf := (if_neg h6).symm.trans hf
      refine G.aload_n 21 0 dX8_odd_21 rfl rfl ?_
      refine G.getp 22 ck_8 0 1 (hs4.k k0_0) (pc_8_0 hs4) (by decide) (by decide +kernel) wd_400 dX8_odd_22 ?_
      refine G.iload_n 25 1 dX8_odd_25 rfl rfl ?_
      obtain ⟨q9, e10, hf⟩ := bd_e hf
      refine G.cvI 26 (As := [.int x1]) ck_0 (hs4.k k0_1) (c_X0_measured Z hs4 1 x1 k0_1 e10) mk_X0_measured vk_X0_measured rfl wd_813 hR (by decide +kernel) ⟨rfl, rfl⟩ rfl (Nat.le_of_ble_eq_true rfl) dX8_odd_26 (fun hs7 => ?_)
      refine G.istore 29 [(4, .int q9.1), (0, .ref (zs Z + 0)), (1, .int x1), (2, .int x2), (3, .int x3)] dX8_odd_29 (Nat.le_of_ble_eq_true rfl) rfl ?_
      refine G.iconst 31 (0 : Int32) dX8_odd_31 (by decide +kernel) ?_
      refine G.istore 32 [(5, .int (0 : Int32)), (4, .int q9.1), (0, .ref (zs Z + 0)), (1, .int x1), (2, .int x2), (3, .int x3)] dX8_odd_32 (Nat.le_of_ble_eq_true rfl) rfl ?_
      refine G.aload_n 34 2 dX8_odd_34 rfl rfl ?_
      refine G.getp 35 ck_8 2 169 (hs7.k k0_0) (pc_8_2 hs7) (by decide) (by decide +kernel) wd_402 dX8_odd_35 ?_
      refine G.aload_n 38 2 dX8_odd_38 rfl rfl ?_
      refine G.getp 39 ck_8 0 1 (hs7.k k0_0) (pc_8_0 hs7) (by decide) (by decide +kernel) wd_400 dX8_odd_39 ?_
      obtain ⟨q13, e14, hf⟩ := bd_e hf
      refine G.cvV 42 (As := [.ref (zs Z + 1)]) ck_0 (hs7.k k0_169) (c_X0_copyFrom Z hs7 169 1 k0_169 k0_1 e14) mk_X0_copyFrom vk_X0_copyFrom rfl wd_831 hR (by decide +kernel) ⟨rfl, rfl⟩ rfl (Nat.le_of_ble_eq_true rfl) dX8_odd_42 (fun hs11 => ?_)
      refine G.iconst 45 (0 : Int32) dX8_odd_45 (by decide +kernel) ?_
      refine G.istore 46 [(6, .int (0 : Int32)), (5, .int (0 : Int32)), (4, .int q9.1), (0, .ref (zs Z + 0)), (1, .int x1), (2, .int x2), (3, .int x3)] dX8_odd_46 (Nat.le_of_ble_eq_true rfl) rfl ?_
      refine G.locs [3, 4, 5, 6, 2, 1, 0] rfl ?_
      exact l_X8_odd_48 Z X hR hq FU x1 x2 x3 q9.1 (0 : Int32) (0 : Int32) q13 hs11 hf
    · replace hf := (if_pos h6).symm.trans hf
      refine G.iconst 19 (-1 : Int32) dX8_odd_19 (by decide +kernel) ?_
      (have hf9 := Option.some.inj hf; subst hf9)
      exact G.rI 20 hq dX8_odd_20 hs4
abbrev Y_X8_odds : My := (cX8_odds, RX8, 2)
def rm_X8_odds : Room := { frames := 3, cells := 0, slots := 0, locals := 253 }
theorem dX8_odds_0 : decode cX8_odds 0 = .ok (.iload_n 1, 1) := by decide +kernel
theorem dX8_odds_1 : decode cX8_odds 1 = .ok (.iconst 0, 1) := by decide +kernel
theorem dX8_odds_2 : decode cX8_odds 2 = .ok (.bipush 9, 2) := by decide +kernel
theorem dX8_odds_4 : decode cX8_odds 4 = .ok (.invokestatic 50, 3) := by decide +kernel
theorem dX8_odds_7 : decode cX8_odds 7 = .ok (.ifCond .ne 7, 3) := by decide +kernel
theorem dX8_odds_10 : decode cX8_odds 10 = .ok (.ldc2_w 149, 3) := by decide +kernel
theorem dX8_odds_13 : decode cX8_odds 13 = .ok (.lreturn, 1) := by decide +kernel
theorem dX8_odds_14 : decode cX8_odds 14 = .ok (.aload_n 0, 1) := by decide +kernel
theorem dX8_odds_15 : decode cX8_odds 15 = .ok (.getfield 10, 3) := by decide +kernel
theorem dX8_odds_18 : decode cX8_odds 18 = .ok (.iload_n 1, 1) := by decide +kernel
theorem dX8_odds_19 : decode cX8_odds 19 = .ok (.invokevirtual 151, 3) := by decide +kernel
theorem dX8_odds_22 : decode cX8_odds 22 = .ok (.lreturn, 1) := by decide +kernel
def f_X8_odds (x1 : Int32) (M : Mem) : Option Int64 := if (f_X8_within x1 (0 : Int32) (9 : Int32)) = 0 then some (-1 : Int64) else (f_X0_rowsWithFigure 1 x1 M).bind fun q6 => some q6
set_option maxRecDepth 100000 in
set_option maxHeartbeats 4000000 in
theorem c_X8_odds (Z : Sys) {M : Mem} (hs : St M) (x1 : Int32) {q : Int64} (hf : f_X8_odds x1 M = some q) : Ct Z yX8_odds cX8_odds 2 (some .long) rm_X8_odds [.ref (zs Z + 0), .int x1] M False (PostL q M) := by
  refine Ct.of (by decide +kernel) (Nat.le_of_ble_eq_true rfl) (fun X hR hq _ => ?_)
  show G Z X Y_X8_odds False 0 0 0 [(0, .ref (zs Z + 0)), (1, .int x1)] [] M
  replace hq : RetOk Z X (some .long) False (PostL q M) 0 0 := hq
  unfold f_X8_odds at hf
  refine G.iload_n 0 1 dX8_odds_0 rfl rfl ?_
  refine G.iconst 1 (0 : Int32) dX8_odds_1 (by decide +kernel) ?_
  refine G.bipush 2 (9 : Int32) dX8_odds_2 (by decide +kernel) ?_
  refine G.csZ 4 (As := [.int x1, .int (0 : Int32), .int (9 : Int32)]) (c_X8_within Z hs x1 (0 : Int32) (9 : Int32) rfl) mk_X8_within wd_430 wd_429 hR (by decide +kernel) ⟨rfl, rfl⟩ rfl (Nat.le_of_ble_eq_true rfl) dX8_odds_4 (fun hs1 z2 => ?_)
  refine G.if_ne 7 14 dX8_odds_7 (by decide) (fun h3 => ?_) (fun h3 => ?_)
  · replace hf := (if_neg h3).symm.trans hf
    refine G.aload_n 14 0 dX8_odds_14 rfl rfl ?_
    refine G.getp 15 ck_8 0 1 (hs1.k k0_0) (pc_8_0 hs1) (by decide) (by decide +kernel) wd_400 dX8_odds_15 ?_
    refine G.iload_n 18 1 dX8_odds_18 rfl rfl ?_
    obtain ⟨q6, e7, hf⟩ := bd_e hf
    refine G.cvL 19 (As := [.int x1]) ck_0 (hs1.k k0_1) (c_X0_rowsWithFigure Z hs1 1 x1 k0_1 e7) mk_X0_rowsWithFigure vk_X0_rowsWithFigure rfl wd_576 hR (by decide +kernel) ⟨rfl, rfl⟩ rfl (Nat.le_of_ble_eq_true rfl) dX8_odds_19 (fun hs4 => ?_)
    (have hf9 := Option.some.inj hf; subst hf9)
    exact G.rL 22 hq dX8_odds_22 hs4
  · replace hf := (if_pos h3).symm.trans hf
    refine G.ldc2 10 (-1 : Int64) wd_575 dX8_odds_10 ?_
    (have hf9 := Option.some.inj hf; subst hf9)
    exact G.rL 13 hq dX8_odds_13 hs1
abbrev Y_X8_of : My := (cX8_of, RX8, 4)
def rm_X8_of : Room := { frames := 5, cells := 0, slots := 0, locals := 287 }
theorem dX8_of_0 : decode cX8_of 0 = .ok (.aload_n 0, 1) := by decide +kernel
theorem dX8_of_1 : decode cX8_of 1 = .ok (.getfield 10, 3) := by decide +kernel
theorem dX8_of_4 : decode cX8_of 4 = .ok (.iload_n 1, 1) := by decide +kernel
theorem dX8_of_5 : decode cX8_of 5 = .ok (.invokevirtual 58, 3) := by decide +kernel
theorem dX8_of_8 : decode cX8_of 8 = .ok (.ifCond .ne 5, 3) := by decide +kernel
theorem dX8_of_11 : decode cX8_of 11 = .ok (.iconst (-1), 1) := by decide +kernel
theorem dX8_of_12 : decode cX8_of 12 = .ok (.ireturn, 1) := by decide +kernel
theorem dX8_of_13 : decode cX8_of 13 = .ok (.aload_n 0, 1) := by decide +kernel
theorem dX8_of_14 : decode cX8_of 14 = .ok (.getfield 10, 3) := by decide +kernel
theorem dX8_of_17 : decode cX8_of 17 = .ok (.getfield 62, 3) := by decide +kernel
theorem dX8_of_20 : decode cX8_of 20 = .ok (.iload_n 1, 1) := by decide +kernel
theorem dX8_of_21 : decode cX8_of 21 = .ok (.aaload, 1) := by decide +kernel
theorem dX8_of_22 : decode cX8_of 22 = .ok (.astore_n 3, 1) := by decide +kernel
theorem dX8_of_23 : decode cX8_of 23 = .ok (.iload_n 2, 1) := by decide +kernel
theorem dX8_of_24 : decode cX8_of 24 = .ok (.tableswitch 145 0 8 #[52, 57, 62, 67, 72, 86, 103, 120, 137], 52) := by decide +kernel
theorem dX8_of_76 : decode cX8_of 76 = .ok (.aload_n 3, 1) := by decide +kernel
theorem dX8_of_77 : decode cX8_of 77 = .ok (.getfield 66, 3) := by decide +kernel
theorem dX8_of_80 : decode cX8_of 80 = .ok (.ireturn, 1) := by decide +kernel
theorem dX8_of_81 : decode cX8_of 81 = .ok (.aload_n 3, 1) := by decide +kernel
theorem dX8_of_82 : decode cX8_of 82 = .ok (.getfield 72, 3) := by decide +kernel
theorem dX8_of_85 : decode cX8_of 85 = .ok (.ireturn, 1) := by decide +kernel
theorem dX8_of_86 : decode cX8_of 86 = .ok (.aload_n 3, 1) := by decide +kernel
theorem dX8_of_87 : decode cX8_of 87 = .ok (.getfield 75, 3) := by decide +kernel
theorem dX8_of_90 : decode cX8_of 90 = .ok (.ireturn, 1) := by decide +kernel
theorem dX8_of_91 : decode cX8_of 91 = .ok (.aload_n 3, 1) := by decide +kernel
theorem dX8_of_92 : decode cX8_of 92 = .ok (.invokevirtual 98, 3) := by decide +kernel
theorem dX8_of_95 : decode cX8_of 95 = .ok (.ireturn, 1) := by decide +kernel
theorem dX8_of_96 : decode cX8_of 96 = .ok (.aload_n 3, 1) := by decide +kernel
theorem dX8_of_97 : decode cX8_of 97 = .ok (.aload_n 0, 1) := by decide +kernel
theorem dX8_of_98 : decode cX8_of 98 = .ok (.getfield 10, 3) := by decide +kernel
theorem dX8_of_101 : decode cX8_of 101 = .ok (.getfield 94, 3) := by decide +kernel
theorem dX8_of_104 : decode cX8_of 104 = .ok (.iconst 0, 1) := by decide +kernel
theorem dX8_of_105 : decode cX8_of 105 = .ok (.iaload, 1) := by decide +kernel
theorem dX8_of_106 : decode cX8_of 106 = .ok (.invokevirtual 102, 3) := by decide +kernel
theorem dX8_of_109 : decode cX8_of 109 = .ok (.ireturn, 1) := by decide +kernel
theorem dX8_of_110 : decode cX8_of 110 = .ok (.aload_n 3, 1) := by decide +kernel
theorem dX8_of_111 : decode cX8_of 111 = .ok (.getfield 105, 3) := by decide +kernel
theorem dX8_of_114 : decode cX8_of 114 = .ok (.ifCond .eq 8, 3) := by decide +kernel
theorem dX8_of_117 : decode cX8_of 117 = .ok (.bipush (-4), 2) := by decide +kernel
theorem dX8_of_119 : decode cX8_of 119 = .ok (.goto 7, 3) := by decide +kernel
theorem dX8_of_122 : decode cX8_of 122 = .ok (.aload_n 3, 1) := by decide +kernel
theorem dX8_of_123 : decode cX8_of 123 = .ok (.getfield 109, 3) := by decide +kernel
theorem dX8_of_126 : decode cX8_of 126 = .ok (.ireturn, 1) := by decide +kernel
theorem dX8_of_127 : decode cX8_of 127 = .ok (.aload_n 3, 1) := by decide +kernel
theorem dX8_of_128 : decode cX8_of 128 = .ok (.getfield 105, 3) := by decide +kernel
theorem dX8_of_131 : decode cX8_of 131 = .ok (.ifCond .eq 8, 3) := by decide +kernel
theorem dX8_of_134 : decode cX8_of 134 = .ok (.bipush (-4), 2) := by decide +kernel
theorem dX8_of_136 : decode cX8_of 136 = .ok (.goto 7, 3) := by decide +kernel
theorem dX8_of_139 : decode cX8_of 139 = .ok (.aload_n 3, 1) := by decide +kernel
theorem dX8_of_140 : decode cX8_of 140 = .ok (.getfield 112, 3) := by decide +kernel
theorem dX8_of_143 : decode cX8_of 143 = .ok (.ireturn, 1) := by decide +kernel
theorem dX8_of_144 : decode cX8_of 144 = .ok (.aload_n 3, 1) := by decide +kernel
theorem dX8_of_145 : decode cX8_of 145 = .ok (.getfield 105, 3) := by decide +kernel
theorem dX8_of_148 : decode cX8_of 148 = .ok (.ifCond .eq 8, 3) := by decide +kernel
theorem dX8_of_151 : decode cX8_of 151 = .ok (.bipush (-4), 2) := by decide +kernel
theorem dX8_of_153 : decode cX8_of 153 = .ok (.goto 7, 3) := by decide +kernel
theorem dX8_of_156 : decode cX8_of 156 = .ok (.aload_n 3, 1) := by decide +kernel
theorem dX8_of_157 : decode cX8_of 157 = .ok (.invokevirtual 115, 3) := by decide +kernel
theorem dX8_of_160 : decode cX8_of 160 = .ok (.ireturn, 1) := by decide +kernel
theorem dX8_of_161 : decode cX8_of 161 = .ok (.aload_n 3, 1) := by decide +kernel
theorem dX8_of_162 : decode cX8_of 162 = .ok (.getfield 80, 3) := by decide +kernel
theorem dX8_of_165 : decode cX8_of 165 = .ok (.getfield 84, 3) := by decide +kernel
theorem dX8_of_168 : decode cX8_of 168 = .ok (.ireturn, 1) := by decide +kernel
theorem dX8_of_169 : decode cX8_of 169 = .ok (.iconst (-1), 1) := by decide +kernel
theorem dX8_of_170 : decode cX8_of 170 = .ok (.ireturn, 1) := by decide +kernel
def f_X8_of (x1 : Int32) (x2 : Int32) (M : Mem) : Option Int32 := if (f_X0_isHall 1 x1 M) = 0 then some (-1 : Int32) else gd (inR x1 30) (if x2 = (0 : Int32) then some (mI M (2 + 23 + 2 * x1.toNatClampNeg) 1) else if x2 = (1 : Int32) then some (mI M (2 + 23 + 2 * x1.toNatClampNeg) 6) else if x2 = (2 : Int32) then some (mI M (2 + 23 + 2 * x1.toNatClampNeg) 7) else if x2 = (3 : Int32) then some (f_X1_toldCame (2 + 23 + 2 * x1.toNatClampNeg) M) else if x2 = (4 : Int32) then some (f_X1_toldOurs (2 + 23 + 2 * x1.toNatClampNeg) (mI M 3 0) M) else if x2 = (5 : Int32) then if (mI M (2 + 23 + 2 * x1.toNatClampNeg) 9) = 0 then some (mI M (2 + 23 + 2 * x1.toNatClampNeg) 10) else some (-4 : Int32) else if x2 = (6 : Int32) then if (mI M (2 + 23 + 2 * x1.toNatClampNeg) 9) = 0 then some (mI M (2 + 23 + 2 * x1.toNatClampNeg) 11) else some (-4 : Int32) else if x2 = (7 : Int32) then if (mI M (2 + 23 + 2 * x1.toNatClampNeg) 9) = 0 then (f_X1_share (2 + 23 + 2 * x1.toNatClampNeg) M).bind fun q22 => some q22 else some (-4 : Int32) else if x2 = (8 : Int32) then some (mI M ((2 + 23 + 2 * x1.toNatClampNeg) + 1) 0) else some (-1 : Int32))
set_option maxRecDepth 100000 in
set_option maxHeartbeats 4000000 in
theorem c_X8_of (Z : Sys) {M : Mem} (hs : St M) (x1 : Int32) (x2 : Int32) {q : Int32} (hf : f_X8_of x1 x2 M = some q) : Ct Z yX8_of cX8_of 4 (some .int) rm_X8_of [.ref (zs Z + 0), .int x1, .int x2] M False (PostI q M) := by
  refine Ct.of (by decide +kernel) (Nat.le_of_ble_eq_true rfl) (fun X hR hq _ => ?_)
  show G Z X Y_X8_of False 0 0 0 [(0, .ref (zs Z + 0)), (1, .int x1), (2, .int x2)] [] M
  replace hq : RetOk Z X (some .int) False (PostI q M) 0 0 := hq
  unfold f_X8_of at hf
  refine G.aload_n 0 0 dX8_of_0 rfl rfl ?_
  refine G.getp 1 ck_8 0 1 (hs.k k0_0) (pc_8_0 hs) (by decide) (by decide +kernel) wd_400 dX8_of_1 ?_
  refine G.iload_n 4 1 dX8_of_4 rfl rfl ?_
  refine G.cvZ 5 (As := [.int x1]) ck_0 (hs.k k0_1) (c_X0_isHall Z hs 1 x1 k0_1 rfl) mk_X0_isHall vk_X0_isHall rfl wd_444 hR (by decide +kernel) ⟨rfl, rfl⟩ rfl (Nat.le_of_ble_eq_true rfl) dX8_of_5 (fun hs1 z2 => ?_)
  refine G.if_ne 8 13 dX8_of_8 (by decide) (fun h3 => ?_) (fun h3 => ?_)
  · replace hf := (if_neg h3).symm.trans hf
    refine G.aload_n 13 0 dX8_of_13 rfl rfl ?_
    refine G.getp 14 ck_8 0 1 (hs1.k k0_0) (pc_8_0 hs1) (by decide) (by decide +kernel) wd_400 dX8_of_14 ?_
    refine G.getp 17 ck_0 0 2 (hs1.k k0_1) (pt_0_0 hs1 k0_1).1 (by decide) (by decide +kernel) wd_260 dX8_of_17 ?_
    refine G.iload_n 20 1 dX8_of_20 rfl rfl ?_
    obtain ⟨g4, hf⟩ := gd_e hf
    refine G.aa 21 x1.toNatClampNeg (2 + 23 + 2 * x1.toNatClampNeg) (hs1.k k0_2) (by decide) rfl rfl g4 rfl (pa_13 hs1 k0_2 (inlt g4)).1 dX8_of_21 ?_
    refine G.astore_n 22 [(3, .ref (zs Z + (2 + 23 + 2 * x1.toNatClampNeg))), (0, .ref (zs Z + 0)), (1, .int x1), (2, .int x2)] dX8_of_22 rfl (Nat.le_of_ble_eq_true rfl) rfl ?_
    refine G.iload_n 23 3 dX8_of_23 rfl rfl ?_
    by_cases h5 : x2 = (0 : Int32)
    · replace hf := (if_pos h5).symm.trans hf
      refine G.tableIn 24 76 (off := 52) dX8_of_24 (by rw [h5]; decide +kernel) (by rw [h5]; decide +kernel) (by rw [h5]; decide +kernel) (by decide) ?_
      refine G.aload_n 76 0 dX8_of_76 rfl rfl ?_
      refine G.geti 77 ck_1 1 (hs1.k (pa_13 hs1 k0_2 (inlt g4)).2) (by decide) (by decide +kernel) wd_190 dX8_of_77 ?_
      (have hf9 := Option.some.inj hf; subst hf9)
      exact G.rI 80 hq dX8_of_80 hs1
    · replace hf := (if_neg h5).symm.trans hf
      by_cases h6 : x2 = (1 : Int32)
      · replace hf := (if_pos h6).symm.trans hf
        refine G.tableIn 24 81 (off := 57) dX8_of_24 (by rw [h6]; decide +kernel) (by rw [h6]; decide +kernel) (by rw [h6]; decide +kernel) (by decide) ?_
        refine G.aload_n 81 0 dX8_of_81 rfl rfl ?_
        refine G.geti 82 ck_1 6 (hs1.k (pa_13 hs1 k0_2 (inlt g4)).2) (by decide) (by decide +kernel) wd_208 dX8_of_82 ?_
        (have hf9 := Option.some.inj hf; subst hf9)
        exact G.rI 85 hq dX8_of_85 hs1
      · replace hf := (if_neg h6).symm.trans hf
        by_cases h7 : x2 = (2 : Int32)
        · replace hf := (if_pos h7).symm.trans hf
          refine G.tableIn 24 86 (off := 62) dX8_of_24 (by rw [h7]; decide +kernel) (by rw [h7]; decide +kernel) (by rw [h7]; decide +kernel) (by decide) ?_
          refine G.aload_n 86 0 dX8_of_86 rfl rfl ?_
          refine G.geti 87 ck_1 7 (hs1.k (pa_13 hs1 k0_2 (inlt g4)).2) (by decide) (by decide +kernel) wd_211 dX8_of_87 ?_
          (have hf9 := Option.some.inj hf; subst hf9)
          exact G.rI 90 hq dX8_of_90 hs1
        · replace hf := (if_neg h7).symm.trans hf
          by_cases h8 : x2 = (3 : Int32)
          · replace hf := (if_pos h8).symm.trans hf
            refine G.tableIn 24 91 (off := 67) dX8_of_24 (by rw [h8]; decide +kernel) (by rw [h8]; decide +kernel) (by rw [h8]; decide +kernel) (by decide) ?_
            refine G.aload_n 91 0 dX8_of_91 rfl rfl ?_
            refine G.cvI 92 (As := []) ck_1 (hs1.k (pa_13 hs1 k0_2 (inlt g4)).2) (c_X1_toldCame Z hs1 (2 + 23 + 2 * x1.toNatClampNeg) (pa_13 hs1 k0_2 (inlt g4)).2 rfl) mk_X1_toldCame vk_X1_toldCame rfl wd_464 hR (by decide +kernel) ⟨rfl, rfl⟩ rfl (Nat.le_of_ble_eq_true rfl) dX8_of_92 (fun hs9 => ?_)
            (have hf9 := Option.some.inj hf; subst hf9)
            exact G.rI 95 hq dX8_of_95 hs9
          · replace hf := (if_neg h8).symm.trans hf
            by_cases h11 : x2 = (4 : Int32)
            · replace hf := (if_pos h11).symm.trans hf
              refine G.tableIn 24 96 (off := 72) dX8_of_24 (by rw [h11]; decide +kernel) (by rw [h11]; decide +kernel) (by rw [h11]; decide +kernel) (by decide) ?_
              refine G.aload_n 96 0 dX8_of_96 rfl rfl ?_
              refine G.aload_n 97 1 dX8_of_97 rfl rfl ?_
              refine G.getp 98 ck_8 0 1 (hs1.k k0_0) (pc_8_0 hs1) (by decide) (by decide +kernel) wd_400 dX8_of_98 ?_
              refine G.getp 101 ck_0 2 3 (hs1.k k0_1) (pt_0_2 hs1 k0_1).1 (by decide) (by decide +kernel) wd_266 dX8_of_101 ?_
              refine G.iconst 104 (0 : Int32) dX8_of_104 (by decide +kernel) ?_
              refine G.ia 105 0 (hs1.k k0_3) (by decide +kernel) (by decide +kernel) dX8_of_105 ?_
              refine G.cvI 106 (As := [.int (mI M 3 0)]) ck_1 (hs1.k (pa_13 hs1 k0_2 (inlt g4)).2) (c_X1_toldOurs Z hs1 (2 + 23 + 2 * x1.toNatClampNeg) (mI M 3 0) (pa_13 hs1 k0_2 (inlt g4)).2 rfl) mk_X1_toldOurs vk_X1_toldOurs rfl wd_478 hR (by decide +kernel) ⟨rfl, rfl⟩ rfl (Nat.le_of_ble_eq_true rfl) dX8_of_106 (fun hs12 => ?_)
              (have hf9 := Option.some.inj hf; subst hf9)
              exact G.rI 109 hq dX8_of_109 hs12
            · replace hf := (if_neg h11).symm.trans hf
              by_cases h14 : x2 = (5 : Int32)
              · replace hf := (if_pos h14).symm.trans hf
                refine G.tableIn 24 110 (off := 86) dX8_of_24 (by rw [h14]; decide +kernel) (by rw [h14]; decide +kernel) (by rw [h14]; decide +kernel) (by decide) ?_
                refine G.aload_n 110 0 dX8_of_110 rfl rfl ?_
                refine G.geti 111 ck_1 9 (hs1.k (pa_13 hs1 k0_2 (inlt g4)).2) (by decide) (by decide +kernel) wd_221 dX8_of_111 ?_
                refine G.if_eq 114 122 dX8_of_114 (by decide) (fun h15 => ?_) (fun h15 => ?_)
                · replace hf := (if_pos h15).symm.trans hf
                  refine G.aload_n 122 0 dX8_of_122 rfl rfl ?_
                  refine G.geti 123 ck_1 10 (hs1.k (pa_13 hs1 k0_2 (inlt g4)).2) (by decide) (by decide +kernel) wd_226 dX8_of_123 ?_
                  (have hf9 := Option.some.inj hf; subst hf9)
                  exact G.rI 126 hq dX8_of_126 hs1
                · replace hf := (if_neg h15).symm.trans hf
                  refine G.bipush 117 (-4 : Int32) dX8_of_117 (by decide +kernel) ?_
                  refine G.goto 119 126 dX8_of_119 (by decide) ?_
                  (have hf9 := Option.some.inj hf; subst hf9)
                  exact G.rI 126 hq dX8_of_126 hs1
              · replace hf := (if_neg h14).symm.trans hf
                by_cases h16 : x2 = (6 : Int32)
                · replace hf := (if_pos h16).symm.trans hf
                  refine G.tableIn 24 127 (off := 103) dX8_of_24 (by rw [h16]; decide +kernel) (by rw [h16]; decide +kernel) (by rw [h16]; decide +kernel) (by decide) ?_
                  refine G.aload_n 127 0 dX8_of_127 rfl rfl ?_
                  refine G.geti 128 ck_1 9 (hs1.k (pa_13 hs1 k0_2 (inlt g4)).2) (by decide) (by decide +kernel) wd_221 dX8_of_128 ?_
                  refine G.if_eq 131 139 dX8_of_131 (by decide) (fun h17 => ?_) (fun h17 => ?_)
                  · replace hf := (if_pos h17).symm.trans hf
                    refine G.aload_n 139 0 dX8_of_139 rfl rfl ?_
                    refine G.geti 140 ck_1 11 (hs1.k (pa_13 hs1 k0_2 (inlt g4)).2) (by decide) (by decide +kernel) wd_230 dX8_of_140 ?_
                    (have hf9 := Option.some.inj hf; subst hf9)
                    exact G.rI 143 hq dX8_of_143 hs1
                  · replace hf := (if_neg h17).symm.trans hf
                    refine G.bipush 134 (-4 : Int32) dX8_of_134 (by decide +kernel) ?_
                    refine G.goto 136 143 dX8_of_136 (by decide) ?_
                    (have hf9 := Option.some.inj hf; subst hf9)
                    exact G.rI 143 hq dX8_of_143 hs1
                · replace hf := (if_neg h16).symm.trans hf
                  by_cases h18 : x2 = (7 : Int32)
                  · replace hf := (if_pos h18).symm.trans hf
                    refine G.tableIn 24 144 (off := 120) dX8_of_24 (by rw [h18]; decide +kernel) (by rw [h18]; decide +kernel) (by rw [h18]; decide +kernel) (by decide) ?_
                    refine G.aload_n 144 0 dX8_of_144 rfl rfl ?_
                    refine G.geti 145 ck_1 9 (hs1.k (pa_13 hs1 k0_2 (inlt g4)).2) (by decide) (by decide +kernel) wd_221 dX8_of_145 ?_
                    refine G.if_eq 148 156 dX8_of_148 (by decide) (fun h19 => ?_) (fun h19 => ?_)
                    · replace hf := (if_pos h19).symm.trans hf
                      refine G.aload_n 156 0 dX8_of_156 rfl rfl ?_
                      obtain ⟨q22, e23, hf⟩ := bd_e hf
                      refine G.cvI 157 (As := []) ck_1 (hs1.k (pa_13 hs1 k0_2 (inlt g4)).2) (c_X1_share Z hs1 (2 + 23 + 2 * x1.toNatClampNeg) (pa_13 hs1 k0_2 (inlt g4)).2 e23) mk_X1_share vk_X1_share rfl wd_494 hR (by decide +kernel) ⟨rfl, rfl⟩ rfl (Nat.le_of_ble_eq_true rfl) dX8_of_157 (fun hs20 => ?_)
                      (have hf9 := Option.some.inj hf; subst hf9)
                      exact G.rI 160 hq dX8_of_160 hs20
                    · replace hf := (if_neg h19).symm.trans hf
                      refine G.bipush 151 (-4 : Int32) dX8_of_151 (by decide +kernel) ?_
                      refine G.goto 153 160 dX8_of_153 (by decide) ?_
                      (have hf9 := Option.some.inj hf; subst hf9)
                      exact G.rI 160 hq dX8_of_160 hs1
                  · replace hf := (if_neg h18).symm.trans hf
                    by_cases h24 : x2 = (8 : Int32)
                    · replace hf := (if_pos h24).symm.trans hf
                      refine G.tableIn 24 161 (off := 137) dX8_of_24 (by rw [h24]; decide +kernel) (by rw [h24]; decide +kernel) (by rw [h24]; decide +kernel) (by decide) ?_
                      refine G.aload_n 161 0 dX8_of_161 rfl rfl ?_
                      refine G.getp 162 ck_1 0 ((2 + 23 + 2 * x1.toNatClampNeg) + 1) (hs1.k (pa_13 hs1 k0_2 (inlt g4)).2) (pt_1_0 hs1 (pa_13 hs1 k0_2 (inlt g4)).2).1 (by decide) (by decide +kernel) wd_188 dX8_of_162 ?_
                      refine G.geti 165 ck_5 0 (hs1.k (pt_1_0 hs1 (pa_13 hs1 k0_2 (inlt g4)).2).2) (by decide) (by decide +kernel) wd_176 dX8_of_165 ?_
                      (have hf9 := Option.some.inj hf; subst hf9)
                      exact G.rI 168 hq dX8_of_168 hs1
                    · replace hf := (if_neg h24).symm.trans hf
                      have t_h5 := ti (0 : Int32) (0) (by decide +kernel) h5
                      have t_h6 := ti (1 : Int32) (1) (by decide +kernel) h6
                      have t_h7 := ti (2 : Int32) (2) (by decide +kernel) h7
                      have t_h8 := ti (3 : Int32) (3) (by decide +kernel) h8
                      have t_h11 := ti (4 : Int32) (4) (by decide +kernel) h11
                      have t_h14 := ti (5 : Int32) (5) (by decide +kernel) h14
                      have t_h16 := ti (6 : Int32) (6) (by decide +kernel) h16
                      have t_h18 := ti (7 : Int32) (7) (by decide +kernel) h18
                      have t_h24 := ti (8 : Int32) (8) (by decide +kernel) h24
                      refine G.tableOut 24 169 dX8_of_24 (by omega) (by decide) ?_
                      refine G.iconst 169 (-1 : Int32) dX8_of_169 (by decide +kernel) ?_
                      (have hf9 := Option.some.inj hf; subst hf9)
                      exact G.rI 170 hq dX8_of_170 hs1
  · replace hf := (if_pos h3).symm.trans hf
    refine G.iconst 11 (-1 : Int32) dX8_of_11 (by decide +kernel) ?_
    (have hf9 := Option.some.inj hf; subst hf9)
    exact G.rI 12 hq dX8_of_12 hs1
abbrev Y_X8_put : My := (cX8_put, RX8, 6)
def rm_X8_put : Room := { frames := 5, cells := 0, slots := 0, locals := 285 }
theorem dX8_put_0 : decode cX8_put 0 = .ok (.aload_n 0, 1) := by decide +kernel
theorem dX8_put_1 : decode cX8_put 1 = .ok (.iload_n 1, 1) := by decide +kernel
theorem dX8_put_2 : decode cX8_put 2 = .ok (.invokevirtual 318, 3) := by decide +kernel
theorem dX8_put_5 : decode cX8_put 5 = .ok (.istore 4, 2) := by decide +kernel
theorem dX8_put_7 : decode cX8_put 7 = .ok (.iload 4, 2) := by decide +kernel
theorem dX8_put_9 : decode cX8_put 9 = .ok (.ifCond .eq 6, 3) := by decide +kernel
theorem dX8_put_12 : decode cX8_put 12 = .ok (.iload 4, 2) := by decide +kernel
theorem dX8_put_14 : decode cX8_put 14 = .ok (.ireturn, 1) := by decide +kernel
theorem dX8_put_15 : decode cX8_put 15 = .ok (.aload_n 0, 1) := by decide +kernel
theorem dX8_put_16 : decode cX8_put 16 = .ok (.getfield 24, 3) := by decide +kernel
theorem dX8_put_19 : decode cX8_put 19 = .ok (.iload_n 1, 1) := by decide +kernel
theorem dX8_put_20 : decode cX8_put 20 = .ok (.aaload, 1) := by decide +kernel
theorem dX8_put_21 : decode cX8_put 21 = .ok (.astore 5, 2) := by decide +kernel
theorem dX8_put_23 : decode cX8_put 23 = .ok (.aload 5, 2) := by decide +kernel
theorem dX8_put_25 : decode cX8_put 25 = .ok (.iload_n 2, 1) := by decide +kernel
theorem dX8_put_26 : decode cX8_put 26 = .ok (.invokevirtual 321, 3) := by decide +kernel
theorem dX8_put_29 : decode cX8_put 29 = .ok (.ifCond .ne 6, 3) := by decide +kernel
theorem dX8_put_32 : decode cX8_put 32 = .ok (.bipush (-13), 2) := by decide +kernel
theorem dX8_put_34 : decode cX8_put 34 = .ok (.ireturn, 1) := by decide +kernel
theorem dX8_put_35 : decode cX8_put 35 = .ok (.aload 5, 2) := by decide +kernel
theorem dX8_put_37 : decode cX8_put 37 = .ok (.getfield 139, 3) := by decide +kernel
theorem dX8_put_40 : decode cX8_put 40 = .ok (.iload_n 2, 1) := by decide +kernel
theorem dX8_put_41 : decode cX8_put 41 = .ok (.aload 5, 2) := by decide +kernel
theorem dX8_put_43 : decode cX8_put 43 = .ok (.iload_n 3, 1) := by decide +kernel
theorem dX8_put_44 : decode cX8_put 44 = .ok (.invokevirtual 324, 3) := by decide +kernel
theorem dX8_put_47 : decode cX8_put 47 = .ok (.iastore, 1) := by decide +kernel
theorem dX8_put_48 : decode cX8_put 48 = .ok (.iconst 0, 1) := by decide +kernel
theorem dX8_put_49 : decode cX8_put 49 = .ok (.ireturn, 1) := by decide +kernel
def f_X8_put (x1 : Int32) (x2 : Int32) (x3 : Int32) (M : Mem) : Option (Int32 × Mem) := (f_X8_rowRefusal x1 M).bind fun q3 => if q3 = 0 then gd (inR x1 8) (if (f_X6_hasPlace (253 + 7 + 3 * x1.toNatClampNeg) x2 M) = 0 then some ((-13 : Int32), M) else gd (inR x2 80) (some ((0 : Int32), (sI M ((253 + 7 + 3 * x1.toNatClampNeg) + 2) x2.toNatClampNeg (f_X6_lowestBits (253 + 7 + 3 * x1.toNatClampNeg) x3 M))))) else some (q3, M)
set_option maxRecDepth 100000 in
set_option maxHeartbeats 4000000 in
theorem c_X8_put (Z : Sys) {M : Mem} (hs : St M) (x1 : Int32) (x2 : Int32) (x3 : Int32) {q : Int32 × Mem} (hf : f_X8_put x1 x2 x3 M = some q) : Ct Z yX8_put cX8_put 6 (some .int) rm_X8_put [.ref (zs Z + 0), .int x1, .int x2, .int x3] M False (PostI q.1 q.2) := by
  refine Ct.of (by decide +kernel) (Nat.le_of_ble_eq_true rfl) (fun X hR hq _ => ?_)
  show G Z X Y_X8_put False 0 0 0 [(0, .ref (zs Z + 0)), (1, .int x1), (2, .int x2), (3, .int x3)] [] M
  replace hq : RetOk Z X (some .int) False (PostI q.1 q.2) 0 0 := hq
  unfold f_X8_put at hf
  refine G.aload_n 0 0 dX8_put_0 rfl rfl ?_
  refine G.iload_n 1 1 dX8_put_1 rfl rfl ?_
  obtain ⟨q3, e4, hf⟩ := bd_e hf
  refine G.cvI 2 (As := [.int x1]) ck_8 (hs.k k0_0) (c_X8_rowRefusal Z hs x1 e4) mk_X8_rowRefusal vk_X8_rowRefusal rfl wd_878 hR (by decide +kernel) ⟨rfl, rfl⟩ rfl (Nat.le_of_ble_eq_true rfl) dX8_put_2 (fun hs1 => ?_)
  refine G.istore 5 [(4, .int q3), (0, .ref (zs Z + 0)), (1, .int x1), (2, .int x2), (3, .int x3)] dX8_put_5 (Nat.le_of_ble_eq_true rfl) rfl ?_
  refine G.iload 7 0 dX8_put_7 rfl ?_
  refine G.if_eq 9 15 dX8_put_9 (by decide) (fun h5 => ?_) (fun h5 => ?_)
  · replace hf := (if_pos h5).symm.trans hf
    refine G.aload_n 15 1 dX8_put_15 rfl rfl ?_
    refine G.getp 16 ck_8 4 253 (hs1.k k0_0) (pc_8_4 hs1) (by decide) (by decide +kernel) wd_404 dX8_put_16 ?_
    refine G.iload_n 19 2 dX8_put_19 rfl rfl ?_
    obtain ⟨g6, hf⟩ := gd_e hf
    refine G.aa 20 x1.toNatClampNeg (253 + 7 + 3 * x1.toNatClampNeg) (hs1.k k0_253) (by decide) rfl rfl g6 rfl (pa_14 hs1 k0_253 (inlt g6)).1 dX8_put_20 ?_
    refine G.astore 21 [(5, .ref (zs Z + (253 + 7 + 3 * x1.toNatClampNeg))), (4, .int q3), (0, .ref (zs Z + 0)), (1, .int x1), (2, .int x2), (3, .int x3)] dX8_put_21 (Nat.le_of_ble_eq_true rfl) rfl ?_
    refine G.aload 23 0 dX8_put_23 rfl ?_
    refine G.iload_n 25 4 dX8_put_25 rfl rfl ?_
    refine G.cvZ 26 (As := [.int x2]) ck_6 (hs1.k (pa_14 hs1 k0_253 (inlt g6)).2) (c_X6_hasPlace Z hs1 (253 + 7 + 3 * x1.toNatClampNeg) x2 (pa_14 hs1 k0_253 (inlt g6)).2 rfl) mk_X6_hasPlace vk_X6_hasPlace rfl wd_1126 hR (by decide +kernel) ⟨rfl, rfl⟩ rfl (Nat.le_of_ble_eq_true rfl) dX8_put_26 (fun hs7 z8 => ?_)
    refine G.if_ne 29 35 dX8_put_29 (by decide) (fun h9 => ?_) (fun h9 => ?_)
    · replace hf := (if_neg h9).symm.trans hf
      refine G.aload 35 0 dX8_put_35 rfl ?_
      refine G.getp 37 ck_6 6 ((253 + 7 + 3 * x1.toNatClampNeg) + 2) (hs7.k (pa_14 hs1 k0_253 (inlt g6)).2) (pt_6_6 hs7 (pa_14 hs1 k0_253 (inlt g6)).2).1 (by decide) (by decide +kernel) wd_384 dX8_put_37 ?_
      refine G.iload_n 40 4 dX8_put_40 rfl rfl ?_
      refine G.aload 41 0 dX8_put_41 rfl ?_
      refine G.iload_n 43 5 dX8_put_43 rfl rfl ?_
      refine G.cvI 44 (As := [.int x3]) ck_6 (hs7.k (pa_14 hs1 k0_253 (inlt g6)).2) (c_X6_lowestBits Z hs7 (253 + 7 + 3 * x1.toNatClampNeg) x3 (pa_14 hs1 k0_253 (inlt g6)).2 rfl) mk_X6_lowestBits vk_X6_lowestBits rfl wd_1127 hR (by decide +kernel) ⟨rfl, rfl⟩ rfl (Nat.le_of_ble_eq_true rfl) dX8_put_44 (fun hs10 => ?_)
      obtain ⟨g12, hf⟩ := gd_e hf
      refine G.ist 47 x2.toNatClampNeg (hs10.k (pt_6_6 hs7 (pa_14 hs1 k0_253 (inlt g6)).2).2) g12 rfl dX8_put_47 ?_
      refine G.iconst 48 (0 : Int32) dX8_put_48 (by decide +kernel) ?_
      (have hf9 := Option.some.inj hf; subst hf9)
      exact G.rI 49 hq dX8_put_49 (St.i hs10)
    · replace hf := (if_pos h9).symm.trans hf
      refine G.bipush 32 (-13 : Int32) dX8_put_32 (by decide +kernel) ?_
      (have hf9 := Option.some.inj hf; subst hf9)
      exact G.rI 34 hq dX8_put_34 hs7
  · replace hf := (if_neg h5).symm.trans hf
    refine G.iload 12 0 dX8_put_12 rfl ?_
    (have hf9 := Option.some.inj hf; subst hf9)
    exact G.rI 14 hq dX8_put_14 hs1
