abbrev Y_X2_beginsTest : My := (cX2_beginsTest, RX2, 2)
def rm_X2_beginsTest : Room := { frames := 7, cells := 0, slots := 0, locals := 332 }
theorem dX2_beginsTest_0 : decode cX2_beginsTest 0 = .ok (.iload_n 1, 1) := by decide +kernel
theorem dX2_beginsTest_1 : decode cX2_beginsTest 1 = .ok (.bipush 33, 2) := by decide +kernel
theorem dX2_beginsTest_3 : decode cX2_beginsTest 3 = .ok (.if_icmp .ne 5, 3) := by decide +kernel
theorem dX2_beginsTest_6 : decode cX2_beginsTest 6 = .ok (.iconst 1, 1) := by decide +kernel
theorem dX2_beginsTest_7 : decode cX2_beginsTest 7 = .ok (.ireturn, 1) := by decide +kernel
theorem dX2_beginsTest_8 : decode cX2_beginsTest 8 = .ok (.iload_n 1, 1) := by decide +kernel
theorem dX2_beginsTest_9 : decode cX2_beginsTest 9 = .ok (.bipush 40, 2) := by decide +kernel
theorem dX2_beginsTest_11 : decode cX2_beginsTest 11 = .ok (.if_icmp .ne 28, 3) := by decide +kernel
theorem dX2_beginsTest_14 : decode cX2_beginsTest 14 = .ok (.aload_n 0, 1) := by decide +kernel
theorem dX2_beginsTest_15 : decode cX2_beginsTest 15 = .ok (.dup, 1) := by decide +kernel
theorem dX2_beginsTest_16 : decode cX2_beginsTest 16 = .ok (.getfield 13, 3) := by decide +kernel
theorem dX2_beginsTest_19 : decode cX2_beginsTest 19 = .ok (.iconst 1, 1) := by decide +kernel
theorem dX2_beginsTest_20 : decode cX2_beginsTest 20 = .ok (.iadd, 1) := by decide +kernel
theorem dX2_beginsTest_21 : decode cX2_beginsTest 21 = .ok (.putfield 13, 3) := by decide +kernel
theorem dX2_beginsTest_24 : decode cX2_beginsTest 24 = .ok (.aload_n 0, 1) := by decide +kernel
theorem dX2_beginsTest_25 : decode cX2_beginsTest 25 = .ok (.getfield 13, 3) := by decide +kernel
theorem dX2_beginsTest_28 : decode cX2_beginsTest 28 = .ok (.bipush 8, 2) := by decide +kernel
theorem dX2_beginsTest_30 : decode cX2_beginsTest 30 = .ok (.if_icmp .gt 7, 3) := by decide +kernel
theorem dX2_beginsTest_33 : decode cX2_beginsTest 33 = .ok (.iconst 1, 1) := by decide +kernel
theorem dX2_beginsTest_34 : decode cX2_beginsTest 34 = .ok (.goto 4, 3) := by decide +kernel
theorem dX2_beginsTest_37 : decode cX2_beginsTest 37 = .ok (.iconst 0, 1) := by decide +kernel
theorem dX2_beginsTest_38 : decode cX2_beginsTest 38 = .ok (.ireturn, 1) := by decide +kernel
theorem dX2_beginsTest_39 : decode cX2_beginsTest 39 = .ok (.aload_n 0, 1) := by decide +kernel
theorem dX2_beginsTest_40 : decode cX2_beginsTest 40 = .ok (.iconst 0, 1) := by decide +kernel
theorem dX2_beginsTest_41 : decode cX2_beginsTest 41 = .ok (.putfield 24, 3) := by decide +kernel
theorem dX2_beginsTest_44 : decode cX2_beginsTest 44 = .ok (.aload_n 0, 1) := by decide +kernel
theorem dX2_beginsTest_45 : decode cX2_beginsTest 45 = .ok (.iload_n 1, 1) := by decide +kernel
theorem dX2_beginsTest_46 : decode cX2_beginsTest 46 = .ok (.invokevirtual 34, 3) := by decide +kernel
theorem dX2_beginsTest_49 : decode cX2_beginsTest 49 = .ok (.ireturn, 1) := by decide +kernel
def f_X2_beginsTest (x1 : Int32) (M : Mem) : Option (Int32 × Mem) := if x1 = (33 : Int32) then some ((1 : Int32), M) else if x1 = (40 : Int32) then if (8 : Int32) < (mI (sI M 259 1 ((mI M 259 1) + (1 : Int32))) 259 1) then some ((0 : Int32), (sI M 259 1 ((mI M 259 1) + (1 : Int32)))) else some ((1 : Int32), (sI M 259 1 ((mI M 259 1) + (1 : Int32)))) else (f_X2_beginsAtom x1 (sI M 259 2 (0 : Int32))).bind fun q5 => some (q5.1, q5.2)
set_option maxRecDepth 100000 in
set_option maxHeartbeats 4000000 in
theorem c_X2_beginsTest (Z : Sys) {M : Mem} (hs : St M) (x1 : Int32) {q : Int32 × Mem} (hf : f_X2_beginsTest x1 M = some q) : Ct Z yX2_beginsTest cX2_beginsTest 2 (some .boolean) rm_X2_beginsTest [.ref (zs Z + 259), .int x1] M False (PostZ q.1 q.2) := by
  refine Ct.of (by decide +kernel) (Nat.le_of_ble_eq_true rfl) (fun X hR hq _ => ?_)
  show G Z X Y_X2_beginsTest False 0 0 0 [(0, .ref (zs Z + 259)), (1, .int x1)] [] M
  replace hq : RetOk Z X (some .boolean) False (PostZ q.1 q.2) 0 0 := hq
  unfold f_X2_beginsTest at hf
  refine G.iload_n 0 1 dX2_beginsTest_0 rfl rfl ?_
  refine G.bipush 1 (33 : Int32) dX2_beginsTest_1 (by decide +kernel) ?_
  refine G.icmp_ne 3 8 dX2_beginsTest_3 (by decide) (fun h1 => ?_) (fun h1 => ?_)
  · replace hf := (if_neg h1).symm.trans hf
    refine G.iload_n 8 1 dX2_beginsTest_8 rfl rfl ?_
    refine G.bipush 9 (40 : Int32) dX2_beginsTest_9 (by decide +kernel) ?_
    refine G.icmp_ne 11 39 dX2_beginsTest_11 (by decide) (fun h2 => ?_) (fun h2 => ?_)
    · replace hf := (if_neg h2).symm.trans hf
      refine G.aload_n 39 0 dX2_beginsTest_39 rfl rfl ?_
      refine G.iconst 40 (0 : Int32) dX2_beginsTest_40 (by decide +kernel) ?_
      refine G.puti 41 ck_2 2 (hs.k k0_259) (by decide) (by decide +kernel) rfl wd_352 rfl rfl dX2_beginsTest_41 ?_
      refine G.aload_n 44 0 dX2_beginsTest_44 rfl rfl ?_
      refine G.iload_n 45 1 dX2_beginsTest_45 rfl rfl ?_
      obtain ⟨q5, e6, hf⟩ := bd_e hf
      refine G.cvZ 46 (As := [.int x1]) ck_2 ((St.i hs).k k0_259) (c_X2_beginsAtom Z (St.i hs) x1 e6) mk_X2_beginsAtom vk_X2_beginsAtom rfl wd_898 hR (by decide +kernel) ⟨rfl, rfl⟩ rfl (Nat.le_of_ble_eq_true rfl) dX2_beginsTest_46 (fun hs3 z4 => ?_)
      (have hf9 := Option.some.inj hf; subst hf9)
      exact G.rZ 49 hq dX2_beginsTest_49 hs3 z4
    · replace hf := (if_pos h2).symm.trans hf
      refine G.aload_n 14 0 dX2_beginsTest_14 rfl rfl ?_
      refine G.dup 15 dX2_beginsTest_15 rfl ?_
      refine G.geti 16 ck_2 1 (hs.k k0_259) (by decide) (by decide +kernel) wd_351 dX2_beginsTest_16 ?_
      refine G.iconst 19 (1 : Int32) dX2_beginsTest_19 (by decide +kernel) ?_
      refine G.iadd 20 dX2_beginsTest_20 ?_
      refine G.puti 21 ck_2 1 (hs.k k0_259) (by decide) (by decide +kernel) rfl wd_351 rfl rfl dX2_beginsTest_21 ?_
      refine G.aload_n 24 0 dX2_beginsTest_24 rfl rfl ?_
      refine G.geti 25 ck_2 1 ((St.i hs).k k0_259) (by decide) (by decide +kernel) wd_351 dX2_beginsTest_25 ?_
      refine G.bipush 28 (8 : Int32) dX2_beginsTest_28 (by decide +kernel) ?_
      refine G.icmp_gt 30 37 dX2_beginsTest_30 (by decide) (fun h7 => ?_) (fun h7 => ?_)
      · replace hf := (if_pos h7).symm.trans hf
        refine G.iconst 37 (0 : Int32) dX2_beginsTest_37 (by decide +kernel) ?_
        (have hf9 := Option.some.inj hf; subst hf9)
        exact G.rZ 38 hq dX2_beginsTest_38 (St.i hs) (Or.inl rfl)
      · replace hf := (if_neg h7).symm.trans hf
        refine G.iconst 33 (1 : Int32) dX2_beginsTest_33 (by decide +kernel) ?_
        refine G.goto 34 38 dX2_beginsTest_34 (by decide) ?_
        (have hf9 := Option.some.inj hf; subst hf9)
        exact G.rZ 38 hq dX2_beginsTest_38 (St.i hs) (Or.inr rfl)
  · replace hf := (if_pos h1).symm.trans hf
    refine G.iconst 6 (1 : Int32) dX2_beginsTest_6 (by decide +kernel) ?_
    (have hf9 := Option.some.inj hf; subst hf9)
    exact G.rZ 7 hq dX2_beginsTest_7 hs (Or.inr rfl)
abbrev Y_X2_followsTest : My := (cX2_followsTest, RX2, 2)
def rm_X2_followsTest : Room := { frames := 2, cells := 0, slots := 0, locals := 221 }
theorem dX2_followsTest_0 : decode cX2_followsTest 0 = .ok (.iload_n 1, 1) := by decide +kernel
theorem dX2_followsTest_1 : decode cX2_followsTest 1 = .ok (.bipush 38, 2) := by decide +kernel
theorem dX2_followsTest_3 : decode cX2_followsTest 3 = .ok (.if_icmp .eq 9, 3) := by decide +kernel
theorem dX2_followsTest_6 : decode cX2_followsTest 6 = .ok (.iload_n 1, 1) := by decide +kernel
theorem dX2_followsTest_7 : decode cX2_followsTest 7 = .ok (.bipush 124, 2) := by decide +kernel
theorem dX2_followsTest_9 : decode cX2_followsTest 9 = .ok (.if_icmp .ne 9, 3) := by decide +kernel
theorem dX2_followsTest_12 : decode cX2_followsTest 12 = .ok (.aload_n 0, 1) := by decide +kernel
theorem dX2_followsTest_13 : decode cX2_followsTest 13 = .ok (.iconst 2, 1) := by decide +kernel
theorem dX2_followsTest_14 : decode cX2_followsTest 14 = .ok (.invokevirtual 28, 3) := by decide +kernel
theorem dX2_followsTest_17 : decode cX2_followsTest 17 = .ok (.ireturn, 1) := by decide +kernel
theorem dX2_followsTest_18 : decode cX2_followsTest 18 = .ok (.iload_n 1, 1) := by decide +kernel
theorem dX2_followsTest_19 : decode cX2_followsTest 19 = .ok (.bipush 41, 2) := by decide +kernel
theorem dX2_followsTest_21 : decode cX2_followsTest 21 = .ok (.if_icmp .ne 27, 3) := by decide +kernel
theorem dX2_followsTest_24 : decode cX2_followsTest 24 = .ok (.aload_n 0, 1) := by decide +kernel
theorem dX2_followsTest_25 : decode cX2_followsTest 25 = .ok (.getfield 13, 3) := by decide +kernel
theorem dX2_followsTest_28 : decode cX2_followsTest 28 = .ok (.ifCond .le 20, 3) := by decide +kernel
theorem dX2_followsTest_31 : decode cX2_followsTest 31 = .ok (.aload_n 0, 1) := by decide +kernel
theorem dX2_followsTest_32 : decode cX2_followsTest 32 = .ok (.dup, 1) := by decide +kernel
theorem dX2_followsTest_33 : decode cX2_followsTest 33 = .ok (.getfield 13, 3) := by decide +kernel
theorem dX2_followsTest_36 : decode cX2_followsTest 36 = .ok (.iconst 1, 1) := by decide +kernel
theorem dX2_followsTest_37 : decode cX2_followsTest 37 = .ok (.isub, 1) := by decide +kernel
theorem dX2_followsTest_38 : decode cX2_followsTest 38 = .ok (.putfield 13, 3) := by decide +kernel
theorem dX2_followsTest_41 : decode cX2_followsTest 41 = .ok (.aload_n 0, 1) := by decide +kernel
theorem dX2_followsTest_42 : decode cX2_followsTest 42 = .ok (.bipush 6, 2) := by decide +kernel
theorem dX2_followsTest_44 : decode cX2_followsTest 44 = .ok (.invokevirtual 28, 3) := by decide +kernel
theorem dX2_followsTest_47 : decode cX2_followsTest 47 = .ok (.ireturn, 1) := by decide +kernel
theorem dX2_followsTest_48 : decode cX2_followsTest 48 = .ok (.iconst 0, 1) := by decide +kernel
theorem dX2_followsTest_49 : decode cX2_followsTest 49 = .ok (.ireturn, 1) := by decide +kernel
def B_X2_followsTest_12 (M : Mem) : Option (Int32 × Mem) := (f_X2_become (2 : Int32) M).bind fun q4 => some (q4.1, q4.2)
def f_X2_followsTest (x1 : Int32) (M : Mem) : Option (Int32 × Mem) := if x1 = (38 : Int32) then B_X2_followsTest_12 M else if x1 = (124 : Int32) then B_X2_followsTest_12 M else if x1 = (41 : Int32) then if (mI M 259 1) ≤ 0 then some ((0 : Int32), M) else (f_X2_become (6 : Int32) (sI M 259 1 ((mI M 259 1) - (1 : Int32)))).bind fun q11 => some (q11.1, q11.2) else some ((0 : Int32), M)
set_option maxRecDepth 100000 in
set_option maxHeartbeats 4000000 in
theorem b_X2_followsTest_12 (Z : Sys) (X : Cx) (hR : xR X = rm_X2_followsTest) {q : Int32 × Mem} (hq : RetOk Z X (some .boolean) False (PostZ q.1 q.2) 0 0) {M : Mem} (hs : St M) (hf : B_X2_followsTest_12 M = some q) : G Z X Y_X2_followsTest False 0 0 12 [(0, .ref (zs Z + 259))] [] M := by
  unfold B_X2_followsTest_12 at hf
  refine G.aload_n 12 0 dX2_followsTest_12 rfl rfl ?_
  refine G.iconst 13 (2 : Int32) dX2_followsTest_13 (by decide +kernel) ?_
  obtain ⟨q4, e5, hf⟩ := bd_e hf
  refine G.cvZ 14 (As := [.int (2 : Int32)]) ck_2 (hs.k k0_259) (c_X2_become Z hs (2 : Int32) e5) mk_X2_become vk_X2_become rfl wd_890 hR (by decide +kernel) ⟨rfl, rfl⟩ rfl (Nat.le_of_ble_eq_true rfl) dX2_followsTest_14 (fun hs2 z3 => ?_)
  (have hf9 := Option.some.inj hf; subst hf9)
  exact G.rZ 17 hq dX2_followsTest_17 hs2 z3
set_option maxRecDepth 100000 in
set_option maxHeartbeats 4000000 in
theorem c_X2_followsTest (Z : Sys) {M : Mem} (hs : St M) (x1 : Int32) {q : Int32 × Mem} (hf : f_X2_followsTest x1 M = some q) : Ct Z yX2_followsTest cX2_followsTest 2 (some .boolean) rm_X2_followsTest [.ref (zs Z + 259), .int x1] M False (PostZ q.1 q.2) := by
  refine Ct.of (by decide +kernel) (Nat.le_of_ble_eq_true rfl) (fun X hR hq _ => ?_)
  show G Z X Y_X2_followsTest False 0 0 0 [(0, .ref (zs Z + 259)), (1, .int x1)] [] M
  replace hq : RetOk Z X (some .boolean) False (PostZ q.1 q.2) 0 0 := hq
  unfold f_X2_followsTest at hf
  refine G.iload_n 0 1 dX2_followsTest_0 rfl rfl ?_
  refine G.bipush 1 (38 : Int32) dX2_followsTest_1 (by decide +kernel) ?_
  refine G.icmp_eq 3 12 dX2_followsTest_3 (by decide) (fun h1 => ?_) (fun h1 => ?_)
  · replace hf := (if_pos h1).symm.trans hf
    refine G.locs [0] rfl ?_
    exact b_X2_followsTest_12 Z X hR hq hs hf
  · replace hf := (if_neg h1).symm.trans hf
    refine G.iload_n 6 1 dX2_followsTest_6 rfl rfl ?_
    refine G.bipush 7 (124 : Int32) dX2_followsTest_7 (by decide +kernel) ?_
    refine G.icmp_ne 9 18 dX2_followsTest_9 (by decide) (fun h6 => ?_) (fun h6 => ?_)
    · replace hf := (if_neg h6).symm.trans hf
      refine G.iload_n 18 1 dX2_followsTest_18 rfl rfl ?_
      refine G.bipush 19 (41 : Int32) dX2_followsTest_19 (by decide +kernel) ?_
      refine G.icmp_ne 21 48 dX2_followsTest_21 (by decide) (fun h7 => ?_) (fun h7 => ?_)
      · replace hf := (if_neg h7).symm.trans hf
        refine G.iconst 48 (0 : Int32) dX2_followsTest_48 (by decide +kernel) ?_
        (have hf9 := Option.some.inj hf; subst hf9)
        exact G.rZ 49 hq dX2_followsTest_49 hs (Or.inl rfl)
      · replace hf := (if_pos h7).symm.trans hf
        refine G.aload_n 24 0 dX2_followsTest_24 rfl rfl ?_
        refine G.geti 25 ck_2 1 (hs.k k0_259) (by decide) (by decide +kernel) wd_351 dX2_followsTest_25 ?_
        refine G.if_le 28 48 dX2_followsTest_28 (by decide) (fun h8 => ?_) (fun h8 => ?_)
        · replace hf := (if_pos h8).symm.trans hf
          refine G.iconst 48 (0 : Int32) dX2_followsTest_48 (by decide +kernel) ?_
          (have hf9 := Option.some.inj hf; subst hf9)
          exact G.rZ 49 hq dX2_followsTest_49 hs (Or.inl rfl)
        · replace hf := (if_neg h8).symm.trans hf
          refine G.aload_n 31 0 dX2_followsTest_31 rfl rfl ?_
          refine G.dup 32 dX2_followsTest_32 rfl ?_
          refine G.geti 33 ck_2 1 (hs.k k0_259) (by decide) (by decide +kernel) wd_351 dX2_followsTest_33 ?_
          refine G.iconst 36 (1 : Int32) dX2_followsTest_36 (by decide +kernel) ?_
          refine G.isub 37 dX2_followsTest_37 ?_
          refine G.puti 38 ck_2 1 (hs.k k0_259) (by decide) (by decide +kernel) rfl wd_351 rfl rfl dX2_followsTest_38 ?_
          refine G.aload_n 41 0 dX2_followsTest_41 rfl rfl ?_
          refine G.bipush 42 (6 : Int32) dX2_followsTest_42 (by decide +kernel) ?_
          obtain ⟨q11, e12, hf⟩ := bd_e hf
          refine G.cvZ 44 (As := [.int (6 : Int32)]) ck_2 ((St.i hs).k k0_259) (c_X2_become Z (St.i hs) (6 : Int32) e12) mk_X2_become vk_X2_become rfl wd_890 hR (by decide +kernel) ⟨rfl, rfl⟩ rfl (Nat.le_of_ble_eq_true rfl) dX2_followsTest_44 (fun hs9 z10 => ?_)
          (have hf9 := Option.some.inj hf; subst hf9)
          exact G.rZ 47 hq dX2_followsTest_47 hs9 z10
    · replace hf := (if_pos h6).symm.trans hf
      refine G.locs [0] rfl ?_
      exact b_X2_followsTest_12 Z X hR hq hs hf
abbrev Y_X2_followsAtom : My := (cX2_followsAtom, RX2, 2)
def rm_X2_followsAtom : Room := { frames := 3, cells := 0, slots := 0, locals := 242 }
theorem dX2_followsAtom_0 : decode cX2_followsAtom 0 = .ok (.iload_n 1, 1) := by decide +kernel
theorem dX2_followsAtom_1 : decode cX2_followsAtom 1 = .ok (.lookupswitch 93 #[(37, 67), (42, 67), (43, 67), (45, 67), (60, 73), (61, 73), (62, 73)], 67) := by decide +kernel
theorem dX2_followsAtom_68 : decode cX2_followsAtom 68 = .ok (.aload_n 0, 1) := by decide +kernel
theorem dX2_followsAtom_69 : decode cX2_followsAtom 69 = .ok (.iconst 3, 1) := by decide +kernel
theorem dX2_followsAtom_70 : decode cX2_followsAtom 70 = .ok (.invokevirtual 28, 3) := by decide +kernel
theorem dX2_followsAtom_73 : decode cX2_followsAtom 73 = .ok (.ireturn, 1) := by decide +kernel
theorem dX2_followsAtom_74 : decode cX2_followsAtom 74 = .ok (.aload_n 0, 1) := by decide +kernel
theorem dX2_followsAtom_75 : decode cX2_followsAtom 75 = .ok (.getfield 24, 3) := by decide +kernel
theorem dX2_followsAtom_78 : decode cX2_followsAtom 78 = .ok (.ifCond .eq 5, 3) := by decide +kernel
theorem dX2_followsAtom_81 : decode cX2_followsAtom 81 = .ok (.iconst 0, 1) := by decide +kernel
theorem dX2_followsAtom_82 : decode cX2_followsAtom 82 = .ok (.ireturn, 1) := by decide +kernel
theorem dX2_followsAtom_83 : decode cX2_followsAtom 83 = .ok (.aload_n 0, 1) := by decide +kernel
theorem dX2_followsAtom_84 : decode cX2_followsAtom 84 = .ok (.iconst 1, 1) := by decide +kernel
theorem dX2_followsAtom_85 : decode cX2_followsAtom 85 = .ok (.putfield 24, 3) := by decide +kernel
theorem dX2_followsAtom_88 : decode cX2_followsAtom 88 = .ok (.aload_n 0, 1) := by decide +kernel
theorem dX2_followsAtom_89 : decode cX2_followsAtom 89 = .ok (.iconst 3, 1) := by decide +kernel
theorem dX2_followsAtom_90 : decode cX2_followsAtom 90 = .ok (.invokevirtual 28, 3) := by decide +kernel
theorem dX2_followsAtom_93 : decode cX2_followsAtom 93 = .ok (.ireturn, 1) := by decide +kernel
theorem dX2_followsAtom_94 : decode cX2_followsAtom 94 = .ok (.aload_n 0, 1) := by decide +kernel
theorem dX2_followsAtom_95 : decode cX2_followsAtom 95 = .ok (.getfield 24, 3) := by decide +kernel
theorem dX2_followsAtom_98 : decode cX2_followsAtom 98 = .ok (.ifCond .eq 15, 3) := by decide +kernel
theorem dX2_followsAtom_101 : decode cX2_followsAtom 101 = .ok (.aload_n 0, 1) := by decide +kernel
theorem dX2_followsAtom_102 : decode cX2_followsAtom 102 = .ok (.iload_n 1, 1) := by decide +kernel
theorem dX2_followsAtom_103 : decode cX2_followsAtom 103 = .ok (.invokevirtual 43, 3) := by decide +kernel
theorem dX2_followsAtom_106 : decode cX2_followsAtom 106 = .ok (.ifCond .eq 7, 3) := by decide +kernel
theorem dX2_followsAtom_109 : decode cX2_followsAtom 109 = .ok (.iconst 1, 1) := by decide +kernel
theorem dX2_followsAtom_110 : decode cX2_followsAtom 110 = .ok (.goto 4, 3) := by decide +kernel
theorem dX2_followsAtom_113 : decode cX2_followsAtom 113 = .ok (.iconst 0, 1) := by decide +kernel
theorem dX2_followsAtom_114 : decode cX2_followsAtom 114 = .ok (.ireturn, 1) := by decide +kernel
def f_X2_followsAtom (x1 : Int32) (M : Mem) : Option (Int32 × Mem) := if x1 = (37 : Int32) then (f_X2_become (3 : Int32) M).bind fun q4 => some (q4.1, q4.2) else if x1 = (42 : Int32) then (f_X2_become (3 : Int32) M).bind fun q9 => some (q9.1, q9.2) else if x1 = (43 : Int32) then (f_X2_become (3 : Int32) M).bind fun q14 => some (q14.1, q14.2) else if x1 = (45 : Int32) then (f_X2_become (3 : Int32) M).bind fun q19 => some (q19.1, q19.2) else if x1 = (60 : Int32) then if (mI M 259 2) = 0 then (f_X2_become (3 : Int32) (sI M 259 2 (1 : Int32))).bind fun q25 => some (q25.1, q25.2) else some ((0 : Int32), M) else if x1 = (61 : Int32) then if (mI M 259 2) = 0 then (f_X2_become (3 : Int32) (sI M 259 2 (1 : Int32))).bind fun q31 => some (q31.1, q31.2) else some ((0 : Int32), M) else if x1 = (62 : Int32) then if (mI M 259 2) = 0 then (f_X2_become (3 : Int32) (sI M 259 2 (1 : Int32))).bind fun q37 => some (q37.1, q37.2) else some ((0 : Int32), M) else if (mI M 259 2) = 0 then some ((0 : Int32), M) else (f_X2_followsTest x1 M).bind fun q42 => if q42.1 = 0 then some ((0 : Int32), q42.2) else some ((1 : Int32), q42.2)
set_option maxRecDepth 100000 in
set_option maxHeartbeats 4000000 in
theorem c_X2_followsAtom (Z : Sys) {M : Mem} (hs : St M) (x1 : Int32) {q : Int32 × Mem} (hf : f_X2_followsAtom x1 M = some q) : Ct Z yX2_followsAtom cX2_followsAtom 2 (some .boolean) rm_X2_followsAtom [.ref (zs Z + 259), .int x1] M False (PostZ q.1 q.2) := by
  refine Ct.of (by decide +kernel) (Nat.le_of_ble_eq_true rfl) (fun X hR hq _ => ?_)
  show G Z X Y_X2_followsAtom False 0 0 0 [(0, .ref (zs Z + 259)), (1, .int x1)] [] M
  replace hq : RetOk Z X (some .boolean) False (PostZ q.1 q.2) 0 0 := hq
  unfold f_X2_followsAtom at hf
  refine G.iload_n 0 1 dX2_followsAtom_0 rfl rfl ?_
  by_cases h1 : x1 = (37 : Int32)
  · replace hf := (if_pos h1).symm.trans hf
    refine G.lookup 1 68 (off := 67) dX2_followsAtom_1 (by decide +kernel) (by rw [h1]; decide +kernel) (by decide) ?_
    refine G.aload_n 68 0 dX2_followsAtom_68 rfl rfl ?_
    refine G.iconst 69 (3 : Int32) dX2_followsAtom_69 (by decide +kernel) ?_
    obtain ⟨q4, e5, hf⟩ := bd_e hf
    refine G.cvZ 70 (As := [.int (3 : Int32)]) ck_2 (hs.k k0_259) (c_X2_become Z hs (3 : Int32) e5) mk_X2_become vk_X2_become rfl wd_890 hR (by decide +kernel) ⟨rfl, rfl⟩ rfl (Nat.le_of_ble_eq_true rfl) dX2_followsAtom_70 (fun hs2 z3 => ?_)
    (have hf9 := Option.some.inj hf; subst hf9)
    exact G.rZ 73 hq dX2_followsAtom_73 hs2 z3
  · replace hf := (if_neg h1).symm.trans hf
    by_cases h6 : x1 = (42 : Int32)
    · replace hf := (if_pos h6).symm.trans hf
      refine G.lookup 1 68 (off := 67) dX2_followsAtom_1 (by decide +kernel) (by rw [h6]; decide +kernel) (by decide) ?_
      refine G.aload_n 68 0 dX2_followsAtom_68 rfl rfl ?_
      refine G.iconst 69 (3 : Int32) dX2_followsAtom_69 (by decide +kernel) ?_
      obtain ⟨q9, e10, hf⟩ := bd_e hf
      refine G.cvZ 70 (As := [.int (3 : Int32)]) ck_2 (hs.k k0_259) (c_X2_become Z hs (3 : Int32) e10) mk_X2_become vk_X2_become rfl wd_890 hR (by decide +kernel) ⟨rfl, rfl⟩ rfl (Nat.le_of_ble_eq_true rfl) dX2_followsAtom_70 (fun hs7 z8 => ?_)
      (have hf9 := Option.some.inj hf; subst hf9)
      exact G.rZ 73 hq dX2_followsAtom_73 hs7 z8
    · replace hf := (if_neg h6).symm.trans hf
      by_cases h11 : x1 = (43 : Int32)
      · replace hf := (if_pos h11).symm.trans hf
        refine G.lookup 1 68 (off := 67) dX2_followsAtom_1 (by decide +kernel) (by rw [h11]; decide +kernel) (by decide) ?_
        refine G.aload_n 68 0 dX2_followsAtom_68 rfl rfl ?_
        refine G.iconst 69 (3 : Int32) dX2_followsAtom_69 (by decide +kernel) ?_
        obtain ⟨q14, e15, hf⟩ := bd_e hf
        refine G.cvZ 70 (As := [.int (3 : Int32)]) ck_2 (hs.k k0_259) (c_X2_become Z hs (3 : Int32) e15) mk_X2_become vk_X2_become rfl wd_890 hR (by decide +kernel) ⟨rfl, rfl⟩ rfl (Nat.le_of_ble_eq_true rfl) dX2_followsAtom_70 (fun hs12 z13 => ?_)
        (have hf9 := Option.some.inj hf; subst hf9)
        exact G.rZ 73 hq dX2_followsAtom_73 hs12 z13
      · replace hf := (if_neg h11).symm.trans hf
        by_cases h16 : x1 = (45 : Int32)
        · replace hf := (if_pos h16).symm.trans hf
          refine G.lookup 1 68 (off := 67) dX2_followsAtom_1 (by decide +kernel) (by rw [h16]; decide +kernel) (by decide) ?_
          refine G.aload_n 68 0 dX2_followsAtom_68 rfl rfl ?_
          refine G.iconst 69 (3 : Int32) dX2_followsAtom_69 (by decide +kernel) ?_
          obtain ⟨q19, e20, hf⟩ := bd_e hf
          refine G.cvZ 70 (As := [.int (3 : Int32)]) ck_2 (hs.k k0_259) (c_X2_become Z hs (3 : Int32) e20) mk_X2_become vk_X2_become rfl wd_890 hR (by decide +kernel) ⟨rfl, rfl⟩ rfl (Nat.le_of_ble_eq_true rfl) dX2_followsAtom_70 (fun hs17 z18 => ?_)
          (have hf9 := Option.some.inj hf; subst hf9)
          exact G.rZ 73 hq dX2_followsAtom_73 hs17 z18
        · replace hf := (if_neg h16).symm.trans hf
          by_cases h21 : x1 = (60 : Int32)
          · replace hf := (if_pos h21).symm.trans hf
            refine G.lookup 1 74 (off := 73) dX2_followsAtom_1 (by decide +kernel) (by rw [h21]; decide +kernel) (by decide) ?_
            refine G.aload_n 74 0 dX2_followsAtom_74 rfl rfl ?_
            refine G.geti 75 ck_2 2 (hs.k k0_259) (by decide) (by decide +kernel) wd_352 dX2_followsAtom_75 ?_
            refine G.if_eq 78 83 dX2_followsAtom_78 (by decide) (fun h22 => ?_) (fun h22 => ?_)
            · replace hf := (if_pos h22).symm.trans hf
              refine G.aload_n 83 0 dX2_followsAtom_83 rfl rfl ?_
              refine G.iconst 84 (1 : Int32) dX2_followsAtom_84 (by decide +kernel) ?_
              refine G.puti 85 ck_2 2 (hs.k k0_259) (by decide) (by decide +kernel) rfl wd_352 rfl rfl dX2_followsAtom_85 ?_
              refine G.aload_n 88 0 dX2_followsAtom_88 rfl rfl ?_
              refine G.iconst 89 (3 : Int32) dX2_followsAtom_89 (by decide +kernel) ?_
              obtain ⟨q25, e26, hf⟩ := bd_e hf
              refine G.cvZ 90 (As := [.int (3 : Int32)]) ck_2 ((St.i hs).k k0_259) (c_X2_become Z (St.i hs) (3 : Int32) e26) mk_X2_become vk_X2_become rfl wd_890 hR (by decide +kernel) ⟨rfl, rfl⟩ rfl (Nat.le_of_ble_eq_true rfl) dX2_followsAtom_90 (fun hs23 z24 => ?_)
              (have hf9 := Option.some.inj hf; subst hf9)
              exact G.rZ 93 hq dX2_followsAtom_93 hs23 z24
            · replace hf := (if_neg h22).symm.trans hf
              refine G.iconst 81 (0 : Int32) dX2_followsAtom_81 (by decide +kernel) ?_
              (have hf9 := Option.some.inj hf; subst hf9)
              exact G.rZ 82 hq dX2_followsAtom_82 hs (Or.inl rfl)
          · replace hf := (if_neg h21).symm.trans hf
            by_cases h27 : x1 = (61 : Int32)
            · replace hf := (if_pos h27).symm.trans hf
              refine G.lookup 1 74 (off := 73) dX2_followsAtom_1 (by decide +kernel) (by rw [h27]; decide +kernel) (by decide) ?_
              refine G.aload_n 74 0 dX2_followsAtom_74 rfl rfl ?_
              refine G.geti 75 ck_2 2 (hs.k k0_259) (by decide) (by decide +kernel) wd_352 dX2_followsAtom_75 ?_
              refine G.if_eq 78 83 dX2_followsAtom_78 (by decide) (fun h28 => ?_) (fun h28 => ?_)
              · replace hf := (if_pos h28).symm.trans hf
                refine G.aload_n 83 0 dX2_followsAtom_83 rfl rfl ?_
                refine G.iconst 84 (1 : Int32) dX2_followsAtom_84 (by decide +kernel) ?_
                refine G.puti 85 ck_2 2 (hs.k k0_259) (by decide) (by decide +kernel) rfl wd_352 rfl rfl dX2_followsAtom_85 ?_
                refine G.aload_n 88 0 dX2_followsAtom_88 rfl rfl ?_
                refine G.iconst 89 (3 : Int32) dX2_followsAtom_89 (by decide +kernel) ?_
                obtain ⟨q31, e32, hf⟩ := bd_e hf
                refine G.cvZ 90 (As := [.int (3 : Int32)]) ck_2 ((St.i hs).k k0_259) (c_X2_become Z (St.i hs) (3 : Int32) e32) mk_X2_become vk_X2_become rfl wd_890 hR (by decide +kernel) ⟨rfl, rfl⟩ rfl (Nat.le_of_ble_eq_true rfl) dX2_followsAtom_90 (fun hs29 z30 => ?_)
                (have hf9 := Option.some.inj hf; subst hf9)
                exact G.rZ 93 hq dX2_followsAtom_93 hs29 z30
              · replace hf := (if_neg h28).symm.trans hf
                refine G.iconst 81 (0 : Int32) dX2_followsAtom_81 (by decide +kernel) ?_
                (have hf9 := Option.some.inj hf; subst hf9)
                exact G.rZ 82 hq dX2_followsAtom_82 hs (Or.inl rfl)
            · replace hf := (if_neg h27).symm.trans hf
              by_cases h33 : x1 = (62 : Int32)
              · replace hf := (if_pos h33).symm.trans hf
                refine G.lookup 1 74 (off := 73) dX2_followsAtom_1 (by decide +kernel) (by rw [h33]; decide +kernel) (by decide) ?_
                refine G.aload_n 74 0 dX2_followsAtom_74 rfl rfl ?_
                refine G.geti 75 ck_2 2 (hs.k k0_259) (by decide) (by decide +kernel) wd_352 dX2_followsAtom_75 ?_
                refine G.if_eq 78 83 dX2_followsAtom_78 (by decide) (fun h34 => ?_) (fun h34 => ?_)
                · replace hf := (if_pos h34).symm.trans hf
                  refine G.aload_n 83 0 dX2_followsAtom_83 rfl rfl ?_
                  refine G.iconst 84 (1 : Int32) dX2_followsAtom_84 (by decide +kernel) ?_
                  refine G.puti 85 ck_2 2 (hs.k k0_259) (by decide) (by decide +kernel) rfl wd_352 rfl rfl dX2_followsAtom_85 ?_
                  refine G.aload_n 88 0 dX2_followsAtom_88 rfl rfl ?_
                  refine G.iconst 89 (3 : Int32) dX2_followsAtom_89 (by decide +kernel) ?_
                  obtain ⟨q37, e38, hf⟩ := bd_e hf
                  refine G.cvZ 90 (As := [.int (3 : Int32)]) ck_2 ((St.i hs).k k0_259) (c_X2_become Z (St.i hs) (3 : Int32) e38) mk_X2_become vk_X2_become rfl wd_890 hR (by decide +kernel) ⟨rfl, rfl⟩ rfl (Nat.le_of_ble_eq_true rfl) dX2_followsAtom_90 (fun hs35 z36 => ?_)
                  (have hf9 := Option.some.inj hf; subst hf9)
                  exact G.rZ 93 hq dX2_followsAtom_93 hs35 z36
                · replace hf := (if_neg h34).symm.trans hf
                  refine G.iconst 81 (0 : Int32) dX2_followsAtom_81 (by decide +kernel) ?_
                  (have hf9 := Option.some.inj hf; subst hf9)
                  exact G.rZ 82 hq dX2_followsAtom_82 hs (Or.inl rfl)
              · replace hf := (if_neg h33).symm.trans hf
                have t_h1 := ti (37 : Int32) (37) (by decide +kernel) h1
                have t_h6 := ti (42 : Int32) (42) (by decide +kernel) h6
                have t_h11 := ti (43 : Int32) (43) (by decide +kernel) h11
                have t_h16 := ti (45 : Int32) (45) (by decide +kernel) h16
                have t_h21 := ti (60 : Int32) (60) (by decide +kernel) h21
                have t_h27 := ti (61 : Int32) (61) (by decide +kernel) h27
                have t_h33 := ti (62 : Int32) (62) (by decide +kernel) h33
                refine G.lookup 1 94 dX2_followsAtom_1 (by decide +kernel) (lk_d (by intro a ha; simp at ha; omega)) (by decide) ?_
                refine G.aload_n 94 0 dX2_followsAtom_94 rfl rfl ?_
                refine G.geti 95 ck_2 2 (hs.k k0_259) (by decide) (by decide +kernel) wd_352 dX2_followsAtom_95 ?_
                refine G.if_eq 98 113 dX2_followsAtom_98 (by decide) (fun h39 => ?_) (fun h39 => ?_)
                · replace hf := (if_pos h39).symm.trans hf
                  refine G.iconst 113 (0 : Int32) dX2_followsAtom_113 (by decide +kernel) ?_
                  (have hf9 := Option.some.inj hf; subst hf9)
                  exact G.rZ 114 hq dX2_followsAtom_114 hs (Or.inl rfl)
                · replace hf := (if_neg h39).symm.trans hf
                  refine G.aload_n 101 0 dX2_followsAtom_101 rfl rfl ?_
                  refine G.iload_n 102 1 dX2_followsAtom_102 rfl rfl ?_
                  obtain ⟨q42, e43, hf⟩ := bd_e hf
                  refine G.cvZ 103 (As := [.int x1]) ck_2 (hs.k k0_259) (c_X2_followsTest Z hs x1 e43) mk_X2_followsTest vk_X2_followsTest rfl wd_999 hR (by decide +kernel) ⟨rfl, rfl⟩ rfl (Nat.le_of_ble_eq_true rfl) dX2_followsAtom_103 (fun hs40 z41 => ?_)
                  refine G.if_eq 106 113 dX2_followsAtom_106 (by decide) (fun h44 => ?_) (fun h44 => ?_)
                  · replace hf := (if_pos h44).symm.trans hf
                    refine G.iconst 113 (0 : Int32) dX2_followsAtom_113 (by decide +kernel) ?_
                    (have hf9 := Option.some.inj hf; subst hf9)
                    exact G.rZ 114 hq dX2_followsAtom_114 hs40 (Or.inl rfl)
                  · replace hf := (if_neg h44).symm.trans hf
                    refine G.iconst 109 (1 : Int32) dX2_followsAtom_109 (by decide +kernel) ?_
                    refine G.goto 110 114 dX2_followsAtom_110 (by decide) ?_
                    (have hf9 := Option.some.inj hf; subst hf9)
                    exact G.rZ 114 hq dX2_followsAtom_114 hs40 (Or.inr rfl)
abbrev Y_X2_goesOn : My := (cX2_goesOn, RX2, 2)
def rm_X2_goesOn : Room := { frames := 8, cells := 0, slots := 0, locals := 353 }
theorem dX2_goesOn_0 : decode cX2_goesOn 0 = .ok (.aload_n 0, 1) := by decide +kernel
theorem dX2_goesOn_1 : decode cX2_goesOn 1 = .ok (.getfield 9, 3) := by decide +kernel
theorem dX2_goesOn_4 : decode cX2_goesOn 4 = .ok (.tableswitch 126 0 5 #[40, 66, 86, 92, 98, 120], 40) := by decide +kernel
theorem dX2_goesOn_44 : decode cX2_goesOn 44 = .ok (.iload_n 1, 1) := by decide +kernel
theorem dX2_goesOn_45 : decode cX2_goesOn 45 = .ok (.bipush 65, 2) := by decide +kernel
theorem dX2_goesOn_47 : decode cX2_goesOn 47 = .ok (.if_icmp .lt 21, 3) := by decide +kernel
theorem dX2_goesOn_50 : decode cX2_goesOn 50 = .ok (.iload_n 1, 1) := by decide +kernel
theorem dX2_goesOn_51 : decode cX2_goesOn 51 = .ok (.bipush 90, 2) := by decide +kernel
theorem dX2_goesOn_53 : decode cX2_goesOn 53 = .ok (.if_icmp .gt 15, 3) := by decide +kernel
theorem dX2_goesOn_56 : decode cX2_goesOn 56 = .ok (.aload_n 0, 1) := by decide +kernel
theorem dX2_goesOn_57 : decode cX2_goesOn 57 = .ok (.iconst 1, 1) := by decide +kernel
theorem dX2_goesOn_58 : decode cX2_goesOn 58 = .ok (.invokevirtual 28, 3) := by decide +kernel
theorem dX2_goesOn_61 : decode cX2_goesOn 61 = .ok (.ifCond .eq 7, 3) := by decide +kernel
theorem dX2_goesOn_64 : decode cX2_goesOn 64 = .ok (.iconst 1, 1) := by decide +kernel
theorem dX2_goesOn_65 : decode cX2_goesOn 65 = .ok (.goto 4, 3) := by decide +kernel
theorem dX2_goesOn_68 : decode cX2_goesOn 68 = .ok (.iconst 0, 1) := by decide +kernel
theorem dX2_goesOn_69 : decode cX2_goesOn 69 = .ok (.ireturn, 1) := by decide +kernel
theorem dX2_goesOn_70 : decode cX2_goesOn 70 = .ok (.iload_n 1, 1) := by decide +kernel
theorem dX2_goesOn_71 : decode cX2_goesOn 71 = .ok (.bipush 58, 2) := by decide +kernel
theorem dX2_goesOn_73 : decode cX2_goesOn 73 = .ok (.if_icmp .ne 15, 3) := by decide +kernel
theorem dX2_goesOn_76 : decode cX2_goesOn 76 = .ok (.aload_n 0, 1) := by decide +kernel
theorem dX2_goesOn_77 : decode cX2_goesOn 77 = .ok (.iconst 2, 1) := by decide +kernel
theorem dX2_goesOn_78 : decode cX2_goesOn 78 = .ok (.invokevirtual 28, 3) := by decide +kernel
theorem dX2_goesOn_81 : decode cX2_goesOn 81 = .ok (.ifCond .eq 7, 3) := by decide +kernel
theorem dX2_goesOn_84 : decode cX2_goesOn 84 = .ok (.iconst 1, 1) := by decide +kernel
theorem dX2_goesOn_85 : decode cX2_goesOn 85 = .ok (.goto 4, 3) := by decide +kernel
theorem dX2_goesOn_88 : decode cX2_goesOn 88 = .ok (.iconst 0, 1) := by decide +kernel
theorem dX2_goesOn_89 : decode cX2_goesOn 89 = .ok (.ireturn, 1) := by decide +kernel
theorem dX2_goesOn_90 : decode cX2_goesOn 90 = .ok (.aload_n 0, 1) := by decide +kernel
theorem dX2_goesOn_91 : decode cX2_goesOn 91 = .ok (.iload_n 1, 1) := by decide +kernel
theorem dX2_goesOn_92 : decode cX2_goesOn 92 = .ok (.invokevirtual 31, 3) := by decide +kernel
theorem dX2_goesOn_95 : decode cX2_goesOn 95 = .ok (.ireturn, 1) := by decide +kernel
theorem dX2_goesOn_96 : decode cX2_goesOn 96 = .ok (.aload_n 0, 1) := by decide +kernel
theorem dX2_goesOn_97 : decode cX2_goesOn 97 = .ok (.iload_n 1, 1) := by decide +kernel
theorem dX2_goesOn_98 : decode cX2_goesOn 98 = .ok (.invokevirtual 34, 3) := by decide +kernel
theorem dX2_goesOn_101 : decode cX2_goesOn 101 = .ok (.ireturn, 1) := by decide +kernel
theorem dX2_goesOn_102 : decode cX2_goesOn 102 = .ok (.aload_n 0, 1) := by decide +kernel
theorem dX2_goesOn_103 : decode cX2_goesOn 103 = .ok (.iload_n 1, 1) := by decide +kernel
theorem dX2_goesOn_104 : decode cX2_goesOn 104 = .ok (.invokevirtual 37, 3) := by decide +kernel
theorem dX2_goesOn_107 : decode cX2_goesOn 107 = .ok (.ifCond .ne 11, 3) := by decide +kernel
theorem dX2_goesOn_110 : decode cX2_goesOn 110 = .ok (.aload_n 0, 1) := by decide +kernel
theorem dX2_goesOn_111 : decode cX2_goesOn 111 = .ok (.iload_n 1, 1) := by decide +kernel
theorem dX2_goesOn_112 : decode cX2_goesOn 112 = .ok (.invokevirtual 40, 3) := by decide +kernel
theorem dX2_goesOn_115 : decode cX2_goesOn 115 = .ok (.ifCond .eq 7, 3) := by decide +kernel
theorem dX2_goesOn_118 : decode cX2_goesOn 118 = .ok (.iconst 1, 1) := by decide +kernel
theorem dX2_goesOn_119 : decode cX2_goesOn 119 = .ok (.goto 4, 3) := by decide +kernel
theorem dX2_goesOn_122 : decode cX2_goesOn 122 = .ok (.iconst 0, 1) := by decide +kernel
theorem dX2_goesOn_123 : decode cX2_goesOn 123 = .ok (.ireturn, 1) := by decide +kernel
theorem dX2_goesOn_124 : decode cX2_goesOn 124 = .ok (.aload_n 0, 1) := by decide +kernel
theorem dX2_goesOn_125 : decode cX2_goesOn 125 = .ok (.iload_n 1, 1) := by decide +kernel
theorem dX2_goesOn_126 : decode cX2_goesOn 126 = .ok (.invokevirtual 40, 3) := by decide +kernel
theorem dX2_goesOn_129 : decode cX2_goesOn 129 = .ok (.ireturn, 1) := by decide +kernel
theorem dX2_goesOn_130 : decode cX2_goesOn 130 = .ok (.aload_n 0, 1) := by decide +kernel
theorem dX2_goesOn_131 : decode cX2_goesOn 131 = .ok (.iload_n 1, 1) := by decide +kernel
theorem dX2_goesOn_132 : decode cX2_goesOn 132 = .ok (.invokevirtual 43, 3) := by decide +kernel
theorem dX2_goesOn_135 : decode cX2_goesOn 135 = .ok (.ireturn, 1) := by decide +kernel
def B_X2_goesOn_118 (M : Mem) : Option (Int32 × Mem) := some ((1 : Int32), M)
def f_X2_goesOn (x1 : Int32) (M : Mem) : Option (Int32 × Mem) := if (mI M 259 0) = (0 : Int32) then if x1 < (65 : Int32) then some ((0 : Int32), M) else if (90 : Int32) < x1 then some ((0 : Int32), M) else (f_X2_become (1 : Int32) M).bind fun q6 => if q6.1 = 0 then some ((0 : Int32), q6.2) else some ((1 : Int32), q6.2) else if (mI M 259 0) = (1 : Int32) then if x1 = (58 : Int32) then (f_X2_become (2 : Int32) M).bind fun q13 => if q13.1 = 0 then some ((0 : Int32), q13.2) else some ((1 : Int32), q13.2) else some ((0 : Int32), M) else if (mI M 259 0) = (2 : Int32) then (f_X2_beginsTest x1 M).bind fun q19 => some (q19.1, q19.2) else if (mI M 259 0) = (3 : Int32) then (f_X2_beginsAtom x1 M).bind fun q24 => some (q24.1, q24.2) else if (mI M 259 0) = (4 : Int32) then (f_X2_addsDigit x1 M).bind fun q29 => if q29.1 = 0 then (f_X2_followsAtom x1 q29.2).bind fun q34 => if q34.1 = 0 then some ((0 : Int32), q34.2) else B_X2_goesOn_118 q34.2 else B_X2_goesOn_118 q29.2 else if (mI M 259 0) = (5 : Int32) then (f_X2_followsAtom x1 M).bind fun q40 => some (q40.1, q40.2) else (f_X2_followsTest x1 M).bind fun q44 => some (q44.1, q44.2)
set_option maxRecDepth 100000 in
set_option maxHeartbeats 4000000 in
theorem b_X2_goesOn_118 (Z : Sys) (X : Cx) (hR : xR X = rm_X2_goesOn) {q : Int32 × Mem} (hq : RetOk Z X (some .boolean) False (PostZ q.1 q.2) 0 0) {M : Mem} (hs : St M) (hf : B_X2_goesOn_118 M = some q) : G Z X Y_X2_goesOn False 0 0 118 [] [] M := by
  unfold B_X2_goesOn_118 at hf
  refine G.iconst 118 (1 : Int32) dX2_goesOn_118 (by decide +kernel) ?_
  refine G.goto 119 123 dX2_goesOn_119 (by decide) ?_
  (have hf9 := Option.some.inj hf; subst hf9)
  exact G.rZ 123 hq dX2_goesOn_123 hs (Or.inr rfl)
set_option maxRecDepth 100000 in
set_option maxHeartbeats 4000000 in
theorem c_X2_goesOn (Z : Sys) {M : Mem} (hs : St M) (x1 : Int32) {q : Int32 × Mem} (hf : f_X2_goesOn x1 M = some q) : Ct Z yX2_goesOn cX2_goesOn 2 (some .boolean) rm_X2_goesOn [.ref (zs Z + 259), .int x1] M False (PostZ q.1 q.2) := by
  refine Ct.of (by decide +kernel) (Nat.le_of_ble_eq_true rfl) (fun X hR hq _ => ?_)
  show G Z X Y_X2_goesOn False 0 0 0 [(0, .ref (zs Z + 259)), (1, .int x1)] [] M
  replace hq : RetOk Z X (some .boolean) False (PostZ q.1 q.2) 0 0 := hq
  unfold f_X2_goesOn at hf
  refine G.aload_n 0 0 dX2_goesOn_0 rfl rfl ?_
  refine G.geti 1 ck_2 0 (hs.k k0_259) (by decide) (by decide +kernel) wd_350 dX2_goesOn_1 ?_
  by_cases h1 : (mI M 259 0) = (0 : Int32)
  · replace hf := (if_pos h1).symm.trans hf
    refine G.tableIn 4 44 (off := 40) dX2_goesOn_4 (by rw [h1]; decide +kernel) (by rw [h1]; decide +kernel) (by rw [h1]; decide +kernel) (by decide) ?_
    refine G.iload_n 44 1 dX2_goesOn_44 rfl rfl ?_
    refine G.bipush 45 (65 : Int32) dX2_goesOn_45 (by decide +kernel) ?_
    refine G.icmp_lt 47 68 dX2_goesOn_47 (by decide) (fun h2 => ?_) (fun h2 => ?_)
    · replace hf := (if_pos h2).symm.trans hf
      refine G.iconst 68 (0 : Int32) dX2_goesOn_68 (by decide +kernel) ?_
      (have hf9 := Option.some.inj hf; subst hf9)
      exact G.rZ 69 hq dX2_goesOn_69 hs (Or.inl rfl)
    · replace hf := (if_neg h2).symm.trans hf
      refine G.iload_n 50 1 dX2_goesOn_50 rfl rfl ?_
      refine G.bipush 51 (90 : Int32) dX2_goesOn_51 (by decide +kernel) ?_
      refine G.icmp_gt 53 68 dX2_goesOn_53 (by decide) (fun h3 => ?_) (fun h3 => ?_)
      · replace hf := (if_pos h3).symm.trans hf
        refine G.iconst 68 (0 : Int32) dX2_goesOn_68 (by decide +kernel) ?_
        (have hf9 := Option.some.inj hf; subst hf9)
        exact G.rZ 69 hq dX2_goesOn_69 hs (Or.inl rfl)
      · replace hf := (if_neg h3).symm.trans hf
        refine G.aload_n 56 0 dX2_goesOn_56 rfl rfl ?_
        refine G.iconst 57 (1 : Int32) dX2_goesOn_57 (by decide +kernel) ?_
        obtain ⟨q6, e7, hf⟩ := bd_e hf
        refine G.cvZ 58 (As := [.int (1 : Int32)]) ck_2 (hs.k k0_259) (c_X2_become Z hs (1 : Int32) e7) mk_X2_become vk_X2_become rfl wd_890 hR (by decide +kernel) ⟨rfl, rfl⟩ rfl (Nat.le_of_ble_eq_true rfl) dX2_goesOn_58 (fun hs4 z5 => ?_)
        refine G.if_eq 61 68 dX2_goesOn_61 (by decide) (fun h8 => ?_) (fun h8 => ?_)
        · replace hf := (if_pos h8).symm.trans hf
          refine G.iconst 68 (0 : Int32) dX2_goesOn_68 (by decide +kernel) ?_
          (have hf9 := Option.some.inj hf; subst hf9)
          exact G.rZ 69 hq dX2_goesOn_69 hs4 (Or.inl rfl)
        · replace hf := (if_neg h8).symm.trans hf
          refine G.iconst 64 (1 : Int32) dX2_goesOn_64 (by decide +kernel) ?_
          refine G.goto 65 69 dX2_goesOn_65 (by decide) ?_
          (have hf9 := Option.some.inj hf; subst hf9)
          exact G.rZ 69 hq dX2_goesOn_69 hs4 (Or.inr rfl)
  · replace hf := (if_neg h1).symm.trans hf
    by_cases h9 : (mI M 259 0) = (1 : Int32)
    · replace hf := (if_pos h9).symm.trans hf
      refine G.tableIn 4 70 (off := 66) dX2_goesOn_4 (by rw [h9]; decide +kernel) (by rw [h9]; decide +kernel) (by rw [h9]; decide +kernel) (by decide) ?_
      refine G.iload_n 70 1 dX2_goesOn_70 rfl rfl ?_
      refine G.bipush 71 (58 : Int32) dX2_goesOn_71 (by decide +kernel) ?_
      refine G.icmp_ne 73 88 dX2_goesOn_73 (by decide) (fun h10 => ?_) (fun h10 => ?_)
      · replace hf := (if_neg h10).symm.trans hf
        refine G.iconst 88 (0 : Int32) dX2_goesOn_88 (by decide +kernel) ?_
        (have hf9 := Option.some.inj hf; subst hf9)
        exact G.rZ 89 hq dX2_goesOn_89 hs (Or.inl rfl)
      · replace hf := (if_pos h10).symm.trans hf
        refine G.aload_n 76 0 dX2_goesOn_76 rfl rfl ?_
        refine G.iconst 77 (2 : Int32) dX2_goesOn_77 (by decide +kernel) ?_
        obtain ⟨q13, e14, hf⟩ := bd_e hf
        refine G.cvZ 78 (As := [.int (2 : Int32)]) ck_2 (hs.k k0_259) (c_X2_become Z hs (2 : Int32) e14) mk_X2_become vk_X2_become rfl wd_890 hR (by decide +kernel) ⟨rfl, rfl⟩ rfl (Nat.le_of_ble_eq_true rfl) dX2_goesOn_78 (fun hs11 z12 => ?_)
        refine G.if_eq 81 88 dX2_goesOn_81 (by decide) (fun h15 => ?_) (fun h15 => ?_)
        · replace hf := (if_pos h15).symm.trans hf
          refine G.iconst 88 (0 : Int32) dX2_goesOn_88 (by decide +kernel) ?_
          (have hf9 := Option.some.inj hf; subst hf9)
          exact G.rZ 89 hq dX2_goesOn_89 hs11 (Or.inl rfl)
        · replace hf := (if_neg h15).symm.trans hf
          refine G.iconst 84 (1 : Int32) dX2_goesOn_84 (by decide +kernel) ?_
          refine G.goto 85 89 dX2_goesOn_85 (by decide) ?_
          (have hf9 := Option.some.inj hf; subst hf9)
          exact G.rZ 89 hq dX2_goesOn_89 hs11 (Or.inr rfl)
    · replace hf := (if_neg h9).symm.trans hf
      by_cases h16 : (mI M 259 0) = (2 : Int32)
      · replace hf := (if_pos h16).symm.trans hf
        refine G.tableIn 4 90 (off := 86) dX2_goesOn_4 (by rw [h16]; decide +kernel) (by rw [h16]; decide +kernel) (by rw [h16]; decide +kernel) (by decide) ?_
        refine G.aload_n 90 0 dX2_goesOn_90 rfl rfl ?_
        refine G.iload_n 91 1 dX2_goesOn_91 rfl rfl ?_
        obtain ⟨q19, e20, hf⟩ := bd_e hf
        refine G.cvZ 92 (As := [.int x1]) ck_2 (hs.k k0_259) (c_X2_beginsTest Z hs x1 e20) mk_X2_beginsTest vk_X2_beginsTest rfl wd_894 hR (by decide +kernel) ⟨rfl, rfl⟩ rfl (Nat.le_of_ble_eq_true rfl) dX2_goesOn_92 (fun hs17 z18 => ?_)
        (have hf9 := Option.some.inj hf; subst hf9)
        exact G.rZ 95 hq dX2_goesOn_95 hs17 z18
      · replace hf := (if_neg h16).symm.trans hf
        by_cases h21 : (mI M 259 0) = (3 : Int32)
        · replace hf := (if_pos h21).symm.trans hf
          refine G.tableIn 4 96 (off := 92) dX2_goesOn_4 (by rw [h21]; decide +kernel) (by rw [h21]; decide +kernel) (by rw [h21]; decide +kernel) (by decide) ?_
          refine G.aload_n 96 0 dX2_goesOn_96 rfl rfl ?_
          refine G.iload_n 97 1 dX2_goesOn_97 rfl rfl ?_
          obtain ⟨q24, e25, hf⟩ := bd_e hf
          refine G.cvZ 98 (As := [.int x1]) ck_2 (hs.k k0_259) (c_X2_beginsAtom Z hs x1 e25) mk_X2_beginsAtom vk_X2_beginsAtom rfl wd_898 hR (by decide +kernel) ⟨rfl, rfl⟩ rfl (Nat.le_of_ble_eq_true rfl) dX2_goesOn_98 (fun hs22 z23 => ?_)
          (have hf9 := Option.some.inj hf; subst hf9)
          exact G.rZ 101 hq dX2_goesOn_101 hs22 z23
        · replace hf := (if_neg h21).symm.trans hf
          by_cases h26 : (mI M 259 0) = (4 : Int32)
          · replace hf := (if_pos h26).symm.trans hf
            refine G.tableIn 4 102 (off := 98) dX2_goesOn_4 (by rw [h26]; decide +kernel) (by rw [h26]; decide +kernel) (by rw [h26]; decide +kernel) (by decide) ?_
            refine G.aload_n 102 0 dX2_goesOn_102 rfl rfl ?_
            refine G.iload_n 103 1 dX2_goesOn_103 rfl rfl ?_
            obtain ⟨q29, e30, hf⟩ := bd_e hf
            refine G.cvZ 104 (As := [.int x1]) ck_2 (hs.k k0_259) (c_X2_addsDigit Z hs x1 e30) mk_X2_addsDigit vk_X2_addsDigit rfl wd_991 hR (by decide +kernel) ⟨rfl, rfl⟩ rfl (Nat.le_of_ble_eq_true rfl) dX2_goesOn_104 (fun hs27 z28 => ?_)
            refine G.if_ne 107 118 dX2_goesOn_107 (by decide) (fun h31 => ?_) (fun h31 => ?_)
            · replace hf := (if_neg h31).symm.trans hf
              refine G.locs [] rfl ?_
              exact b_X2_goesOn_118 Z X hR hq hs27 hf
            · replace hf := (if_pos h31).symm.trans hf
              refine G.aload_n 110 0 dX2_goesOn_110 rfl rfl ?_
              refine G.iload_n 111 1 dX2_goesOn_111 rfl rfl ?_
              obtain ⟨q34, e35, hf⟩ := bd_e hf
              refine G.cvZ 112 (As := [.int x1]) ck_2 (hs27.k k0_259) (c_X2_followsAtom Z hs27 x1 e35) mk_X2_followsAtom vk_X2_followsAtom rfl wd_995 hR (by decide +kernel) ⟨rfl, rfl⟩ rfl (Nat.le_of_ble_eq_true rfl) dX2_goesOn_112 (fun hs32 z33 => ?_)
              refine G.if_eq 115 122 dX2_goesOn_115 (by decide) (fun h36 => ?_) (fun h36 => ?_)
              · replace hf := (if_pos h36).symm.trans hf
                refine G.iconst 122 (0 : Int32) dX2_goesOn_122 (by decide +kernel) ?_
                (have hf9 := Option.some.inj hf; subst hf9)
                exact G.rZ 123 hq dX2_goesOn_123 hs32 (Or.inl rfl)
              · replace hf := (if_neg h36).symm.trans hf
                refine G.locs [] rfl ?_
                exact b_X2_goesOn_118 Z X hR hq hs32 hf
          · replace hf := (if_neg h26).symm.trans hf
            by_cases h37 : (mI M 259 0) = (5 : Int32)
            · replace hf := (if_pos h37).symm.trans hf
              refine G.tableIn 4 124 (off := 120) dX2_goesOn_4 (by rw [h37]; decide +kernel) (by rw [h37]; decide +kernel) (by rw [h37]; decide +kernel) (by decide) ?_
              refine G.aload_n 124 0 dX2_goesOn_124 rfl rfl ?_
              refine G.iload_n 125 1 dX2_goesOn_125 rfl rfl ?_
              obtain ⟨q40, e41, hf⟩ := bd_e hf
              refine G.cvZ 126 (As := [.int x1]) ck_2 (hs.k k0_259) (c_X2_followsAtom Z hs x1 e41) mk_X2_followsAtom vk_X2_followsAtom rfl wd_995 hR (by decide +kernel) ⟨rfl, rfl⟩ rfl (Nat.le_of_ble_eq_true rfl) dX2_goesOn_126 (fun hs38 z39 => ?_)
              (have hf9 := Option.some.inj hf; subst hf9)
              exact G.rZ 129 hq dX2_goesOn_129 hs38 z39
            · replace hf := (if_neg h37).symm.trans hf
              have t_h1 := ti (0 : Int32) (0) (by decide +kernel) h1
              have t_h9 := ti (1 : Int32) (1) (by decide +kernel) h9
              have t_h16 := ti (2 : Int32) (2) (by decide +kernel) h16
              have t_h21 := ti (3 : Int32) (3) (by decide +kernel) h21
              have t_h26 := ti (4 : Int32) (4) (by decide +kernel) h26
              have t_h37 := ti (5 : Int32) (5) (by decide +kernel) h37
              refine G.tableOut 4 130 dX2_goesOn_4 (by omega) (by decide) ?_
              refine G.aload_n 130 0 dX2_goesOn_130 rfl rfl ?_
              refine G.iload_n 131 1 dX2_goesOn_131 rfl rfl ?_
              obtain ⟨q44, e45, hf⟩ := bd_e hf
              refine G.cvZ 132 (As := [.int x1]) ck_2 (hs.k k0_259) (c_X2_followsTest Z hs x1 e45) mk_X2_followsTest vk_X2_followsTest rfl wd_999 hR (by decide +kernel) ⟨rfl, rfl⟩ rfl (Nat.le_of_ble_eq_true rfl) dX2_goesOn_132 (fun hs42 z43 => ?_)
              (have hf9 := Option.some.inj hf; subst hf9)
              exact G.rZ 135 hq dX2_goesOn_135 hs42 z43
abbrev Y_X2_isWhole : My := (cX2_isWhole, RX2, 2)
def rm_X2_isWhole : Room := { frames := 1, cells := 0, slots := 0, locals := 200 }
theorem dX2_isWhole_0 : decode cX2_isWhole 0 = .ok (.aload_n 0, 1) := by decide +kernel
theorem dX2_isWhole_1 : decode cX2_isWhole 1 = .ok (.getfield 24, 3) := by decide +kernel
theorem dX2_isWhole_4 : decode cX2_isWhole 4 = .ok (.ifCond .eq 23, 3) := by decide +kernel
theorem dX2_isWhole_7 : decode cX2_isWhole 7 = .ok (.aload_n 0, 1) := by decide +kernel
theorem dX2_isWhole_8 : decode cX2_isWhole 8 = .ok (.getfield 9, 3) := by decide +kernel
theorem dX2_isWhole_11 : decode cX2_isWhole 11 = .ok (.iconst 4, 1) := by decide +kernel
theorem dX2_isWhole_12 : decode cX2_isWhole 12 = .ok (.if_icmp .eq 11, 3) := by decide +kernel
theorem dX2_isWhole_15 : decode cX2_isWhole 15 = .ok (.aload_n 0, 1) := by decide +kernel
theorem dX2_isWhole_16 : decode cX2_isWhole 16 = .ok (.getfield 9, 3) := by decide +kernel
theorem dX2_isWhole_19 : decode cX2_isWhole 19 = .ok (.iconst 5, 1) := by decide +kernel
theorem dX2_isWhole_20 : decode cX2_isWhole 20 = .ok (.if_icmp .ne 7, 3) := by decide +kernel
theorem dX2_isWhole_23 : decode cX2_isWhole 23 = .ok (.iconst 1, 1) := by decide +kernel
theorem dX2_isWhole_24 : decode cX2_isWhole 24 = .ok (.goto 4, 3) := by decide +kernel
theorem dX2_isWhole_27 : decode cX2_isWhole 27 = .ok (.iconst 0, 1) := by decide +kernel
theorem dX2_isWhole_28 : decode cX2_isWhole 28 = .ok (.istore_n 1, 1) := by decide +kernel
theorem dX2_isWhole_29 : decode cX2_isWhole 29 = .ok (.aload_n 0, 1) := by decide +kernel
theorem dX2_isWhole_30 : decode cX2_isWhole 30 = .ok (.getfield 13, 3) := by decide +kernel
theorem dX2_isWhole_33 : decode cX2_isWhole 33 = .ok (.ifCond .ne 20, 3) := by decide +kernel
theorem dX2_isWhole_36 : decode cX2_isWhole 36 = .ok (.iload_n 1, 1) := by decide +kernel
theorem dX2_isWhole_37 : decode cX2_isWhole 37 = .ok (.ifCond .ne 12, 3) := by decide +kernel
theorem dX2_isWhole_40 : decode cX2_isWhole 40 = .ok (.aload_n 0, 1) := by decide +kernel
theorem dX2_isWhole_41 : decode cX2_isWhole 41 = .ok (.getfield 9, 3) := by decide +kernel
theorem dX2_isWhole_44 : decode cX2_isWhole 44 = .ok (.bipush 6, 2) := by decide +kernel
theorem dX2_isWhole_46 : decode cX2_isWhole 46 = .ok (.if_icmp .ne 7, 3) := by decide +kernel
theorem dX2_isWhole_49 : decode cX2_isWhole 49 = .ok (.iconst 1, 1) := by decide +kernel
theorem dX2_isWhole_50 : decode cX2_isWhole 50 = .ok (.goto 4, 3) := by decide +kernel
theorem dX2_isWhole_53 : decode cX2_isWhole 53 = .ok (.iconst 0, 1) := by decide +kernel
theorem dX2_isWhole_54 : decode cX2_isWhole 54 = .ok (.ireturn, 1) := by decide +kernel
def B_X2_isWhole_49 (M : Mem) : Int32 := (1 : Int32)
def B_X2_isWhole_27 (M : Mem) : Int32 := if (mI M 259 1) = 0 then if (0 : Int32) = 0 then if (mI M 259 0) = (6 : Int32) then B_X2_isWhole_49 M else (0 : Int32) else B_X2_isWhole_49 M else (0 : Int32)
def B_X2_isWhole_23 (M : Mem) : Int32 := if (mI M 259 1) = 0 then if (1 : Int32) = 0 then if (mI M 259 0) = (6 : Int32) then B_X2_isWhole_49 M else (0 : Int32) else B_X2_isWhole_49 M else (0 : Int32)
def f_X2_isWhole (M : Mem) : Int32 := if (mI M 259 2) = 0 then B_X2_isWhole_27 M else if (mI M 259 0) = (4 : Int32) then B_X2_isWhole_23 M else if (mI M 259 0) = (5 : Int32) then B_X2_isWhole_23 M else B_X2_isWhole_27 M
set_option maxRecDepth 100000 in
set_option maxHeartbeats 4000000 in
theorem b_X2_isWhole_49 (Z : Sys) (X : Cx) (hR : xR X = rm_X2_isWhole) {q : Int32} {M : Mem} (hq : RetOk Z X (some .boolean) False (PostZ q M) 0 0) (hs : St M) (hf : B_X2_isWhole_49 M = q) : G Z X Y_X2_isWhole False 0 0 49 [] [] M := by
  unfold B_X2_isWhole_49 at hf
  refine G.iconst 49 (1 : Int32) dX2_isWhole_49 (by decide +kernel) ?_
  refine G.goto 50 54 dX2_isWhole_50 (by decide) ?_
  subst hf
  exact G.rZ 54 hq dX2_isWhole_54 hs (Or.inr rfl)
set_option maxRecDepth 100000 in
set_option maxHeartbeats 4000000 in
theorem b_X2_isWhole_27 (Z : Sys) (X : Cx) (hR : xR X = rm_X2_isWhole) {q : Int32} {M : Mem} (hq : RetOk Z X (some .boolean) False (PostZ q M) 0 0) (hs : St M) (hf : B_X2_isWhole_27 M = q) : G Z X Y_X2_isWhole False 0 0 27 [(0, .ref (zs Z + 259))] [] M := by
  unfold B_X2_isWhole_27 at hf
  refine G.iconst 27 (0 : Int32) dX2_isWhole_27 (by decide +kernel) ?_
  refine G.istore_n 28 [(1, .int (0 : Int32)), (0, .ref (zs Z + 259))] dX2_isWhole_28 rfl (Nat.le_of_ble_eq_true rfl) rfl ?_
  refine G.aload_n 29 1 dX2_isWhole_29 rfl rfl ?_
  refine G.geti 30 ck_2 1 (hs.k k0_259) (by decide) (by decide +kernel) wd_351 dX2_isWhole_30 ?_
  refine G.if_ne 33 53 dX2_isWhole_33 (by decide) (fun h2 => ?_) (fun h2 => ?_)
  · replace hf := (if_neg h2).symm.trans hf
    refine G.iconst 53 (0 : Int32) dX2_isWhole_53 (by decide +kernel) ?_
    subst hf
    exact G.rZ 54 hq dX2_isWhole_54 hs (Or.inl rfl)
  · replace hf := (if_pos h2).symm.trans hf
    refine G.iload_n 36 0 dX2_isWhole_36 rfl rfl ?_
    refine G.if_ne 37 49 dX2_isWhole_37 (by decide) (fun h3 => ?_) (fun h3 => ?_)
    · replace hf := (if_neg h3).symm.trans hf
      refine G.locs [] rfl ?_
      exact b_X2_isWhole_49 Z X hR hq hs hf
    · replace hf := (if_pos h3).symm.trans hf
      refine G.aload_n 40 1 dX2_isWhole_40 rfl rfl ?_
      refine G.geti 41 ck_2 0 (hs.k k0_259) (by decide) (by decide +kernel) wd_350 dX2_isWhole_41 ?_
      refine G.bipush 44 (6 : Int32) dX2_isWhole_44 (by decide +kernel) ?_
      refine G.icmp_ne 46 53 dX2_isWhole_46 (by decide) (fun h4 => ?_) (fun h4 => ?_)
      · replace hf := (if_neg h4).symm.trans hf
        refine G.iconst 53 (0 : Int32) dX2_isWhole_53 (by decide +kernel) ?_
        subst hf
        exact G.rZ 54 hq dX2_isWhole_54 hs (Or.inl rfl)
      · replace hf := (if_pos h4).symm.trans hf
        refine G.locs [] rfl ?_
        exact b_X2_isWhole_49 Z X hR hq hs hf
set_option maxRecDepth 100000 in
set_option maxHeartbeats 4000000 in
theorem b_X2_isWhole_23 (Z : Sys) (X : Cx) (hR : xR X = rm_X2_isWhole) {q : Int32} {M : Mem} (hq : RetOk Z X (some .boolean) False (PostZ q M) 0 0) (hs : St M) (hf : B_X2_isWhole_23 M = q) : G Z X Y_X2_isWhole False 0 0 23 [(0, .ref (zs Z + 259))] [] M := by
  unfold B_X2_isWhole_23 at hf
  refine G.iconst 23 (1 : Int32) dX2_isWhole_23 (by decide +kernel) ?_
  refine G.goto 24 28 dX2_isWhole_24 (by decide) ?_
  refine G.istore_n 28 [(1, .int (1 : Int32)), (0, .ref (zs Z + 259))] dX2_isWhole_28 rfl (Nat.le_of_ble_eq_true rfl) rfl ?_
  refine G.aload_n 29 1 dX2_isWhole_29 rfl rfl ?_
  refine G.geti 30 ck_2 1 (hs.k k0_259) (by decide) (by decide +kernel) wd_351 dX2_isWhole_30 ?_
  refine G.if_ne 33 53 dX2_isWhole_33 (by decide) (fun h6 => ?_) (fun h6 => ?_)
  · replace hf := (if_neg h6).symm.trans hf
    refine G.iconst 53 (0 : Int32) dX2_isWhole_53 (by decide +kernel) ?_
    subst hf
    exact G.rZ 54 hq dX2_isWhole_54 hs (Or.inl rfl)
  · replace hf := (if_pos h6).symm.trans hf
    refine G.iload_n 36 0 dX2_isWhole_36 rfl rfl ?_
    refine G.if_ne 37 49 dX2_isWhole_37 (by decide) (fun h7 => ?_) (fun h7 => ?_)
    · replace hf := (if_neg h7).symm.trans hf
      refine G.locs [] rfl ?_
      exact b_X2_isWhole_49 Z X hR hq hs hf
    · replace hf := (if_pos h7).symm.trans hf
      refine G.aload_n 40 1 dX2_isWhole_40 rfl rfl ?_
      refine G.geti 41 ck_2 0 (hs.k k0_259) (by decide) (by decide +kernel) wd_350 dX2_isWhole_41 ?_
      refine G.bipush 44 (6 : Int32) dX2_isWhole_44 (by decide +kernel) ?_
      refine G.icmp_ne 46 53 dX2_isWhole_46 (by decide) (fun h8 => ?_) (fun h8 => ?_)
      · replace hf := (if_neg h8).symm.trans hf
        refine G.iconst 53 (0 : Int32) dX2_isWhole_53 (by decide +kernel) ?_
        subst hf
        exact G.rZ 54 hq dX2_isWhole_54 hs (Or.inl rfl)
      · replace hf := (if_pos h8).symm.trans hf
        refine G.locs [] rfl ?_
        exact b_X2_isWhole_49 Z X hR hq hs hf
set_option maxRecDepth 100000 in
set_option maxHeartbeats 4000000 in
theorem c_X2_isWhole (Z : Sys) {M : Mem} (hs : St M) {q : Int32} (hf : f_X2_isWhole M = q) : Ct Z yX2_isWhole cX2_isWhole 2 (some .boolean) rm_X2_isWhole [.ref (zs Z + 259)] M False (PostZ q M) := by
  refine Ct.of (by decide +kernel) (Nat.le_of_ble_eq_true rfl) (fun X hR hq _ => ?_)
  show G Z X Y_X2_isWhole False 0 0 0 [(0, .ref (zs Z + 259))] [] M
  replace hq : RetOk Z X (some .boolean) False (PostZ q M) 0 0 := hq
  unfold f_X2_isWhole at hf
  refine G.aload_n 0 0 dX2_isWhole_0 rfl rfl ?_
  refine G.geti 1 ck_2 2 (hs.k k0_259) (by decide) (by decide +kernel) wd_352 dX2_isWhole_1 ?_
  refine G.if_eq 4 27 dX2_isWhole_4 (by decide) (fun h1 => ?_) (fun h1 => ?_)
  · replace hf := (if_pos h1).symm.trans hf
    exact b_X2_isWhole_27 Z X hR hq hs hf
  · replace hf := (if_neg h1).symm.trans hf
    refine G.aload_n 7 0 dX2_isWhole_7 rfl rfl ?_
    refine G.geti 8 ck_2 0 (hs.k k0_259) (by decide) (by decide +kernel) wd_350 dX2_isWhole_8 ?_
    refine G.iconst 11 (4 : Int32) dX2_isWhole_11 (by decide +kernel) ?_
    refine G.icmp_eq 12 23 dX2_isWhole_12 (by decide) (fun h5 => ?_) (fun h5 => ?_)
    · replace hf := (if_pos h5).symm.trans hf
      exact b_X2_isWhole_23 Z X hR hq hs hf
    · replace hf := (if_neg h5).symm.trans hf
      refine G.aload_n 15 0 dX2_isWhole_15 rfl rfl ?_
      refine G.geti 16 ck_2 0 (hs.k k0_259) (by decide) (by decide +kernel) wd_350 dX2_isWhole_16 ?_
      refine G.iconst 19 (5 : Int32) dX2_isWhole_19 (by decide +kernel) ?_
      refine G.icmp_ne 20 27 dX2_isWhole_20 (by decide) (fun h9 => ?_) (fun h9 => ?_)
      · replace hf := (if_neg h9).symm.trans hf
        exact b_X2_isWhole_27 Z X hR hq hs hf
      · replace hf := (if_pos h9).symm.trans hf
        exact b_X2_isWhole_23 Z X hR hq hs hf
abbrev Y_X2_faultOf : My := (cX2_faultOf, RX2, 4)
def rm_X2_faultOf : Room := { frames := 9, cells := 0, slots := 0, locals := 374 }
theorem dX2_faultOf_0 : decode cX2_faultOf 0 = .ok (.aload_n 0, 1) := by decide +kernel
theorem dX2_faultOf_1 : decode cX2_faultOf 1 = .ok (.iconst 0, 1) := by decide +kernel
theorem dX2_faultOf_2 : decode cX2_faultOf 2 = .ok (.putfield 9, 3) := by decide +kernel
theorem dX2_faultOf_5 : decode cX2_faultOf 5 = .ok (.aload_n 0, 1) := by decide +kernel
theorem dX2_faultOf_6 : decode cX2_faultOf 6 = .ok (.iconst 0, 1) := by decide +kernel
theorem dX2_faultOf_7 : decode cX2_faultOf 7 = .ok (.putfield 13, 3) := by decide +kernel
theorem dX2_faultOf_10 : decode cX2_faultOf 10 = .ok (.iconst 0, 1) := by decide +kernel
theorem dX2_faultOf_11 : decode cX2_faultOf 11 = .ok (.istore_n 3, 1) := by decide +kernel
theorem dX2_faultOf_12 : decode cX2_faultOf 12 = .ok (.iload_n 3, 1) := by decide +kernel
theorem dX2_faultOf_13 : decode cX2_faultOf 13 = .ok (.iload_n 2, 1) := by decide +kernel
theorem dX2_faultOf_14 : decode cX2_faultOf 14 = .ok (.if_icmp .ge 27, 3) := by decide +kernel
theorem dX2_faultOf_17 : decode cX2_faultOf 17 = .ok (.iload_n 3, 1) := by decide +kernel
theorem dX2_faultOf_18 : decode cX2_faultOf 18 = .ok (.aload_n 1, 1) := by decide +kernel
theorem dX2_faultOf_19 : decode cX2_faultOf 19 = .ok (.arraylength, 1) := by decide +kernel
theorem dX2_faultOf_20 : decode cX2_faultOf 20 = .ok (.if_icmp .ge 21, 3) := by decide +kernel
theorem dX2_faultOf_23 : decode cX2_faultOf 23 = .ok (.aload_n 0, 1) := by decide +kernel
theorem dX2_faultOf_24 : decode cX2_faultOf 24 = .ok (.aload_n 1, 1) := by decide +kernel
theorem dX2_faultOf_25 : decode cX2_faultOf 25 = .ok (.iload_n 3, 1) := by decide +kernel
theorem dX2_faultOf_26 : decode cX2_faultOf 26 = .ok (.iaload, 1) := by decide +kernel
theorem dX2_faultOf_27 : decode cX2_faultOf 27 = .ok (.invokevirtual 16, 3) := by decide +kernel
theorem dX2_faultOf_30 : decode cX2_faultOf 30 = .ok (.ifCond .ne 5, 3) := by decide +kernel
theorem dX2_faultOf_33 : decode cX2_faultOf 33 = .ok (.iload_n 3, 1) := by decide +kernel
theorem dX2_faultOf_34 : decode cX2_faultOf 34 = .ok (.ireturn, 1) := by decide +kernel
theorem dX2_faultOf_35 : decode cX2_faultOf 35 = .ok (.iinc 3 1, 3) := by decide +kernel
theorem dX2_faultOf_38 : decode cX2_faultOf 38 = .ok (.goto (-26), 3) := by decide +kernel
theorem dX2_faultOf_41 : decode cX2_faultOf 41 = .ok (.aload_n 0, 1) := by decide +kernel
theorem dX2_faultOf_42 : decode cX2_faultOf 42 = .ok (.invokevirtual 20, 3) := by decide +kernel
theorem dX2_faultOf_45 : decode cX2_faultOf 45 = .ok (.ifCond .eq 7, 3) := by decide +kernel
theorem dX2_faultOf_48 : decode cX2_faultOf 48 = .ok (.iconst (-1), 1) := by decide +kernel
theorem dX2_faultOf_49 : decode cX2_faultOf 49 = .ok (.goto 4, 3) := by decide +kernel
theorem dX2_faultOf_52 : decode cX2_faultOf 52 = .ok (.iload_n 2, 1) := by decide +kernel
theorem dX2_faultOf_53 : decode cX2_faultOf 53 = .ok (.ireturn, 1) := by decide +kernel
def B_X2_faultOf_41 (x2 : Int32) (M : Mem) : Option (Int32 × Mem) := if (f_X2_isWhole M) = 0 then some (x2, M) else some ((-1 : Int32), M)
def L_X2_faultOf_12 : Nat → Nat → Int32 → Int32 → Mem → Option (Int32 × Mem)
  | 0, _, _, _, _ => none
  | n + 1, a1, x2, x3, M => if x2 ≤ x3 then B_X2_faultOf_41 x2 M else if (Int32.ofNat (ln a1)) ≤ x3 then B_X2_faultOf_41 x2 M else gd (inR x3 (ln a1)) ((f_X2_goesOn (mI M a1 x3.toNatClampNeg) M).bind fun q9 => if q9.1 = 0 then some (x3, q9.2) else L_X2_faultOf_12 n a1 x2 (x3 + 1) q9.2)
def f_X2_faultOf (a1 : Nat) (x2 : Int32) (M : Mem) : Option (Int32 × Mem) := L_X2_faultOf_12 FU a1 x2 (0 : Int32) (sI (sI M 259 0 (0 : Int32)) 259 1 (0 : Int32))
set_option maxRecDepth 100000 in
set_option maxHeartbeats 4000000 in
theorem b_X2_faultOf_41 (Z : Sys) (X : Cx) (hR : xR X = rm_X2_faultOf) {q : Int32 × Mem} (hq : RetOk Z X (some .int) False (PostI q.1 q.2) 0 0) (x2 : Int32) {M : Mem} (hs : St M) (hf : B_X2_faultOf_41 x2 M = some q) : G Z X Y_X2_faultOf False 0 0 41 [(0, .ref (zs Z + 259)), (2, .int x2)] [] M := by
  unfold B_X2_faultOf_41 at hf
  refine G.aload_n 41 0 dX2_faultOf_41 rfl rfl ?_
  refine G.cvZ 42 (As := []) ck_2 (hs.k k0_259) (c_X2_isWhole Z hs rfl) mk_X2_isWhole vk_X2_isWhole rfl wd_1003 hR (by decide +kernel) ⟨rfl, rfl⟩ rfl (Nat.le_of_ble_eq_true rfl) dX2_faultOf_42 (fun hs2 z3 => ?_)
  refine G.if_eq 45 52 dX2_faultOf_45 (by decide) (fun h4 => ?_) (fun h4 => ?_)
  · replace hf := (if_pos h4).symm.trans hf
    refine G.iload_n 52 1 dX2_faultOf_52 rfl rfl ?_
    (have hf9 := Option.some.inj hf; subst hf9)
    exact G.rI 53 hq dX2_faultOf_53 hs2
  · replace hf := (if_neg h4).symm.trans hf
    refine G.iconst 48 (-1 : Int32) dX2_faultOf_48 (by decide +kernel) ?_
    refine G.goto 49 53 dX2_faultOf_49 (by decide) ?_
    (have hf9 := Option.some.inj hf; subst hf9)
    exact G.rI 53 hq dX2_faultOf_53 hs2
set_option maxRecDepth 100000 in
set_option maxHeartbeats 4000000 in
theorem l_X2_faultOf_12 (Z : Sys) (X : Cx) (hR : xR X = rm_X2_faultOf) {q : Int32 × Mem} (hq : RetOk Z X (some .int) False (PostI q.1 q.2) 0 0) : ∀ (n : Nat) (a1 : Nat) (x2 : Int32) (x3 : Int32) (M : Mem) (hs : St M) (k_a1 : K0[a1]? = some (10, (ln a1))) (hf : L_X2_faultOf_12 n a1 x2 x3 M = some q), G Z X Y_X2_faultOf False 0 0 12 [(0, .ref (zs Z + 259)), (1, .ref (zs Z + a1)), (2, .int x2), (3, .int x3)] [] M := by
  intro n
  induction n with
  | zero => intro a1 x2 x3 M hs k_a1 hf; cases hf
  | succ n ih =>
    intro a1 x2 x3 M hs k_a1 hf
    unfold L_X2_faultOf_12 at hf
    refine G.iload_n 12 3 dX2_faultOf_12 rfl rfl ?_
    refine G.iload_n 13 2 dX2_faultOf_13 rfl rfl ?_
    refine G.icmp_ge 14 41 dX2_faultOf_14 (by decide) (fun h1 => ?_) (fun h1 => ?_)
    · replace hf := (if_pos h1).symm.trans hf
      refine G.locs [0, 2] rfl ?_
      exact b_X2_faultOf_41 Z X hR hq x2 hs hf
    · replace hf := (if_neg h1).symm.trans hf
      refine G.iload_n 17 3 dX2_faultOf_17 rfl rfl ?_
      refine G.aload_n 18 1 dX2_faultOf_18 rfl rfl ?_
      refine G.alen 19 (Int32.ofNat (ln a1)) (hs.k k_a1) (by decide) rfl dX2_faultOf_19 ?_
      refine G.icmp_ge 20 41 dX2_faultOf_20 (by decide) (fun h5 => ?_) (fun h5 => ?_)
      · replace hf := (if_pos h5).symm.trans hf
        refine G.locs [0, 2] rfl ?_
        exact b_X2_faultOf_41 Z X hR hq x2 hs hf
      · replace hf := (if_neg h5).symm.trans hf
        refine G.aload_n 23 0 dX2_faultOf_23 rfl rfl ?_
        refine G.aload_n 24 1 dX2_faultOf_24 rfl rfl ?_
        refine G.iload_n 25 3 dX2_faultOf_25 rfl rfl ?_
        obtain ⟨g6, hf⟩ := gd_e hf
        refine G.ia 26 x3.toNatClampNeg (hs.k k_a1) g6 rfl dX2_faultOf_26 ?_
        obtain ⟨q9, e10, hf⟩ := bd_e hf
        refine G.cvZ 27 (As := [.int (mI M a1 x3.toNatClampNeg)]) ck_2 (hs.k k0_259) (c_X2_goesOn Z hs (mI M a1 x3.toNatClampNeg) e10) mk_X2_goesOn vk_X2_goesOn rfl wd_886 hR (by decide +kernel) ⟨rfl, rfl⟩ rfl (Nat.le_of_ble_eq_true rfl) dX2_faultOf_27 (fun hs7 z8 => ?_)
        refine G.if_ne 30 35 dX2_faultOf_30 (by decide) (fun h11 => ?_) (fun h11 => ?_)
        · replace hf := (if_neg h11).symm.trans hf
          refine G.iinc 35 3 (x3 + 1) [(3, .int (x3 + 1)), (0, .ref (zs Z + 259)), (1, .ref (zs Z + a1)), (2, .int x2)] dX2_faultOf_35 rfl (congrArg (fun z => x3 + z) (by decide +kernel)) (Nat.le_of_ble_eq_true rfl) rfl ?_
          refine G.goto 38 12 dX2_faultOf_38 (by decide) ?_
          refine G.locs [1, 2, 3, 0] rfl ?_
          exact ih a1 x2 (x3 + 1) q9.2 hs7 (ln_k k_a1) hf
        · replace hf := (if_pos h11).symm.trans hf
          refine G.iload_n 33 3 dX2_faultOf_33 rfl rfl ?_
          (have hf9 := Option.some.inj hf; subst hf9)
          exact G.rI 34 hq dX2_faultOf_34 hs7
set_option maxRecDepth 100000 in
set_option maxHeartbeats 4000000 in
theorem c_X2_faultOf (Z : Sys) {M : Mem} (hs : St M) (a1 : Nat) (x2 : Int32) (k_a1 : K0[a1]? = some (10, (ln a1))) {q : Int32 × Mem} (hf : f_X2_faultOf a1 x2 M = some q) : Ct Z yX2_faultOf cX2_faultOf 4 (some .int) rm_X2_faultOf [.ref (zs Z + 259), .ref (zs Z + a1), .int x2] M False (PostI q.1 q.2) := by
  refine Ct.of (by decide +kernel) (Nat.le_of_ble_eq_true rfl) (fun X hR hq _ => ?_)
  show G Z X Y_X2_faultOf False 0 0 0 [(0, .ref (zs Z + 259)), (1, .ref (zs Z + a1)), (2, .int x2)] [] M
  replace hq : RetOk Z X (some .int) False (PostI q.1 q.2) 0 0 := hq
  unfold f_X2_faultOf at hf
  refine G.aload_n 0 0 dX2_faultOf_0 rfl rfl ?_
  refine G.iconst 1 (0 : Int32) dX2_faultOf_1 (by decide +kernel) ?_
  refine G.puti 2 ck_2 0 (hs.k k0_259) (by decide) (by decide +kernel) rfl wd_350 rfl rfl dX2_faultOf_2 ?_
  refine G.aload_n 5 0 dX2_faultOf_5 rfl rfl ?_
  refine G.iconst 6 (0 : Int32) dX2_faultOf_6 (by decide +kernel) ?_
  refine G.puti 7 ck_2 1 ((St.i hs).k k0_259) (by decide) (by decide +kernel) rfl wd_351 rfl rfl dX2_faultOf_7 ?_
  refine G.iconst 10 (0 : Int32) dX2_faultOf_10 (by decide +kernel) ?_
  refine G.istore_n 11 [(3, .int (0 : Int32)), (0, .ref (zs Z + 259)), (1, .ref (zs Z + a1)), (2, .int x2)] dX2_faultOf_11 rfl (Nat.le_of_ble_eq_true rfl) rfl ?_
  refine G.locs [1, 2, 3, 0] rfl ?_
  exact l_X2_faultOf_12 Z X hR hq FU a1 x2 (0 : Int32) (sI (sI M 259 0 (0 : Int32)) 259 1 (0 : Int32)) (St.i (St.i hs)) (ln_k k_a1) hf
abbrev Y_X4_consider : My := (cX4_consider, RX4, 6)
def rm_X4_consider : Room := { frames := 1, cells := 0, slots := 0, locals := 200 }
theorem dX4_consider_0 : decode cX4_consider 0 = .ok (.iload 4, 2) := by decide +kernel
theorem dX4_consider_2 : decode cX4_consider 2 = .ok (.istore 5, 2) := by decide +kernel
theorem dX4_consider_4 : decode cX4_consider 4 = .ok (.iload 5, 2) := by decide +kernel
theorem dX4_consider_6 : decode cX4_consider 6 = .ok (.iload_n 2, 1) := by decide +kernel
theorem dX4_consider_7 : decode cX4_consider 7 = .ok (.if_icmp .lt 68, 3) := by decide +kernel
theorem dX4_consider_10 : decode cX4_consider 10 = .ok (.aload_n 0, 1) := by decide +kernel
theorem dX4_consider_11 : decode cX4_consider 11 = .ok (.getfield 9, 3) := by decide +kernel
theorem dX4_consider_14 : decode cX4_consider 14 = .ok (.iload 5, 2) := by decide +kernel
theorem dX4_consider_16 : decode cX4_consider 16 = .ok (.iload_n 2, 1) := by decide +kernel
theorem dX4_consider_17 : decode cX4_consider 17 = .ok (.isub, 1) := by decide +kernel
theorem dX4_consider_18 : decode cX4_consider 18 = .ok (.iaload, 1) := by decide +kernel
theorem dX4_consider_19 : decode cX4_consider 19 = .ok (.iload_n 3, 1) := by decide +kernel
theorem dX4_consider_20 : decode cX4_consider 20 = .ok (.iadd, 1) := by decide +kernel
theorem dX4_consider_21 : decode cX4_consider 21 = .ok (.aload_n 0, 1) := by decide +kernel
theorem dX4_consider_22 : decode cX4_consider 22 = .ok (.getfield 9, 3) := by decide +kernel
theorem dX4_consider_25 : decode cX4_consider 25 = .ok (.iload 5, 2) := by decide +kernel
theorem dX4_consider_27 : decode cX4_consider 27 = .ok (.iaload, 1) := by decide +kernel
theorem dX4_consider_28 : decode cX4_consider 28 = .ok (.if_icmp .le 41, 3) := by decide +kernel
theorem dX4_consider_31 : decode cX4_consider 31 = .ok (.aload_n 0, 1) := by decide +kernel
theorem dX4_consider_32 : decode cX4_consider 32 = .ok (.getfield 9, 3) := by decide +kernel
theorem dX4_consider_35 : decode cX4_consider 35 = .ok (.iload 5, 2) := by decide +kernel
theorem dX4_consider_37 : decode cX4_consider 37 = .ok (.aload_n 0, 1) := by decide +kernel
theorem dX4_consider_38 : decode cX4_consider 38 = .ok (.getfield 9, 3) := by decide +kernel
theorem dX4_consider_41 : decode cX4_consider 41 = .ok (.iload 5, 2) := by decide +kernel
theorem dX4_consider_43 : decode cX4_consider 43 = .ok (.iload_n 2, 1) := by decide +kernel
theorem dX4_consider_44 : decode cX4_consider 44 = .ok (.isub, 1) := by decide +kernel
theorem dX4_consider_45 : decode cX4_consider 45 = .ok (.iaload, 1) := by decide +kernel
theorem dX4_consider_46 : decode cX4_consider 46 = .ok (.iload_n 3, 1) := by decide +kernel
theorem dX4_consider_47 : decode cX4_consider 47 = .ok (.iadd, 1) := by decide +kernel
theorem dX4_consider_48 : decode cX4_consider 48 = .ok (.iastore, 1) := by decide +kernel
theorem dX4_consider_49 : decode cX4_consider 49 = .ok (.aload_n 0, 1) := by decide +kernel
theorem dX4_consider_50 : decode cX4_consider 50 = .ok (.getfield 15, 3) := by decide +kernel
theorem dX4_consider_53 : decode cX4_consider 53 = .ok (.iload 5, 2) := by decide +kernel
theorem dX4_consider_55 : decode cX4_consider 55 = .ok (.aload_n 0, 1) := by decide +kernel
theorem dX4_consider_56 : decode cX4_consider 56 = .ok (.getfield 15, 3) := by decide +kernel
theorem dX4_consider_59 : decode cX4_consider 59 = .ok (.iload 5, 2) := by decide +kernel
theorem dX4_consider_61 : decode cX4_consider 61 = .ok (.iload_n 2, 1) := by decide +kernel
theorem dX4_consider_62 : decode cX4_consider 62 = .ok (.isub, 1) := by decide +kernel
theorem dX4_consider_63 : decode cX4_consider 63 = .ok (.iaload, 1) := by decide +kernel
theorem dX4_consider_64 : decode cX4_consider 64 = .ok (.iconst 1, 1) := by decide +kernel
theorem dX4_consider_65 : decode cX4_consider 65 = .ok (.iload_n 1, 1) := by decide +kernel
theorem dX4_consider_66 : decode cX4_consider 66 = .ok (.ishl, 1) := by decide +kernel
theorem dX4_consider_67 : decode cX4_consider 67 = .ok (.ior, 1) := by decide +kernel
theorem dX4_consider_68 : decode cX4_consider 68 = .ok (.iastore, 1) := by decide +kernel
theorem dX4_consider_69 : decode cX4_consider 69 = .ok (.iinc 5 (-1), 3) := by decide +kernel
theorem dX4_consider_72 : decode cX4_consider 72 = .ok (.goto (-68), 3) := by decide +kernel
theorem dX4_consider_75 : decode cX4_consider 75 = .ok (.return_, 1) := by decide +kernel
def B_X4_consider_69 (rc_4 : Int32 → Int32 → Int32 → Int32 → Mem → Option Mem) (x1 : Int32) (x2 : Int32) (x3 : Int32) (x5 : Int32) (M : Mem) : Option Mem := rc_4 x1 x2 x3 (x5 + (-1 : Int32)) M
def L_X4_consider_4 : Nat → Int32 → Int32 → Int32 → Int32 → Mem → Option Mem
  | 0, _, _, _, _, _ => none
  | n + 1, x1, x2, x3, x5, M => if x5 < x2 then some M else gd (inR (x5 - x2) 301) (gd (inR x5 301) (if ((mI M 257 (x5 - x2).toNatClampNeg) + x3) ≤ (mI M 257 x5.toNatClampNeg) then B_X4_consider_69 (L_X4_consider_4 n) x1 x2 x3 x5 M else B_X4_consider_69 (L_X4_consider_4 n) x1 x2 x3 x5 (sI (sI M 257 x5.toNatClampNeg ((mI M 257 (x5 - x2).toNatClampNeg) + x3)) 258 x5.toNatClampNeg ((mI (sI M 257 x5.toNatClampNeg ((mI M 257 (x5 - x2).toNatClampNeg) + x3)) 258 (x5 - x2).toNatClampNeg) ||| ((1 : Int32) <<< (x1 &&& 31))))))
def f_X4_consider (x1 : Int32) (x2 : Int32) (x3 : Int32) (x4 : Int32) (M : Mem) : Option Mem := L_X4_consider_4 FU x1 x2 x3 x4 M
set_option maxRecDepth 100000 in
set_option maxHeartbeats 4000000 in
theorem b_X4_consider_69 (Z : Sys) (X : Cx) (hR : xR X = rm_X4_consider) {q : Mem} (hq : RetOk Z X none False (PostV q) 0 0) (rc_4 : Int32 → Int32 → Int32 → Int32 → Mem → Option Mem) (hrc_4 : ∀ (x1 : Int32) (x2 : Int32) (x3 : Int32) (x5 : Int32) (M : Mem), St M → rc_4 x1 x2 x3 x5 M = some q → G Z X Y_X4_consider False 0 0 4 [(0, .ref (zs Z + 256)), (1, .int x1), (2, .int x2), (3, .int x3), (5, .int x5)] [] M) (x1 : Int32) (x2 : Int32) (x3 : Int32) (x5 : Int32) {M : Mem} (hs : St M) (hf : B_X4_consider_69 rc_4 x1 x2 x3 x5 M = some q) : G Z X Y_X4_consider False 0 0 69 [(0, .ref (zs Z + 256)), (1, .int x1), (2, .int x2), (3, .int x3), (5, .int x5)] [] M := by
  unfold B_X4_consider_69 at hf
  refine G.iinc 69 4 (x5 + (-1 : Int32)) [(5, .int (x5 + (-1 : Int32))), (0, .ref (zs Z + 256)), (1, .int x1), (2, .int x2), (3, .int x3)] dX4_consider_69 rfl (congrArg (fun z => x5 + z) (by decide +kernel)) (Nat.le_of_ble_eq_true rfl) rfl ?_
  refine G.goto 72 4 dX4_consider_72 (by decide) ?_
  refine G.locs [1, 2, 3, 4, 0] rfl ?_
  exact hrc_4 x1 x2 x3 (x5 + (-1 : Int32)) M hs hf
set_option maxRecDepth 100000 in
set_option maxHeartbeats 4000000 in
theorem l_X4_consider_4 (Z : Sys) (X : Cx) (hR : xR X = rm_X4_consider) {q : Mem} (hq : RetOk Z X none False (PostV q) 0 0) : ∀ (n : Nat) (x1 : Int32) (x2 : Int32) (x3 : Int32) (x5 : Int32) (M : Mem) (hs : St M) (hf : L_X4_consider_4 n x1 x2 x3 x5 M = some q), G Z X Y_X4_consider False 0 0 4 [(0, .ref (zs Z + 256)), (1, .int x1), (2, .int x2), (3, .int x3), (5, .int x5)] [] M := by
  intro n
  induction n with
  | zero => intro x1 x2 x3 x5 M hs  hf; cases hf
  | succ n ih =>
    intro x1 x2 x3 x5 M hs  hf
    unfold L_X4_consider_4 at hf
    refine G.iload 4 4 dX4_consider_4 rfl ?_
    refine G.iload_n 6 2 dX4_consider_6 rfl rfl ?_
    refine G.icmp_lt 7 75 dX4_consider_7 (by decide) (fun h1 => ?_) (fun h1 => ?_)
    · replace hf := (if_pos h1).symm.trans hf
      (have hf9 := Option.some.inj hf; subst hf9)
      exact G.rV 75 hq dX4_consider_75 hs
    · replace hf := (if_neg h1).symm.trans hf
      refine G.aload_n 10 0 dX4_consider_10 rfl rfl ?_
      refine G.getp 11 ck_4 0 257 (hs.k k0_256) (pc_4_0 hs) (by decide) (by decide +kernel) wd_335 dX4_consider_11 ?_
      refine G.iload 14 4 dX4_consider_14 rfl ?_
      refine G.iload_n 16 2 dX4_consider_16 rfl rfl ?_
      refine G.isub 17 dX4_consider_17 ?_
      obtain ⟨g2, hf⟩ := gd_e hf
      refine G.ia 18 (x5 - x2).toNatClampNeg (hs.k k0_257) g2 rfl dX4_consider_18 ?_
      refine G.iload_n 19 3 dX4_consider_19 rfl rfl ?_
      refine G.iadd 20 dX4_consider_20 ?_
      refine G.aload_n 21 0 dX4_consider_21 rfl rfl ?_
      refine G.getp 22 ck_4 0 257 (hs.k k0_256) (pc_4_0 hs) (by decide) (by decide +kernel) wd_335 dX4_consider_22 ?_
      refine G.iload 25 4 dX4_consider_25 rfl ?_
      obtain ⟨g3, hf⟩ := gd_e hf
      refine G.ia 27 x5.toNatClampNeg (hs.k k0_257) g3 rfl dX4_consider_27 ?_
      refine G.icmp_le 28 69 dX4_consider_28 (by decide) (fun h4 => ?_) (fun h4 => ?_)
      · replace hf := (if_pos h4).symm.trans hf
        exact b_X4_consider_69 Z X hR hq (L_X4_consider_4 n) ih x1 x2 x3 x5 hs hf
      · replace hf := (if_neg h4).symm.trans hf
        refine G.aload_n 31 0 dX4_consider_31 rfl rfl ?_
        refine G.getp 32 ck_4 0 257 (hs.k k0_256) (pc_4_0 hs) (by decide) (by decide +kernel) wd_335 dX4_consider_32 ?_
        refine G.iload 35 4 dX4_consider_35 rfl ?_
        refine G.aload_n 37 0 dX4_consider_37 rfl rfl ?_
        refine G.getp 38 ck_4 0 257 (hs.k k0_256) (pc_4_0 hs) (by decide) (by decide +kernel) wd_335 dX4_consider_38 ?_
        refine G.iload 41 4 dX4_consider_41 rfl ?_
        refine G.iload_n 43 2 dX4_consider_43 rfl rfl ?_
        refine G.isub 44 dX4_consider_44 ?_
        refine G.ia 45 (x5 - x2).toNatClampNeg (hs.k k0_257) g2 rfl dX4_consider_45 ?_
        refine G.iload_n 46 3 dX4_consider_46 rfl rfl ?_
        refine G.iadd 47 dX4_consider_47 ?_
        refine G.ist 48 x5.toNatClampNeg (hs.k k0_257) g3 rfl dX4_consider_48 ?_
        refine G.aload_n 49 0 dX4_consider_49 rfl rfl ?_
        refine G.getp 50 ck_4 1 258 ((St.i hs).k k0_256) (pc_4_1 (St.i hs)) (by decide) (by decide +kernel) wd_337 dX4_consider_50 ?_
        refine G.iload 53 4 dX4_consider_53 rfl ?_
        refine G.aload_n 55 0 dX4_consider_55 rfl rfl ?_
        refine G.getp 56 ck_4 1 258 ((St.i hs).k k0_256) (pc_4_1 (St.i hs)) (by decide) (by decide +kernel) wd_337 dX4_consider_56 ?_
        refine G.iload 59 4 dX4_consider_59 rfl ?_
        refine G.iload_n 61 2 dX4_consider_61 rfl rfl ?_
        refine G.isub 62 dX4_consider_62 ?_
        refine G.ia 63 (x5 - x2).toNatClampNeg ((St.i hs).k k0_258) g2 rfl dX4_consider_63 ?_
        refine G.iconst 64 (1 : Int32) dX4_consider_64 (by decide +kernel) ?_
        refine G.iload_n 65 1 dX4_consider_65 rfl rfl ?_
        refine G.ishl 66 dX4_consider_66 ?_
        refine G.ior 67 dX4_consider_67 ?_
        refine G.ist 68 x5.toNatClampNeg ((St.i hs).k k0_258) g3 rfl dX4_consider_68 ?_
        exact b_X4_consider_69 Z X hR hq (L_X4_consider_4 n) ih x1 x2 x3 x5 (St.i (St.i hs)) hf
set_option maxRecDepth 100000 in
set_option maxHeartbeats 4000000 in
theorem c_X4_consider (Z : Sys) {M : Mem} (hs : St M) (x1 : Int32) (x2 : Int32) (x3 : Int32) (x4 : Int32) {q : Mem} (hf : f_X4_consider x1 x2 x3 x4 M = some q) : Ct Z yX4_consider cX4_consider 6 none rm_X4_consider [.ref (zs Z + 256), .int x1, .int x2, .int x3, .int x4] M False (PostV q) := by
  refine Ct.of (by decide +kernel) (Nat.le_of_ble_eq_true rfl) (fun X hR hq _ => ?_)
  show G Z X Y_X4_consider False 0 0 0 [(0, .ref (zs Z + 256)), (1, .int x1), (2, .int x2), (3, .int x3), (4, .int x4)] [] M
  replace hq : RetOk Z X none False (PostV q) 0 0 := hq
  unfold f_X4_consider at hf
  refine G.iload 0 4 dX4_consider_0 rfl ?_
  refine G.istore 2 [(5, .int x4), (0, .ref (zs Z + 256)), (1, .int x1), (2, .int x2), (3, .int x3), (4, .int x4)] dX4_consider_2 (Nat.le_of_ble_eq_true rfl) rfl ?_
  refine G.locs [1, 2, 3, 4, 0] rfl ?_
  exact l_X4_consider_4 Z X hR hq FU x1 x2 x3 x4 M hs hf
abbrev Y_X4_worthOf : My := (cX4_worthOf, RX4, 2)
def rm_X4_worthOf : Room := { frames := 1, cells := 0, slots := 0, locals := 200 }
theorem dX4_worthOf_0 : decode cX4_worthOf 0 = .ok (.iload_n 0, 1) := by decide +kernel
theorem dX4_worthOf_1 : decode cX4_worthOf 1 = .ok (.invokestatic 65, 3) := by decide +kernel
theorem dX4_worthOf_4 : decode cX4_worthOf 4 = .ok (.iload_n 1, 1) := by decide +kernel
theorem dX4_worthOf_5 : decode cX4_worthOf 5 = .ok (.ifCond .le 8, 3) := by decide +kernel
theorem dX4_worthOf_8 : decode cX4_worthOf 8 = .ok (.bipush 50, 2) := by decide +kernel
theorem dX4_worthOf_10 : decode cX4_worthOf 10 = .ok (.goto 4, 3) := by decide +kernel
theorem dX4_worthOf_13 : decode cX4_worthOf 13 = .ok (.iconst 0, 1) := by decide +kernel
theorem dX4_worthOf_14 : decode cX4_worthOf 14 = .ok (.iadd, 1) := by decide +kernel
theorem dX4_worthOf_15 : decode cX4_worthOf 15 = .ok (.ireturn, 1) := by decide +kernel
def f_X4_worthOf (x0 : Int32) (x1 : Int32) : Int32 := if x1 ≤ 0 then ((jabs x0) + (0 : Int32)) else ((jabs x0) + (50 : Int32))
set_option maxRecDepth 100000 in
set_option maxHeartbeats 4000000 in
theorem c_X4_worthOf (Z : Sys) {M : Mem} (hs : St M) (x0 : Int32) (x1 : Int32) {q : Int32} (hf : f_X4_worthOf x0 x1 = q) : Ct Z yX4_worthOf cX4_worthOf 2 (some .int) rm_X4_worthOf [.int x0, .int x1] M False (PostI q M) := by
  refine Ct.of (by decide +kernel) (Nat.le_of_ble_eq_true rfl) (fun X hR hq _ => ?_)
  show G Z X Y_X4_worthOf False 0 0 0 [(0, .int x0), (1, .int x1)] [] M
  replace hq : RetOk Z X (some .int) False (PostI q M) 0 0 := hq
  unfold f_X4_worthOf at hf
  refine G.iload_n 0 0 dX4_worthOf_0 rfl rfl ?_
  refine G.mabsJ 1 wd_804 wd_755 wd_87 wd_756 hR ⟨Nat.le_of_ble_eq_true rfl, Nat.le_of_ble_eq_true rfl, Nat.le_of_ble_eq_true rfl, Nat.le_of_ble_eq_true rfl⟩ dX4_worthOf_1 ?_
  refine G.iload_n 4 1 dX4_worthOf_4 rfl rfl ?_
  refine G.if_le 5 13 dX4_worthOf_5 (by decide) (fun h1 => ?_) (fun h1 => ?_)
  · replace hf := (if_pos h1).symm.trans hf
    refine G.iconst 13 (0 : Int32) dX4_worthOf_13 (by decide +kernel) ?_
    refine G.iadd 14 dX4_worthOf_14 ?_
    subst hf
    exact G.rI 15 hq dX4_worthOf_15 hs
  · replace hf := (if_neg h1).symm.trans hf
    refine G.bipush 8 (50 : Int32) dX4_worthOf_8 (by decide +kernel) ?_
    refine G.goto 10 14 dX4_worthOf_10 (by decide) ?_
    refine G.iadd 14 dX4_worthOf_14 ?_
    subst hf
    exact G.rI 15 hq dX4_worthOf_15 hs
abbrev Y_X4_plan : My := (cX4_plan, RX4, 8)
def rm_X4_plan : Room := { frames := 4, cells := 0, slots := 0, locals := 265 }
theorem dX4_plan_0 : decode cX4_plan 0 = .ok (.aload_n 0, 1) := by decide +kernel
theorem dX4_plan_1 : decode cX4_plan 1 = .ok (.getfield 9, 3) := by decide +kernel
theorem dX4_plan_4 : decode cX4_plan 4 = .ok (.iconst 0, 1) := by decide +kernel
theorem dX4_plan_5 : decode cX4_plan 5 = .ok (.invokestatic 18, 3) := by decide +kernel
theorem dX4_plan_8 : decode cX4_plan 8 = .ok (.aload_n 0, 1) := by decide +kernel
theorem dX4_plan_9 : decode cX4_plan 9 = .ok (.getfield 15, 3) := by decide +kernel
theorem dX4_plan_12 : decode cX4_plan 12 = .ok (.iconst 0, 1) := by decide +kernel
theorem dX4_plan_13 : decode cX4_plan 13 = .ok (.invokestatic 18, 3) := by decide +kernel
theorem dX4_plan_16 : decode cX4_plan 16 = .ok (.aload_n 1, 1) := by decide +kernel
theorem dX4_plan_17 : decode cX4_plan 17 = .ok (.iconst 0, 1) := by decide +kernel
theorem dX4_plan_18 : decode cX4_plan 18 = .ok (.invokevirtual 24, 3) := by decide +kernel
theorem dX4_plan_21 : decode cX4_plan 21 = .ok (.istore_n 3, 1) := by decide +kernel
theorem dX4_plan_22 : decode cX4_plan 22 = .ok (.aload_n 1, 1) := by decide +kernel
theorem dX4_plan_23 : decode cX4_plan 23 = .ok (.iconst 1, 1) := by decide +kernel
theorem dX4_plan_24 : decode cX4_plan 24 = .ok (.invokevirtual 24, 3) := by decide +kernel
theorem dX4_plan_27 : decode cX4_plan 27 = .ok (.istore 4, 2) := by decide +kernel
theorem dX4_plan_29 : decode cX4_plan 29 = .ok (.aload_n 1, 1) := by decide +kernel
theorem dX4_plan_30 : decode cX4_plan 30 = .ok (.getfield 30, 3) := by decide +kernel
theorem dX4_plan_33 : decode cX4_plan 33 = .ok (.iconst 1, 1) := by decide +kernel
theorem dX4_plan_34 : decode cX4_plan 34 = .ok (.isub, 1) := by decide +kernel
theorem dX4_plan_35 : decode cX4_plan 35 = .ok (.istore 5, 2) := by decide +kernel
theorem dX4_plan_37 : decode cX4_plan 37 = .ok (.iload 5, 2) := by decide +kernel
theorem dX4_plan_39 : decode cX4_plan 39 = .ok (.ifCond .lt 76, 3) := by decide +kernel
theorem dX4_plan_42 : decode cX4_plan 42 = .ok (.aload_n 1, 1) := by decide +kernel
theorem dX4_plan_43 : decode cX4_plan 43 = .ok (.getfield 34, 3) := by decide +kernel
theorem dX4_plan_46 : decode cX4_plan 46 = .ok (.iload 5, 2) := by decide +kernel
theorem dX4_plan_48 : decode cX4_plan 48 = .ok (.aaload, 1) := by decide +kernel
theorem dX4_plan_49 : decode cX4_plan 49 = .ok (.astore 6, 2) := by decide +kernel
theorem dX4_plan_51 : decode cX4_plan 51 = .ok (.aload 6, 2) := by decide +kernel
theorem dX4_plan_53 : decode cX4_plan 53 = .ok (.getfield 38, 3) := by decide +kernel
theorem dX4_plan_56 : decode cX4_plan 56 = .ok (.ifCond .ne 53, 3) := by decide +kernel
theorem dX4_plan_59 : decode cX4_plan 59 = .ok (.aload 6, 2) := by decide +kernel
theorem dX4_plan_61 : decode cX4_plan 61 = .ok (.invokevirtual 44, 3) := by decide +kernel
theorem dX4_plan_64 : decode cX4_plan 64 = .ok (.aload 6, 2) := by decide +kernel
theorem dX4_plan_66 : decode cX4_plan 66 = .ok (.getfield 48, 3) := by decide +kernel
theorem dX4_plan_69 : decode cX4_plan 69 = .ok (.iconst 1, 1) := by decide +kernel
theorem dX4_plan_70 : decode cX4_plan 70 = .ok (.if_icmp .ne 8, 3) := by decide +kernel
theorem dX4_plan_73 : decode cX4_plan 73 = .ok (.iload 4, 2) := by decide +kernel
theorem dX4_plan_75 : decode cX4_plan 75 = .ok (.goto 4, 3) := by decide +kernel
theorem dX4_plan_78 : decode cX4_plan 78 = .ok (.iload_n 3, 1) := by decide +kernel
theorem dX4_plan_79 : decode cX4_plan 79 = .ok (.isub, 1) := by decide +kernel
theorem dX4_plan_80 : decode cX4_plan 80 = .ok (.istore 7, 2) := by decide +kernel
theorem dX4_plan_82 : decode cX4_plan 82 = .ok (.aload_n 0, 1) := by decide +kernel
theorem dX4_plan_83 : decode cX4_plan 83 = .ok (.iload 5, 2) := by decide +kernel
theorem dX4_plan_85 : decode cX4_plan 85 = .ok (.aload 6, 2) := by decide +kernel
theorem dX4_plan_87 : decode cX4_plan 87 = .ok (.getfield 51, 3) := by decide +kernel
theorem dX4_plan_90 : decode cX4_plan 90 = .ok (.bipush 10, 2) := by decide +kernel
theorem dX4_plan_92 : decode cX4_plan 92 = .ok (.idiv, 1) := by decide +kernel
theorem dX4_plan_93 : decode cX4_plan 93 = .ok (.iconst 1, 1) := by decide +kernel
theorem dX4_plan_94 : decode cX4_plan 94 = .ok (.iadd, 1) := by decide +kernel
theorem dX4_plan_95 : decode cX4_plan 95 = .ok (.iload 7, 2) := by decide +kernel
theorem dX4_plan_97 : decode cX4_plan 97 = .ok (.aload 6, 2) := by decide +kernel
theorem dX4_plan_99 : decode cX4_plan 99 = .ok (.invokevirtual 54, 3) := by decide +kernel
theorem dX4_plan_102 : decode cX4_plan 102 = .ok (.invokestatic 57, 3) := by decide +kernel
theorem dX4_plan_105 : decode cX4_plan 105 = .ok (.iload_n 2, 1) := by decide +kernel
theorem dX4_plan_106 : decode cX4_plan 106 = .ok (.invokevirtual 61, 3) := by decide +kernel
theorem dX4_plan_109 : decode cX4_plan 109 = .ok (.iinc 5 (-1), 3) := by decide +kernel
theorem dX4_plan_112 : decode cX4_plan 112 = .ok (.goto (-75), 3) := by decide +kernel
theorem dX4_plan_115 : decode cX4_plan 115 = .ok (.return_, 1) := by decide +kernel
def B_X4_plan_109 (rc_37 : Nat → Int32 → Int32 → Int32 → Int32 → Mem → Option Mem) (a1 : Nat) (x2 : Int32) (x3 : Int32) (x4 : Int32) (x5 : Int32) (M : Mem) : Option Mem := rc_37 a1 x2 x3 x4 (x5 + (-1 : Int32)) M
def L_X4_plan_37 : Nat → Nat → Int32 → Int32 → Int32 → Int32 → Mem → Option Mem
  | 0, _, _, _, _, _, _ => none
  | n + 1, a1, x2, x3, x4, x5, M => if x5 < 0 then some M else gd (inR x5 30) (if (mI M ((a1 + 1) + 23 + 2 * x5.toNatClampNeg) 9) = 0 then (f_X1_share ((a1 + 1) + 23 + 2 * x5.toNatClampNeg) M).bind fun q22 => if (mI M ((a1 + 1) + 23 + 2 * x5.toNatClampNeg) 2) = (1 : Int32) then (f_X4_consider x5 (((mI M ((a1 + 1) + 23 + 2 * x5.toNatClampNeg) 10) / (10 : Int32)) + (1 : Int32)) (f_X4_worthOf (q22 - x4) (f_X1_mustBe ((a1 + 1) + 23 + 2 * x5.toNatClampNeg) M)) x2 M).bind fun q39 => B_X4_plan_109 (L_X4_plan_37 n) a1 x2 x3 x4 x5 q39 else (f_X4_consider x5 (((mI M ((a1 + 1) + 23 + 2 * x5.toNatClampNeg) 10) / (10 : Int32)) + (1 : Int32)) (f_X4_worthOf (q22 - x3) (f_X1_mustBe ((a1 + 1) + 23 + 2 * x5.toNatClampNeg) M)) x2 M).bind fun q31 => B_X4_plan_109 (L_X4_plan_37 n) a1 x2 x3 x4 x5 q31 else B_X4_plan_109 (L_X4_plan_37 n) a1 x2 x3 x4 x5 M)
def f_X4_plan (a1 : Nat) (x2 : Int32) (M : Mem) : Option Mem := (f_J7_fill_53178 257 (0 : Int32) M).bind fun q3 => (f_J7_fill_53178 258 (0 : Int32) q3).bind fun q7 => (f_X0_middleShare a1 (0 : Int32) q7).bind fun q11 => (f_X0_middleShare a1 (1 : Int32) q11.2).bind fun q15 => L_X4_plan_37 FU a1 x2 q11.1 q15.1 ((mI q15.2 a1 1) - (1 : Int32)) q15.2
set_option maxRecDepth 100000 in
set_option maxHeartbeats 4000000 in
theorem b_X4_plan_109 (Z : Sys) (X : Cx) (hR : xR X = rm_X4_plan) {q : Mem} (hq : RetOk Z X none False (PostV q) 0 0) (rc_37 : Nat → Int32 → Int32 → Int32 → Int32 → Mem → Option Mem) (hrc_37 : ∀ (a1 : Nat) (x2 : Int32) (x3 : Int32) (x4 : Int32) (x5 : Int32) (M : Mem), St M → K0[a1]? = some (0, 12) → rc_37 a1 x2 x3 x4 x5 M = some q → G Z X Y_X4_plan False 0 0 37 [(0, .ref (zs Z + 256)), (1, .ref (zs Z + a1)), (2, .int x2), (3, .int x3), (4, .int x4), (5, .int x5)] [] M) (a1 : Nat) (x2 : Int32) (x3 : Int32) (x4 : Int32) (x5 : Int32) {M : Mem} (hs : St M) (k_a1 : K0[a1]? = some (0, 12)) (hf : B_X4_plan_109 rc_37 a1 x2 x3 x4 x5 M = some q) : G Z X Y_X4_plan False 0 0 109 [(0, .ref (zs Z + 256)), (1, .ref (zs Z + a1)), (2, .int x2), (3, .int x3), (4, .int x4), (5, .int x5)] [] M := by
  unfold B_X4_plan_109 at hf
  refine G.iinc 109 5 (x5 + (-1 : Int32)) [(5, .int (x5 + (-1 : Int32))), (0, .ref (zs Z + 256)), (1, .ref (zs Z + a1)), (2, .int x2), (3, .int x3), (4, .int x4)] dX4_plan_109 rfl (congrArg (fun z => x5 + z) (by decide +kernel)) (Nat.le_of_ble_eq_true rfl) rfl ?_
  refine G.goto 112 37 dX4_plan_112 (by decide) ?_
  refine G.locs [1, 2, 3, 4, 5, 0] rfl ?_
  exact hrc_37 a1 x2 x3 x4 (x5 + (-1 : Int32)) M hs k_a1 hf
set_option maxRecDepth 100000 in
set_option maxHeartbeats 4000000 in
theorem l_X4_plan_37 (Z : Sys) (X : Cx) (hR : xR X = rm_X4_plan) {q : Mem} (hq : RetOk Z X none False (PostV q) 0 0) : ∀ (n : Nat) (a1 : Nat) (x2 : Int32) (x3 : Int32) (x4 : Int32) (x5 : Int32) (M : Mem) (hs : St M) (k_a1 : K0[a1]? = some (0, 12)) (hf : L_X4_plan_37 n a1 x2 x3 x4 x5 M = some q), G Z X Y_X4_plan False 0 0 37 [(0, .ref (zs Z + 256)), (1, .ref (zs Z + a1)), (2, .int x2), (3, .int x3), (4, .int x4), (5, .int x5)] [] M := by
  intro n
  induction n with
  | zero => intro a1 x2 x3 x4 x5 M hs k_a1 hf; cases hf
  | succ n ih =>
    intro a1 x2 x3 x4 x5 M hs k_a1 hf
    unfold L_X4_plan_37 at hf
    refine G.iload 37 5 dX4_plan_37 rfl ?_
    refine G.if_lt 39 115 dX4_plan_39 (by decide) (fun h17 => ?_) (fun h17 => ?_)
    · replace hf := (if_pos h17).symm.trans hf
      (have hf9 := Option.some.inj hf; subst hf9)
      exact G.rV 115 hq dX4_plan_115 hs
    · replace hf := (if_neg h17).symm.trans hf
      refine G.aload_n 42 1 dX4_plan_42 rfl rfl ?_
      refine G.getp 43 ck_0 0 (a1 + 1) (hs.k k_a1) (pt_0_0 hs k_a1).1 (by decide) (by decide +kernel) wd_259 dX4_plan_43 ?_
      refine G.iload 46 5 dX4_plan_46 rfl ?_
      obtain ⟨g18, hf⟩ := gd_e hf
      refine G.aa 48 x5.toNatClampNeg ((a1 + 1) + 23 + 2 * x5.toNatClampNeg) (hs.k (pt_0_0 hs k_a1).2) (by decide) rfl rfl g18 rfl (pa_13 hs (pt_0_0 hs k_a1).2 (inlt g18)).1 dX4_plan_48 ?_
      refine G.astore 49 [(6, .ref (zs Z + ((a1 + 1) + 23 + 2 * x5.toNatClampNeg))), (0, .ref (zs Z + 256)), (1, .ref (zs Z + a1)), (2, .int x2), (3, .int x3), (4, .int x4), (5, .int x5)] dX4_plan_49 (Nat.le_of_ble_eq_true rfl) rfl ?_
      refine G.aload 51 0 dX4_plan_51 rfl ?_
      refine G.geti 53 ck_1 9 (hs.k (pa_13 hs (pt_0_0 hs k_a1).2 (inlt g18)).2) (by decide) (by decide +kernel) wd_219 dX4_plan_53 ?_
      refine G.if_ne 56 109 dX4_plan_56 (by decide) (fun h19 => ?_) (fun h19 => ?_)
      · replace hf := (if_neg h19).symm.trans hf
        refine G.locs [1, 2, 3, 4, 5, 6] rfl ?_
        exact b_X4_plan_109 Z X hR hq (L_X4_plan_37 n) ih a1 x2 x3 x4 x5 hs k_a1 hf
      · replace hf := (if_pos h19).symm.trans hf
        refine G.aload 59 0 dX4_plan_59 rfl ?_
        obtain ⟨q22, e23, hf⟩ := bd_e hf
        refine G.cvI 61 (As := []) ck_1 (hs.k (pa_13 hs (pt_0_0 hs k_a1).2 (inlt g18)).2) (c_X1_share Z hs ((a1 + 1) + 23 + 2 * x5.toNatClampNeg) (pa_13 hs (pt_0_0 hs k_a1).2 (inlt g18)).2 e23) mk_X1_share vk_X1_share rfl wd_799 hR (by decide +kernel) ⟨rfl, rfl⟩ rfl (Nat.le_of_ble_eq_true rfl) dX4_plan_61 (fun hs20 => ?_)
        refine G.aload 64 0 dX4_plan_64 rfl ?_
        refine G.geti 66 ck_1 2 (hs20.k (pa_13 hs (pt_0_0 hs k_a1).2 (inlt g18)).2) (by decide) (by decide +kernel) wd_194 dX4_plan_66 ?_
        refine G.iconst 69 (1 : Int32) dX4_plan_69 (by decide +kernel) ?_
        refine G.icmp_ne 70 78 dX4_plan_70 (by decide) (fun h24 => ?_) (fun h24 => ?_)
        · replace hf := (if_neg h24).symm.trans hf
          refine G.iload_n 78 4 dX4_plan_78 rfl rfl ?_
          refine G.isub 79 dX4_plan_79 ?_
          refine G.istore 80 [(7, .int (q22 - x3)), (6, .ref (zs Z + ((a1 + 1) + 23 + 2 * x5.toNatClampNeg))), (0, .ref (zs Z + 256)), (1, .ref (zs Z + a1)), (2, .int x2), (3, .int x3), (4, .int x4), (5, .int x5)] dX4_plan_80 (Nat.le_of_ble_eq_true rfl) rfl ?_
          refine G.aload_n 82 2 dX4_plan_82 rfl rfl ?_
          refine G.iload 83 7 dX4_plan_83 rfl ?_
          refine G.aload 85 1 dX4_plan_85 rfl ?_
          refine G.geti 87 ck_1 10 (hs20.k (pa_13 hs (pt_0_0 hs k_a1).2 (inlt g18)).2) (by decide) (by decide +kernel) wd_223 dX4_plan_87 ?_
          refine G.bipush 90 (10 : Int32) dX4_plan_90 (by decide +kernel) ?_
          refine G.idiv 92 dX4_plan_92 (by decide +kernel) ?_
          refine G.iconst 93 (1 : Int32) dX4_plan_93 (by decide +kernel) ?_
          refine G.iadd 94 dX4_plan_94 ?_
          refine G.iload 95 0 dX4_plan_95 rfl ?_
          refine G.aload 97 1 dX4_plan_97 rfl ?_
          refine G.cvI 99 (As := []) ck_1 (hs20.k (pa_13 hs (pt_0_0 hs k_a1).2 (inlt g18)).2) (c_X1_mustBe Z hs20 ((a1 + 1) + 23 + 2 * x5.toNatClampNeg) (pa_13 hs (pt_0_0 hs k_a1).2 (inlt g18)).2 rfl) mk_X1_mustBe vk_X1_mustBe rfl wd_800 hR (by decide +kernel) ⟨rfl, rfl⟩ rfl (Nat.le_of_ble_eq_true rfl) dX4_plan_99 (fun hs25 => ?_)
          refine G.csI 102 (As := [.int (q22 - x3), .int (f_X1_mustBe ((a1 + 1) + 23 + 2 * x5.toNatClampNeg) M)]) (c_X4_worthOf Z hs25 (q22 - x3) (f_X1_mustBe ((a1 + 1) + 23 + 2 * x5.toNatClampNeg) M) rfl) mk_X4_worthOf wd_802 wd_801 hR (by decide +kernel) ⟨rfl, rfl⟩ rfl (Nat.le_of_ble_eq_true rfl) dX4_plan_102 (fun hs27 => ?_)
          refine G.iload_n 105 4 dX4_plan_105 rfl rfl ?_
          obtain ⟨q31, e32, hf⟩ := bd_e hf
          refine G.cvV 106 (As := [.int x5, .int (((mI M ((a1 + 1) + 23 + 2 * x5.toNatClampNeg) 10) / (10 : Int32)) + (1 : Int32)), .int (f_X4_worthOf (q22 - x3) (f_X1_mustBe ((a1 + 1) + 23 + 2 * x5.toNatClampNeg) M)), .int x2]) ck_4 (hs27.k k0_256) (c_X4_consider Z hs27 x5 (((mI M ((a1 + 1) + 23 + 2 * x5.toNatClampNeg) 10) / (10 : Int32)) + (1 : Int32)) (f_X4_worthOf (q22 - x3) (f_X1_mustBe ((a1 + 1) + 23 + 2 * x5.toNatClampNeg) M)) x2 e32) mk_X4_consider vk_X4_consider rfl wd_805 hR (by decide +kernel) ⟨rfl, rfl⟩ rfl (Nat.le_of_ble_eq_true rfl) dX4_plan_106 (fun hs29 => ?_)
          refine G.locs [2, 3, 4, 5, 6, 7] rfl ?_
          exact b_X4_plan_109 Z X hR hq (L_X4_plan_37 n) ih a1 x2 x3 x4 x5 hs29 k_a1 hf
        · replace hf := (if_pos h24).symm.trans hf
          refine G.iload 73 5 dX4_plan_73 rfl ?_
          refine G.goto 75 79 dX4_plan_75 (by decide) ?_
          refine G.isub 79 dX4_plan_79 ?_
          refine G.istore 80 [(7, .int (q22 - x4)), (6, .ref (zs Z + ((a1 + 1) + 23 + 2 * x5.toNatClampNeg))), (0, .ref (zs Z + 256)), (1, .ref (zs Z + a1)), (2, .int x2), (3, .int x3), (4, .int x4), (5, .int x5)] dX4_plan_80 (Nat.le_of_ble_eq_true rfl) rfl ?_
          refine G.aload_n 82 2 dX4_plan_82 rfl rfl ?_
          refine G.iload 83 7 dX4_plan_83 rfl ?_
          refine G.aload 85 1 dX4_plan_85 rfl ?_
          refine G.geti 87 ck_1 10 (hs20.k (pa_13 hs (pt_0_0 hs k_a1).2 (inlt g18)).2) (by decide) (by decide +kernel) wd_223 dX4_plan_87 ?_
          refine G.bipush 90 (10 : Int32) dX4_plan_90 (by decide +kernel) ?_
          refine G.idiv 92 dX4_plan_92 (by decide +kernel) ?_
          refine G.iconst 93 (1 : Int32) dX4_plan_93 (by decide +kernel) ?_
          refine G.iadd 94 dX4_plan_94 ?_
          refine G.iload 95 0 dX4_plan_95 rfl ?_
          refine G.aload 97 1 dX4_plan_97 rfl ?_
          refine G.cvI 99 (As := []) ck_1 (hs20.k (pa_13 hs (pt_0_0 hs k_a1).2 (inlt g18)).2) (c_X1_mustBe Z hs20 ((a1 + 1) + 23 + 2 * x5.toNatClampNeg) (pa_13 hs (pt_0_0 hs k_a1).2 (inlt g18)).2 rfl) mk_X1_mustBe vk_X1_mustBe rfl wd_800 hR (by decide +kernel) ⟨rfl, rfl⟩ rfl (Nat.le_of_ble_eq_true rfl) dX4_plan_99 (fun hs33 => ?_)
          refine G.csI 102 (As := [.int (q22 - x4), .int (f_X1_mustBe ((a1 + 1) + 23 + 2 * x5.toNatClampNeg) M)]) (c_X4_worthOf Z hs33 (q22 - x4) (f_X1_mustBe ((a1 + 1) + 23 + 2 * x5.toNatClampNeg) M) rfl) mk_X4_worthOf wd_802 wd_801 hR (by decide +kernel) ⟨rfl, rfl⟩ rfl (Nat.le_of_ble_eq_true rfl) dX4_plan_102 (fun hs35 => ?_)
          refine G.iload_n 105 4 dX4_plan_105 rfl rfl ?_
          obtain ⟨q39, e40, hf⟩ := bd_e hf
          refine G.cvV 106 (As := [.int x5, .int (((mI M ((a1 + 1) + 23 + 2 * x5.toNatClampNeg) 10) / (10 : Int32)) + (1 : Int32)), .int (f_X4_worthOf (q22 - x4) (f_X1_mustBe ((a1 + 1) + 23 + 2 * x5.toNatClampNeg) M)), .int x2]) ck_4 (hs35.k k0_256) (c_X4_consider Z hs35 x5 (((mI M ((a1 + 1) + 23 + 2 * x5.toNatClampNeg) 10) / (10 : Int32)) + (1 : Int32)) (f_X4_worthOf (q22 - x4) (f_X1_mustBe ((a1 + 1) + 23 + 2 * x5.toNatClampNeg) M)) x2 e40) mk_X4_consider vk_X4_consider rfl wd_805 hR (by decide +kernel) ⟨rfl, rfl⟩ rfl (Nat.le_of_ble_eq_true rfl) dX4_plan_106 (fun hs37 => ?_)
          refine G.locs [2, 3, 4, 5, 6, 7] rfl ?_
          exact b_X4_plan_109 Z X hR hq (L_X4_plan_37 n) ih a1 x2 x3 x4 x5 hs37 k_a1 hf
set_option maxRecDepth 100000 in
set_option maxHeartbeats 4000000 in
theorem c_X4_plan (Z : Sys) {M : Mem} (hs : St M) (a1 : Nat) (x2 : Int32) (k_a1 : K0[a1]? = some (0, 12)) {q : Mem} (hf : f_X4_plan a1 x2 M = some q) : Ct Z yX4_plan cX4_plan 8 none rm_X4_plan [.ref (zs Z + 256), .ref (zs Z + a1), .int x2] M False (PostV q) := by
  refine Ct.of (by decide +kernel) (Nat.le_of_ble_eq_true rfl) (fun X hR hq _ => ?_)
  show G Z X Y_X4_plan False 0 0 0 [(0, .ref (zs Z + 256)), (1, .ref (zs Z + a1)), (2, .int x2)] [] M
  replace hq : RetOk Z X none False (PostV q) 0 0 := hq
  unfold f_X4_plan at hf
  refine G.aload_n 0 0 dX4_plan_0 rfl rfl ?_
  refine G.getp 1 ck_4 0 257 (hs.k k0_256) (pc_4_0 hs) (by decide) (by decide +kernel) wd_335 dX4_plan_1 ?_
  refine G.iconst 4 (0 : Int32) dX4_plan_4 (by decide +kernel) ?_
  obtain ⟨q3, e4, hf⟩ := bd_e hf
  refine G.csV 5 (As := [.ref (zs Z + 257), .int (0 : Int32)]) (c_J7_fill_53178 Z hs 257 (0 : Int32) (ln_k k0_257) e4) mk_J7_fill_53178 wd_561 wd_797 hR (by decide +kernel) ⟨rfl, rfl⟩ rfl (Nat.le_of_ble_eq_true rfl) dX4_plan_5 (fun hs1 => ?_)
  refine G.aload_n 8 0 dX4_plan_8 rfl rfl ?_
  refine G.getp 9 ck_4 1 258 (hs1.k k0_256) (pc_4_1 hs1) (by decide) (by decide +kernel) wd_337 dX4_plan_9 ?_
  refine G.iconst 12 (0 : Int32) dX4_plan_12 (by decide +kernel) ?_
  obtain ⟨q7, e8, hf⟩ := bd_e hf
  refine G.csV 13 (As := [.ref (zs Z + 258), .int (0 : Int32)]) (c_J7_fill_53178 Z hs1 258 (0 : Int32) (ln_k k0_258) e8) mk_J7_fill_53178 wd_561 wd_797 hR (by decide +kernel) ⟨rfl, rfl⟩ rfl (Nat.le_of_ble_eq_true rfl) dX4_plan_13 (fun hs5 => ?_)
  refine G.aload_n 16 1 dX4_plan_16 rfl rfl ?_
  refine G.iconst 17 (0 : Int32) dX4_plan_17 (by decide +kernel) ?_
  obtain ⟨q11, e12, hf⟩ := bd_e hf
  refine G.cvI 18 (As := [.int (0 : Int32)]) ck_0 (hs5.k k_a1) (c_X0_middleShare Z hs5 a1 (0 : Int32) k_a1 e12) mk_X0_middleShare vk_X0_middleShare rfl wd_798 hR (by decide +kernel) ⟨rfl, rfl⟩ rfl (Nat.le_of_ble_eq_true rfl) dX4_plan_18 (fun hs9 => ?_)
  refine G.istore_n 21 [(3, .int q11.1), (0, .ref (zs Z + 256)), (1, .ref (zs Z + a1)), (2, .int x2)] dX4_plan_21 rfl (Nat.le_of_ble_eq_true rfl) rfl ?_
  refine G.aload_n 22 2 dX4_plan_22 rfl rfl ?_
  refine G.iconst 23 (1 : Int32) dX4_plan_23 (by decide +kernel) ?_
  obtain ⟨q15, e16, hf⟩ := bd_e hf
  refine G.cvI 24 (As := [.int (1 : Int32)]) ck_0 (hs9.k k_a1) (c_X0_middleShare Z hs9 a1 (1 : Int32) k_a1 e16) mk_X0_middleShare vk_X0_middleShare rfl wd_798 hR (by decide +kernel) ⟨rfl, rfl⟩ rfl (Nat.le_of_ble_eq_true rfl) dX4_plan_24 (fun hs13 => ?_)
  refine G.istore 27 [(4, .int q15.1), (3, .int q11.1), (0, .ref (zs Z + 256)), (1, .ref (zs Z + a1)), (2, .int x2)] dX4_plan_27 (Nat.le_of_ble_eq_true rfl) rfl ?_
  refine G.aload_n 29 3 dX4_plan_29 rfl rfl ?_
  refine G.geti 30 ck_0 1 (hs13.k k_a1) (by decide) (by decide +kernel) wd_263 dX4_plan_30 ?_
  refine G.iconst 33 (1 : Int32) dX4_plan_33 (by decide +kernel) ?_
  refine G.isub 34 dX4_plan_34 ?_
  refine G.istore 35 [(5, .int ((mI q15.2 a1 1) - (1 : Int32))), (4, .int q15.1), (3, .int q11.1), (0, .ref (zs Z + 256)), (1, .ref (zs Z + a1)), (2, .int x2)] dX4_plan_35 (Nat.le_of_ble_eq_true rfl) rfl ?_
  refine G.locs [3, 4, 5, 2, 1, 0] rfl ?_
  exact l_X4_plan_37 Z X hR hq FU a1 x2 q11.1 q15.1 ((mI q15.2 a1 1) - (1 : Int32)) q15.2 hs13 k_a1 hf
abbrev Y_X5_heaviness : My := (cX5_heaviness, RX5, 1)
def rm_X5_heaviness : Room := { frames := 1, cells := 0, slots := 0, locals := 200 }
theorem dX5_heaviness_0 : decode cX5_heaviness 0 = .ok (.aload_n 0, 1) := by decide +kernel
theorem dX5_heaviness_1 : decode cX5_heaviness 1 = .ok (.getfield 9, 3) := by decide +kernel
theorem dX5_heaviness_4 : decode cX5_heaviness 4 = .ok (.tableswitch 82 1 7 #[44, 47, 50, 58, 66, 76, 79], 44) := by decide +kernel
theorem dX5_heaviness_48 : decode cX5_heaviness 48 = .ok (.bipush 11, 2) := by decide +kernel
theorem dX5_heaviness_50 : decode cX5_heaviness 50 = .ok (.ireturn, 1) := by decide +kernel
theorem dX5_heaviness_51 : decode cX5_heaviness 51 = .ok (.bipush 15, 2) := by decide +kernel
theorem dX5_heaviness_53 : decode cX5_heaviness 53 = .ok (.ireturn, 1) := by decide +kernel
theorem dX5_heaviness_54 : decode cX5_heaviness 54 = .ok (.bipush 20, 2) := by decide +kernel
theorem dX5_heaviness_56 : decode cX5_heaviness 56 = .ok (.aload_n 0, 1) := by decide +kernel
theorem dX5_heaviness_57 : decode cX5_heaviness 57 = .ok (.getfield 13, 3) := by decide +kernel
theorem dX5_heaviness_60 : decode cX5_heaviness 60 = .ok (.iadd, 1) := by decide +kernel
theorem dX5_heaviness_61 : decode cX5_heaviness 61 = .ok (.ireturn, 1) := by decide +kernel
theorem dX5_heaviness_62 : decode cX5_heaviness 62 = .ok (.bipush 11, 2) := by decide +kernel
theorem dX5_heaviness_64 : decode cX5_heaviness 64 = .ok (.aload_n 0, 1) := by decide +kernel
theorem dX5_heaviness_65 : decode cX5_heaviness 65 = .ok (.getfield 13, 3) := by decide +kernel
theorem dX5_heaviness_68 : decode cX5_heaviness 68 = .ok (.iadd, 1) := by decide +kernel
theorem dX5_heaviness_69 : decode cX5_heaviness 69 = .ok (.ireturn, 1) := by decide +kernel
theorem dX5_heaviness_70 : decode cX5_heaviness 70 = .ok (.bipush 10, 2) := by decide +kernel
theorem dX5_heaviness_72 : decode cX5_heaviness 72 = .ok (.iconst 2, 1) := by decide +kernel
theorem dX5_heaviness_73 : decode cX5_heaviness 73 = .ok (.aload_n 0, 1) := by decide +kernel
theorem dX5_heaviness_74 : decode cX5_heaviness 74 = .ok (.getfield 13, 3) := by decide +kernel
theorem dX5_heaviness_77 : decode cX5_heaviness 77 = .ok (.imul, 1) := by decide +kernel
theorem dX5_heaviness_78 : decode cX5_heaviness 78 = .ok (.iadd, 1) := by decide +kernel
theorem dX5_heaviness_79 : decode cX5_heaviness 79 = .ok (.ireturn, 1) := by decide +kernel
theorem dX5_heaviness_80 : decode cX5_heaviness 80 = .ok (.bipush 22, 2) := by decide +kernel
theorem dX5_heaviness_82 : decode cX5_heaviness 82 = .ok (.ireturn, 1) := by decide +kernel
theorem dX5_heaviness_83 : decode cX5_heaviness 83 = .ok (.bipush 7, 2) := by decide +kernel
theorem dX5_heaviness_85 : decode cX5_heaviness 85 = .ok (.ireturn, 1) := by decide +kernel
theorem dX5_heaviness_86 : decode cX5_heaviness 86 = .ok (.bipush 10, 2) := by decide +kernel
theorem dX5_heaviness_88 : decode cX5_heaviness 88 = .ok (.ireturn, 1) := by decide +kernel
def f_X5_heaviness (a0 : Nat) (M : Mem) : Int32 := if (mI M a0 0) = (1 : Int32) then (11 : Int32) else if (mI M a0 0) = (2 : Int32) then (15 : Int32) else if (mI M a0 0) = (3 : Int32) then ((20 : Int32) + (mI M a0 1)) else if (mI M a0 0) = (4 : Int32) then ((11 : Int32) + (mI M a0 1)) else if (mI M a0 0) = (5 : Int32) then ((10 : Int32) + ((2 : Int32) * (mI M a0 1))) else if (mI M a0 0) = (6 : Int32) then (22 : Int32) else if (mI M a0 0) = (7 : Int32) then (7 : Int32) else (10 : Int32)
set_option maxRecDepth 100000 in
set_option maxHeartbeats 4000000 in
theorem c_X5_heaviness (Z : Sys) {M : Mem} (hs : St M) (a0 : Nat) (k_a0 : K0[a0]? = some (5, 2)) {q : Int32} (hf : f_X5_heaviness a0 M = q) : Ct Z yX5_heaviness cX5_heaviness 1 (some .int) rm_X5_heaviness [.ref (zs Z + a0)] M False (PostI q M) := by
  refine Ct.of (by decide +kernel) (Nat.le_of_ble_eq_true rfl) (fun X hR hq _ => ?_)
  show G Z X Y_X5_heaviness False 0 0 0 [(0, .ref (zs Z + a0))] [] M
  replace hq : RetOk Z X (some .int) False (PostI q M) 0 0 := hq
  unfold f_X5_heaviness at hf
  refine G.aload_n 0 0 dX5_heaviness_0 rfl rfl ?_
  refine G.geti 1 ck_5 0 (hs.k k_a0) (by decide) (by decide +kernel) wd_174 dX5_heaviness_1 ?_
  by_cases h1 : (mI M a0 0) = (1 : Int32)
  · replace hf := (if_pos h1).symm.trans hf
    refine G.tableIn 4 48 (off := 44) dX5_heaviness_4 (by rw [h1]; decide +kernel) (by rw [h1]; decide +kernel) (by rw [h1]; decide +kernel) (by decide) ?_
    refine G.bipush 48 (11 : Int32) dX5_heaviness_48 (by decide +kernel) ?_
    subst hf
    exact G.rI 50 hq dX5_heaviness_50 hs
  · replace hf := (if_neg h1).symm.trans hf
    by_cases h2 : (mI M a0 0) = (2 : Int32)
    · replace hf := (if_pos h2).symm.trans hf
      refine G.tableIn 4 51 (off := 47) dX5_heaviness_4 (by rw [h2]; decide +kernel) (by rw [h2]; decide +kernel) (by rw [h2]; decide +kernel) (by decide) ?_
      refine G.bipush 51 (15 : Int32) dX5_heaviness_51 (by decide +kernel) ?_
      subst hf
      exact G.rI 53 hq dX5_heaviness_53 hs
    · replace hf := (if_neg h2).symm.trans hf
      by_cases h3 : (mI M a0 0) = (3 : Int32)
      · replace hf := (if_pos h3).symm.trans hf
        refine G.tableIn 4 54 (off := 50) dX5_heaviness_4 (by rw [h3]; decide +kernel) (by rw [h3]; decide +kernel) (by rw [h3]; decide +kernel) (by decide) ?_
        refine G.bipush 54 (20 : Int32) dX5_heaviness_54 (by decide +kernel) ?_
        refine G.aload_n 56 0 dX5_heaviness_56 rfl rfl ?_
        refine G.geti 57 ck_5 1 (hs.k k_a0) (by decide) (by decide +kernel) wd_177 dX5_heaviness_57 ?_
        refine G.iadd 60 dX5_heaviness_60 ?_
        subst hf
        exact G.rI 61 hq dX5_heaviness_61 hs
      · replace hf := (if_neg h3).symm.trans hf
        by_cases h4 : (mI M a0 0) = (4 : Int32)
        · replace hf := (if_pos h4).symm.trans hf
          refine G.tableIn 4 62 (off := 58) dX5_heaviness_4 (by rw [h4]; decide +kernel) (by rw [h4]; decide +kernel) (by rw [h4]; decide +kernel) (by decide) ?_
          refine G.bipush 62 (11 : Int32) dX5_heaviness_62 (by decide +kernel) ?_
          refine G.aload_n 64 0 dX5_heaviness_64 rfl rfl ?_
          refine G.geti 65 ck_5 1 (hs.k k_a0) (by decide) (by decide +kernel) wd_177 dX5_heaviness_65 ?_
          refine G.iadd 68 dX5_heaviness_68 ?_
          subst hf
          exact G.rI 69 hq dX5_heaviness_69 hs
        · replace hf := (if_neg h4).symm.trans hf
          by_cases h5 : (mI M a0 0) = (5 : Int32)
          · replace hf := (if_pos h5).symm.trans hf
            refine G.tableIn 4 70 (off := 66) dX5_heaviness_4 (by rw [h5]; decide +kernel) (by rw [h5]; decide +kernel) (by rw [h5]; decide +kernel) (by decide) ?_
            refine G.bipush 70 (10 : Int32) dX5_heaviness_70 (by decide +kernel) ?_
            refine G.iconst 72 (2 : Int32) dX5_heaviness_72 (by decide +kernel) ?_
            refine G.aload_n 73 0 dX5_heaviness_73 rfl rfl ?_
            refine G.geti 74 ck_5 1 (hs.k k_a0) (by decide) (by decide +kernel) wd_177 dX5_heaviness_74 ?_
            refine G.imul 77 dX5_heaviness_77 ?_
            refine G.iadd 78 dX5_heaviness_78 ?_
            subst hf
            exact G.rI 79 hq dX5_heaviness_79 hs
          · replace hf := (if_neg h5).symm.trans hf
            by_cases h6 : (mI M a0 0) = (6 : Int32)
            · replace hf := (if_pos h6).symm.trans hf
              refine G.tableIn 4 80 (off := 76) dX5_heaviness_4 (by rw [h6]; decide +kernel) (by rw [h6]; decide +kernel) (by rw [h6]; decide +kernel) (by decide) ?_
              refine G.bipush 80 (22 : Int32) dX5_heaviness_80 (by decide +kernel) ?_
              subst hf
              exact G.rI 82 hq dX5_heaviness_82 hs
            · replace hf := (if_neg h6).symm.trans hf
              by_cases h7 : (mI M a0 0) = (7 : Int32)
              · replace hf := (if_pos h7).symm.trans hf
                refine G.tableIn 4 83 (off := 79) dX5_heaviness_4 (by rw [h7]; decide +kernel) (by rw [h7]; decide +kernel) (by rw [h7]; decide +kernel) (by decide) ?_
                refine G.bipush 83 (7 : Int32) dX5_heaviness_83 (by decide +kernel) ?_
                subst hf
                exact G.rI 85 hq dX5_heaviness_85 hs
              · replace hf := (if_neg h7).symm.trans hf
                have t_h1 := ti (1 : Int32) (1) (by decide +kernel) h1
                have t_h2 := ti (2 : Int32) (2) (by decide +kernel) h2
                have t_h3 := ti (3 : Int32) (3) (by decide +kernel) h3
                have t_h4 := ti (4 : Int32) (4) (by decide +kernel) h4
                have t_h5 := ti (5 : Int32) (5) (by decide +kernel) h5
                have t_h6 := ti (6 : Int32) (6) (by decide +kernel) h6
                have t_h7 := ti (7 : Int32) (7) (by decide +kernel) h7
                refine G.tableOut 4 86 dX5_heaviness_4 (by omega) (by decide) ?_
                refine G.bipush 86 (10 : Int32) dX5_heaviness_86 (by decide +kernel) ?_
                subst hf
                exact G.rI 88 hq dX5_heaviness_88 hs
