abbrev Y_X9_findWatched : My := (cX9_findWatched, RX9, 3)
def rm_X9_findWatched : Room := { frames := 3, cells := 0, slots := 0, locals := 243 }
theorem dX9_findWatched_0 : decode cX9_findWatched 0 = .ok (.aload_n 0, 1) := by decide +kernel
theorem dX9_findWatched_1 : decode cX9_findWatched 1 = .ok (.iconst 0, 1) := by decide +kernel
theorem dX9_findWatched_2 : decode cX9_findWatched 2 = .ok (.putfield 145, 3) := by decide +kernel
theorem dX9_findWatched_5 : decode cX9_findWatched 5 = .ok (.aload_n 0, 1) := by decide +kernel
theorem dX9_findWatched_6 : decode cX9_findWatched 6 = .ok (.iconst 0, 1) := by decide +kernel
theorem dX9_findWatched_7 : decode cX9_findWatched 7 = .ok (.putfield 148, 3) := by decide +kernel
theorem dX9_findWatched_10 : decode cX9_findWatched 10 = .ok (.iconst 0, 1) := by decide +kernel
theorem dX9_findWatched_11 : decode cX9_findWatched 11 = .ok (.istore_n 1, 1) := by decide +kernel
theorem dX9_findWatched_12 : decode cX9_findWatched 12 = .ok (.iconst 0, 1) := by decide +kernel
theorem dX9_findWatched_13 : decode cX9_findWatched 13 = .ok (.istore_n 2, 1) := by decide +kernel
theorem dX9_findWatched_14 : decode cX9_findWatched 14 = .ok (.iload_n 2, 1) := by decide +kernel
theorem dX9_findWatched_15 : decode cX9_findWatched 15 = .ok (.aload_n 0, 1) := by decide +kernel
theorem dX9_findWatched_16 : decode cX9_findWatched 16 = .ok (.getfield 9, 3) := by decide +kernel
theorem dX9_findWatched_19 : decode cX9_findWatched 19 = .ok (.sipush 1192, 3) := by decide +kernel
theorem dX9_findWatched_22 : decode cX9_findWatched 22 = .ok (.iaload, 1) := by decide +kernel
theorem dX9_findWatched_23 : decode cX9_findWatched 23 = .ok (.if_icmp .ge 75, 3) := by decide +kernel
theorem dX9_findWatched_26 : decode cX9_findWatched 26 = .ok (.aload_n 0, 1) := by decide +kernel
theorem dX9_findWatched_27 : decode cX9_findWatched 27 = .ok (.iload_n 2, 1) := by decide +kernel
theorem dX9_findWatched_28 : decode cX9_findWatched 28 = .ok (.invokevirtual 97, 3) := by decide +kernel
theorem dX9_findWatched_31 : decode cX9_findWatched 31 = .ok (.ifCond .ne 6, 3) := by decide +kernel
theorem dX9_findWatched_34 : decode cX9_findWatched 34 = .ok (.goto 58, 3) := by decide +kernel
theorem dX9_findWatched_37 : decode cX9_findWatched 37 = .ok (.aload_n 0, 1) := by decide +kernel
theorem dX9_findWatched_38 : decode cX9_findWatched 38 = .ok (.getfield 37, 3) := by decide +kernel
theorem dX9_findWatched_41 : decode cX9_findWatched 41 = .ok (.aload_n 0, 1) := by decide +kernel
theorem dX9_findWatched_42 : decode cX9_findWatched 42 = .ok (.getfield 145, 3) := by decide +kernel
theorem dX9_findWatched_45 : decode cX9_findWatched 45 = .ok (.aload_n 0, 1) := by decide +kernel
theorem dX9_findWatched_46 : decode cX9_findWatched 46 = .ok (.iload_n 2, 1) := by decide +kernel
theorem dX9_findWatched_47 : decode cX9_findWatched 47 = .ok (.invokevirtual 100, 3) := by decide +kernel
theorem dX9_findWatched_50 : decode cX9_findWatched 50 = .ok (.iastore, 1) := by decide +kernel
theorem dX9_findWatched_51 : decode cX9_findWatched 51 = .ok (.iload_n 1, 1) := by decide +kernel
theorem dX9_findWatched_52 : decode cX9_findWatched 52 = .ok (.aload_n 0, 1) := by decide +kernel
theorem dX9_findWatched_53 : decode cX9_findWatched 53 = .ok (.iload_n 2, 1) := by decide +kernel
theorem dX9_findWatched_54 : decode cX9_findWatched 54 = .ok (.bipush 11, 2) := by decide +kernel
theorem dX9_findWatched_56 : decode cX9_findWatched 56 = .ok (.invokevirtual 76, 3) := by decide +kernel
theorem dX9_findWatched_59 : decode cX9_findWatched 59 = .ok (.aload_n 0, 1) := by decide +kernel
theorem dX9_findWatched_60 : decode cX9_findWatched 60 = .ok (.getfield 145, 3) := by decide +kernel
theorem dX9_findWatched_63 : decode cX9_findWatched 63 = .ok (.ishl, 1) := by decide +kernel
theorem dX9_findWatched_64 : decode cX9_findWatched 64 = .ok (.ior, 1) := by decide +kernel
theorem dX9_findWatched_65 : decode cX9_findWatched 65 = .ok (.istore_n 1, 1) := by decide +kernel
theorem dX9_findWatched_66 : decode cX9_findWatched 66 = .ok (.aload_n 0, 1) := by decide +kernel
theorem dX9_findWatched_67 : decode cX9_findWatched 67 = .ok (.dup, 1) := by decide +kernel
theorem dX9_findWatched_68 : decode cX9_findWatched 68 = .ok (.getfield 148, 3) := by decide +kernel
theorem dX9_findWatched_71 : decode cX9_findWatched 71 = .ok (.aload_n 0, 1) := by decide +kernel
theorem dX9_findWatched_72 : decode cX9_findWatched 72 = .ok (.iload_n 2, 1) := by decide +kernel
theorem dX9_findWatched_73 : decode cX9_findWatched 73 = .ok (.bipush 11, 2) := by decide +kernel
theorem dX9_findWatched_75 : decode cX9_findWatched 75 = .ok (.invokevirtual 76, 3) := by decide +kernel
theorem dX9_findWatched_78 : decode cX9_findWatched 78 = .ok (.iadd, 1) := by decide +kernel
theorem dX9_findWatched_79 : decode cX9_findWatched 79 = .ok (.putfield 148, 3) := by decide +kernel
theorem dX9_findWatched_82 : decode cX9_findWatched 82 = .ok (.aload_n 0, 1) := by decide +kernel
theorem dX9_findWatched_83 : decode cX9_findWatched 83 = .ok (.dup, 1) := by decide +kernel
theorem dX9_findWatched_84 : decode cX9_findWatched 84 = .ok (.getfield 145, 3) := by decide +kernel
theorem dX9_findWatched_87 : decode cX9_findWatched 87 = .ok (.iconst 1, 1) := by decide +kernel
theorem dX9_findWatched_88 : decode cX9_findWatched 88 = .ok (.iadd, 1) := by decide +kernel
theorem dX9_findWatched_89 : decode cX9_findWatched 89 = .ok (.putfield 145, 3) := by decide +kernel
theorem dX9_findWatched_92 : decode cX9_findWatched 92 = .ok (.iinc 2 1, 3) := by decide +kernel
theorem dX9_findWatched_95 : decode cX9_findWatched 95 = .ok (.goto (-81), 3) := by decide +kernel
theorem dX9_findWatched_98 : decode cX9_findWatched 98 = .ok (.iload_n 1, 1) := by decide +kernel
theorem dX9_findWatched_99 : decode cX9_findWatched 99 = .ok (.ireturn, 1) := by decide +kernel
def B_X9_findWatched_92 (rc_14 : Int32 → Int32 → Mem → Option (Int32 × Mem)) (x1 : Int32) (x2 : Int32) (M : Mem) : Option (Int32 × Mem) := rc_14 x1 (x2 + 1) M
def L_X9_findWatched_14 : Nat → Int32 → Int32 → Mem → Option (Int32 × Mem)
  | 0, _, _, _ => none
  | n + 1, x1, x2, M => if (mI M 285 1192) ≤ x2 then some (x1, M) else (f_X9_has x2 M).bind fun q4 => if q4 = 0 then B_X9_findWatched_92 (L_X9_findWatched_14 n) x1 x2 M else (f_X9_share x2 M).bind fun q9 => gd (inR (mI M 284 13) 30) ((f_X9_get x2 (11 : Int32) (sI M 294 (mI M 284 13).toNatClampNeg q9)).bind fun q14 => (f_X9_get x2 (11 : Int32) (sI M 294 (mI M 284 13).toNatClampNeg q9)).bind fun q18 => B_X9_findWatched_92 (L_X9_findWatched_14 n) (x1 ||| (q14 <<< ((mI (sI M 294 (mI M 284 13).toNatClampNeg q9) 284 13) &&& 31))) x2 (sI (sI (sI M 294 (mI M 284 13).toNatClampNeg q9) 284 14 ((mI (sI M 294 (mI M 284 13).toNatClampNeg q9) 284 14) + q18)) 284 13 ((mI (sI (sI M 294 (mI M 284 13).toNatClampNeg q9) 284 14 ((mI (sI M 294 (mI M 284 13).toNatClampNeg q9) 284 14) + q18)) 284 13) + (1 : Int32))))
def f_X9_findWatched (M : Mem) : Option (Int32 × Mem) := L_X9_findWatched_14 FU (0 : Int32) (0 : Int32) (sI (sI M 284 13 (0 : Int32)) 284 14 (0 : Int32))
set_option maxRecDepth 100000 in
set_option maxHeartbeats 4000000 in
theorem b_X9_findWatched_92 (Z : Sys) (X : Cx) (hR : xR X = rm_X9_findWatched) {q : Int32 × Mem} (hq : RetOk Z X (some .int) False (PostI q.1 q.2) 0 0) (rc_14 : Int32 → Int32 → Mem → Option (Int32 × Mem)) (hrc_14 : ∀ (x1 : Int32) (x2 : Int32) (M : Mem), St M → rc_14 x1 x2 M = some q → G Z X Y_X9_findWatched False 0 0 14 [(0, .ref (zs Z + 284)), (1, .int x1), (2, .int x2)] [] M) (x1 : Int32) (x2 : Int32) {M : Mem} (hs : St M) (hf : B_X9_findWatched_92 rc_14 x1 x2 M = some q) : G Z X Y_X9_findWatched False 0 0 92 [(0, .ref (zs Z + 284)), (1, .int x1), (2, .int x2)] [] M := by
  unfold B_X9_findWatched_92 at hf
  refine G.iinc 92 2 (x2 + 1) [(2, .int (x2 + 1)), (0, .ref (zs Z + 284)), (1, .int x1)] dX9_findWatched_92 rfl (congrArg (fun z => x2 + z) (by decide +kernel)) (Nat.le_of_ble_eq_true rfl) rfl ?_
  refine G.goto 95 14 dX9_findWatched_95 (by decide) ?_
  refine G.locs [1, 2, 0] rfl ?_
  exact hrc_14 x1 (x2 + 1) M hs hf
set_option maxRecDepth 100000 in
set_option maxHeartbeats 4000000 in
theorem l_X9_findWatched_14 (Z : Sys) (X : Cx) (hR : xR X = rm_X9_findWatched) {q : Int32 × Mem} (hq : RetOk Z X (some .int) False (PostI q.1 q.2) 0 0) : ∀ (n : Nat) (x1 : Int32) (x2 : Int32) (M : Mem) (hs : St M) (hf : L_X9_findWatched_14 n x1 x2 M = some q), G Z X Y_X9_findWatched False 0 0 14 [(0, .ref (zs Z + 284)), (1, .int x1), (2, .int x2)] [] M := by
  intro n
  induction n with
  | zero => intro x1 x2 M hs  hf; cases hf
  | succ n ih =>
    intro x1 x2 M hs  hf
    unfold L_X9_findWatched_14 at hf
    refine G.iload_n 14 2 dX9_findWatched_14 rfl rfl ?_
    refine G.aload_n 15 0 dX9_findWatched_15 rfl rfl ?_
    refine G.getp 16 ck_9 0 285 (hs.k k0_284) (pc_9_0 hs) (by decide) (by decide +kernel) wd_1305 dX9_findWatched_16 ?_
    refine G.sipush 19 (1192 : Int32) dX9_findWatched_19 (by decide +kernel) ?_
    refine G.ia 22 1192 (hs.k k0_285) (by decide +kernel) (by decide +kernel) dX9_findWatched_22 ?_
    refine G.icmp_ge 23 98 dX9_findWatched_23 (by decide) (fun h1 => ?_) (fun h1 => ?_)
    · replace hf := (if_pos h1).symm.trans hf
      refine G.iload_n 98 1 dX9_findWatched_98 rfl rfl ?_
      (have hf9 := Option.some.inj hf; subst hf9)
      exact G.rI 99 hq dX9_findWatched_99 hs
    · replace hf := (if_neg h1).symm.trans hf
      refine G.aload_n 26 0 dX9_findWatched_26 rfl rfl ?_
      refine G.iload_n 27 2 dX9_findWatched_27 rfl rfl ?_
      obtain ⟨q4, e5, hf⟩ := bd_e hf
      refine G.cvZ 28 (As := [.int x2]) ck_9 (hs.k k0_284) (c_X9_has Z hs x2 e5) mk_X9_has vk_X9_has rfl wd_1445 hR (by decide +kernel) ⟨rfl, rfl⟩ rfl (Nat.le_of_ble_eq_true rfl) dX9_findWatched_28 (fun hs2 z3 => ?_)
      refine G.if_ne 31 37 dX9_findWatched_31 (by decide) (fun h6 => ?_) (fun h6 => ?_)
      · replace hf := (if_neg h6).symm.trans hf
        refine G.aload_n 37 0 dX9_findWatched_37 rfl rfl ?_
        refine G.getp 38 ck_9 12 294 (hs2.k k0_284) (pc_9_12 hs2) (by decide) (by decide +kernel) wd_1317 dX9_findWatched_38 ?_
        refine G.aload_n 41 0 dX9_findWatched_41 rfl rfl ?_
        refine G.geti 42 ck_9 13 (hs2.k k0_284) (by decide) (by decide +kernel) wd_1318 dX9_findWatched_42 ?_
        refine G.aload_n 45 0 dX9_findWatched_45 rfl rfl ?_
        refine G.iload_n 46 2 dX9_findWatched_46 rfl rfl ?_
        obtain ⟨q9, e10, hf⟩ := bd_e hf
        refine G.cvI 47 (As := [.int x2]) ck_9 (hs2.k k0_284) (c_X9_share Z hs2 x2 e10) mk_X9_share vk_X9_share rfl wd_1449 hR (by decide +kernel) ⟨rfl, rfl⟩ rfl (Nat.le_of_ble_eq_true rfl) dX9_findWatched_47 (fun hs7 => ?_)
        obtain ⟨g11, hf⟩ := gd_e hf
        refine G.ist 50 (mI M 284 13).toNatClampNeg (hs7.k k0_294) g11 rfl dX9_findWatched_50 ?_
        refine G.iload_n 51 1 dX9_findWatched_51 rfl rfl ?_
        refine G.aload_n 52 0 dX9_findWatched_52 rfl rfl ?_
        refine G.iload_n 53 2 dX9_findWatched_53 rfl rfl ?_
        refine G.bipush 54 (11 : Int32) dX9_findWatched_54 (by decide +kernel) ?_
        obtain ⟨q14, e15, hf⟩ := bd_e hf
        refine G.cvI 56 (As := [.int x2, .int (11 : Int32)]) ck_9 ((St.i hs7).k k0_284) (c_X9_get Z (St.i hs7) x2 (11 : Int32) e15) mk_X9_get vk_X9_get rfl wd_1411 hR (by decide +kernel) ⟨rfl, rfl⟩ rfl (Nat.le_of_ble_eq_true rfl) dX9_findWatched_56 (fun hs12 => ?_)
        refine G.aload_n 59 0 dX9_findWatched_59 rfl rfl ?_
        refine G.geti 60 ck_9 13 (hs12.k k0_284) (by decide) (by decide +kernel) wd_1318 dX9_findWatched_60 ?_
        refine G.ishl 63 dX9_findWatched_63 ?_
        refine G.ior 64 dX9_findWatched_64 ?_
        refine G.istore_n 65 [(1, .int (x1 ||| (q14 <<< ((mI (sI M 294 (mI M 284 13).toNatClampNeg q9) 284 13) &&& 31)))), (0, .ref (zs Z + 284)), (2, .int x2)] dX9_findWatched_65 rfl (Nat.le_of_ble_eq_true rfl) rfl ?_
        refine G.aload_n 66 1 dX9_findWatched_66 rfl rfl ?_
        refine G.dup 67 dX9_findWatched_67 rfl ?_
        refine G.geti 68 ck_9 14 (hs12.k k0_284) (by decide) (by decide +kernel) wd_1319 dX9_findWatched_68 ?_
        refine G.aload_n 71 1 dX9_findWatched_71 rfl rfl ?_
        refine G.iload_n 72 2 dX9_findWatched_72 rfl rfl ?_
        refine G.bipush 73 (11 : Int32) dX9_findWatched_73 (by decide +kernel) ?_
        obtain ⟨q18, e19, hf⟩ := bd_e hf
        refine G.cvI 75 (As := [.int x2, .int (11 : Int32)]) ck_9 (hs12.k k0_284) (c_X9_get Z hs12 x2 (11 : Int32) e19) mk_X9_get vk_X9_get rfl wd_1411 hR (by decide +kernel) ⟨rfl, rfl⟩ rfl (Nat.le_of_ble_eq_true rfl) dX9_findWatched_75 (fun hs16 => ?_)
        refine G.iadd 78 dX9_findWatched_78 ?_
        refine G.puti 79 ck_9 14 (hs16.k k0_284) (by decide) (by decide +kernel) rfl wd_1319 rfl rfl dX9_findWatched_79 ?_
        refine G.aload_n 82 1 dX9_findWatched_82 rfl rfl ?_
        refine G.dup 83 dX9_findWatched_83 rfl ?_
        refine G.geti 84 ck_9 13 ((St.i hs16).k k0_284) (by decide) (by decide +kernel) wd_1318 dX9_findWatched_84 ?_
        refine G.iconst 87 (1 : Int32) dX9_findWatched_87 (by decide +kernel) ?_
        refine G.iadd 88 dX9_findWatched_88 ?_
        refine G.puti 89 ck_9 13 ((St.i hs16).k k0_284) (by decide) (by decide +kernel) rfl wd_1318 rfl rfl dX9_findWatched_89 ?_
        refine G.locs [1, 0, 2] rfl ?_
        exact b_X9_findWatched_92 Z X hR hq (L_X9_findWatched_14 n) ih (x1 ||| (q14 <<< ((mI (sI M 294 (mI M 284 13).toNatClampNeg q9) 284 13) &&& 31))) x2 (St.i (St.i hs16)) hf
      · replace hf := (if_pos h6).symm.trans hf
        refine G.goto 34 92 dX9_findWatched_34 (by decide) ?_
        exact b_X9_findWatched_92 Z X hR hq (L_X9_findWatched_14 n) ih x1 x2 hs2 hf
set_option maxRecDepth 100000 in
set_option maxHeartbeats 4000000 in
theorem c_X9_findWatched (Z : Sys) {M : Mem} (hs : St M) {q : Int32 × Mem} (hf : f_X9_findWatched M = some q) : Ct Z yX9_findWatched cX9_findWatched 3 (some .int) rm_X9_findWatched [.ref (zs Z + 284)] M False (PostI q.1 q.2) := by
  refine Ct.of (by decide +kernel) (Nat.le_of_ble_eq_true rfl) (fun X hR hq _ => ?_)
  show G Z X Y_X9_findWatched False 0 0 0 [(0, .ref (zs Z + 284))] [] M
  replace hq : RetOk Z X (some .int) False (PostI q.1 q.2) 0 0 := hq
  unfold f_X9_findWatched at hf
  refine G.aload_n 0 0 dX9_findWatched_0 rfl rfl ?_
  refine G.iconst 1 (0 : Int32) dX9_findWatched_1 (by decide +kernel) ?_
  refine G.puti 2 ck_9 13 (hs.k k0_284) (by decide) (by decide +kernel) rfl wd_1318 rfl rfl dX9_findWatched_2 ?_
  refine G.aload_n 5 0 dX9_findWatched_5 rfl rfl ?_
  refine G.iconst 6 (0 : Int32) dX9_findWatched_6 (by decide +kernel) ?_
  refine G.puti 7 ck_9 14 ((St.i hs).k k0_284) (by decide) (by decide +kernel) rfl wd_1319 rfl rfl dX9_findWatched_7 ?_
  refine G.iconst 10 (0 : Int32) dX9_findWatched_10 (by decide +kernel) ?_
  refine G.istore_n 11 [(1, .int (0 : Int32)), (0, .ref (zs Z + 284))] dX9_findWatched_11 rfl (Nat.le_of_ble_eq_true rfl) rfl ?_
  refine G.iconst 12 (0 : Int32) dX9_findWatched_12 (by decide +kernel) ?_
  refine G.istore_n 13 [(2, .int (0 : Int32)), (1, .int (0 : Int32)), (0, .ref (zs Z + 284))] dX9_findWatched_13 rfl (Nat.le_of_ble_eq_true rfl) rfl ?_
  refine G.locs [2, 1, 0] rfl ?_
  exact l_X9_findWatched_14 Z X hR hq FU (0 : Int32) (0 : Int32) (sI (sI M 284 13 (0 : Int32)) 284 14 (0 : Int32)) (St.i (St.i hs)) hf
abbrev Y_X9_costOf : My := (cX9_costOf, RX9, 4)
def rm_X9_costOf : Room := { frames := 1, cells := 0, slots := 0, locals := 200 }
theorem dX9_costOf_0 : decode cX9_costOf 0 = .ok (.iconst 0, 1) := by decide +kernel
theorem dX9_costOf_1 : decode cX9_costOf 1 = .ok (.istore_n 2, 1) := by decide +kernel
theorem dX9_costOf_2 : decode cX9_costOf 2 = .ok (.iconst 0, 1) := by decide +kernel
theorem dX9_costOf_3 : decode cX9_costOf 3 = .ok (.istore_n 3, 1) := by decide +kernel
theorem dX9_costOf_4 : decode cX9_costOf 4 = .ok (.iload_n 3, 1) := by decide +kernel
theorem dX9_costOf_5 : decode cX9_costOf 5 = .ok (.aload_n 0, 1) := by decide +kernel
theorem dX9_costOf_6 : decode cX9_costOf 6 = .ok (.getfield 145, 3) := by decide +kernel
theorem dX9_costOf_9 : decode cX9_costOf 9 = .ok (.if_icmp .ge 52, 3) := by decide +kernel
theorem dX9_costOf_12 : decode cX9_costOf 12 = .ok (.iload_n 2, 1) := by decide +kernel
theorem dX9_costOf_13 : decode cX9_costOf 13 = .ok (.iload_n 1, 1) := by decide +kernel
theorem dX9_costOf_14 : decode cX9_costOf 14 = .ok (.iload_n 3, 1) := by decide +kernel
theorem dX9_costOf_15 : decode cX9_costOf 15 = .ok (.ishr, 1) := by decide +kernel
theorem dX9_costOf_16 : decode cX9_costOf 16 = .ok (.iconst 1, 1) := by decide +kernel
theorem dX9_costOf_17 : decode cX9_costOf 17 = .ok (.iand, 1) := by decide +kernel
theorem dX9_costOf_18 : decode cX9_costOf 18 = .ok (.iconst 1, 1) := by decide +kernel
theorem dX9_costOf_19 : decode cX9_costOf 19 = .ok (.if_icmp .ne 22, 3) := by decide +kernel
theorem dX9_costOf_22 : decode cX9_costOf 22 = .ok (.aload_n 0, 1) := by decide +kernel
theorem dX9_costOf_23 : decode cX9_costOf 23 = .ok (.getfield 37, 3) := by decide +kernel
theorem dX9_costOf_26 : decode cX9_costOf 26 = .ok (.iload_n 3, 1) := by decide +kernel
theorem dX9_costOf_27 : decode cX9_costOf 27 = .ok (.iaload, 1) := by decide +kernel
theorem dX9_costOf_28 : decode cX9_costOf 28 = .ok (.aload_n 0, 1) := by decide +kernel
theorem dX9_costOf_29 : decode cX9_costOf 29 = .ok (.getfield 145, 3) := by decide +kernel
theorem dX9_costOf_32 : decode cX9_costOf 32 = .ok (.aload_n 0, 1) := by decide +kernel
theorem dX9_costOf_33 : decode cX9_costOf 33 = .ok (.getfield 148, 3) := by decide +kernel
theorem dX9_costOf_36 : decode cX9_costOf 36 = .ok (.isub, 1) := by decide +kernel
theorem dX9_costOf_37 : decode cX9_costOf 37 = .ok (.imul, 1) := by decide +kernel
theorem dX9_costOf_38 : decode cX9_costOf 38 = .ok (.goto 15, 3) := by decide +kernel
theorem dX9_costOf_41 : decode cX9_costOf 41 = .ok (.aload_n 0, 1) := by decide +kernel
theorem dX9_costOf_42 : decode cX9_costOf 42 = .ok (.getfield 37, 3) := by decide +kernel
theorem dX9_costOf_45 : decode cX9_costOf 45 = .ok (.iload_n 3, 1) := by decide +kernel
theorem dX9_costOf_46 : decode cX9_costOf 46 = .ok (.iaload, 1) := by decide +kernel
theorem dX9_costOf_47 : decode cX9_costOf 47 = .ok (.ineg, 1) := by decide +kernel
theorem dX9_costOf_48 : decode cX9_costOf 48 = .ok (.aload_n 0, 1) := by decide +kernel
theorem dX9_costOf_49 : decode cX9_costOf 49 = .ok (.getfield 148, 3) := by decide +kernel
theorem dX9_costOf_52 : decode cX9_costOf 52 = .ok (.imul, 1) := by decide +kernel
theorem dX9_costOf_53 : decode cX9_costOf 53 = .ok (.iadd, 1) := by decide +kernel
theorem dX9_costOf_54 : decode cX9_costOf 54 = .ok (.istore_n 2, 1) := by decide +kernel
theorem dX9_costOf_55 : decode cX9_costOf 55 = .ok (.iinc 3 1, 3) := by decide +kernel
theorem dX9_costOf_58 : decode cX9_costOf 58 = .ok (.goto (-54), 3) := by decide +kernel
theorem dX9_costOf_61 : decode cX9_costOf 61 = .ok (.iload_n 2, 1) := by decide +kernel
theorem dX9_costOf_62 : decode cX9_costOf 62 = .ok (.ireturn, 1) := by decide +kernel
def L_X9_costOf_4 : Nat → Int32 → Int32 → Int32 → Mem → Option Int32
  | 0, _, _, _, _ => none
  | n + 1, x1, x2, x3, M => if (mI M 284 13) ≤ x3 then some x2 else if ((x1 >>> (x3 &&& 31)) &&& (1 : Int32)) = (1 : Int32) then gd (inR x3 30) (L_X9_costOf_4 n x1 (x2 + ((mI M 294 x3.toNatClampNeg) * ((mI M 284 13) - (mI M 284 14)))) (x3 + 1) M) else gd (inR x3 30) (L_X9_costOf_4 n x1 (x2 + ((-(mI M 294 x3.toNatClampNeg)) * (mI M 284 14))) (x3 + 1) M)
def f_X9_costOf (x1 : Int32) (M : Mem) : Option Int32 := L_X9_costOf_4 FU x1 (0 : Int32) (0 : Int32) M
set_option maxRecDepth 100000 in
set_option maxHeartbeats 4000000 in
theorem l_X9_costOf_4 (Z : Sys) (X : Cx) (hR : xR X = rm_X9_costOf) {q : Int32} {M : Mem} (hq : RetOk Z X (some .int) False (PostI q M) 0 0) : ∀ (n : Nat) (x1 : Int32) (x2 : Int32) (x3 : Int32) (hs : St M) (hf : L_X9_costOf_4 n x1 x2 x3 M = some q), G Z X Y_X9_costOf False 0 0 4 [(0, .ref (zs Z + 284)), (1, .int x1), (2, .int x2), (3, .int x3)] [] M := by
  intro n
  induction n with
  | zero => intro x1 x2 x3 hs  hf; cases hf
  | succ n ih =>
    intro x1 x2 x3 hs  hf
    unfold L_X9_costOf_4 at hf
    refine G.iload_n 4 3 dX9_costOf_4 rfl rfl ?_
    refine G.aload_n 5 0 dX9_costOf_5 rfl rfl ?_
    refine G.geti 6 ck_9 13 (hs.k k0_284) (by decide) (by decide +kernel) wd_1318 dX9_costOf_6 ?_
    refine G.icmp_ge 9 61 dX9_costOf_9 (by decide) (fun h1 => ?_) (fun h1 => ?_)
    · replace hf := (if_pos h1).symm.trans hf
      refine G.iload_n 61 2 dX9_costOf_61 rfl rfl ?_
      (have hf9 := Option.some.inj hf; subst hf9)
      exact G.rI 62 hq dX9_costOf_62 hs
    · replace hf := (if_neg h1).symm.trans hf
      refine G.iload_n 12 2 dX9_costOf_12 rfl rfl ?_
      refine G.iload_n 13 1 dX9_costOf_13 rfl rfl ?_
      refine G.iload_n 14 3 dX9_costOf_14 rfl rfl ?_
      refine G.ishr 15 dX9_costOf_15 ?_
      refine G.iconst 16 (1 : Int32) dX9_costOf_16 (by decide +kernel) ?_
      refine G.iand 17 dX9_costOf_17 ?_
      refine G.iconst 18 (1 : Int32) dX9_costOf_18 (by decide +kernel) ?_
      refine G.icmp_ne 19 41 dX9_costOf_19 (by decide) (fun h2 => ?_) (fun h2 => ?_)
      · replace hf := (if_neg h2).symm.trans hf
        refine G.aload_n 41 0 dX9_costOf_41 rfl rfl ?_
        refine G.getp 42 ck_9 12 294 (hs.k k0_284) (pc_9_12 hs) (by decide) (by decide +kernel) wd_1317 dX9_costOf_42 ?_
        refine G.iload_n 45 3 dX9_costOf_45 rfl rfl ?_
        obtain ⟨g3, hf⟩ := gd_e hf
        refine G.ia 46 x3.toNatClampNeg (hs.k k0_294) g3 rfl dX9_costOf_46 ?_
        refine G.ineg 47 dX9_costOf_47 ?_
        refine G.aload_n 48 0 dX9_costOf_48 rfl rfl ?_
        refine G.geti 49 ck_9 14 (hs.k k0_284) (by decide) (by decide +kernel) wd_1319 dX9_costOf_49 ?_
        refine G.imul 52 dX9_costOf_52 ?_
        refine G.iadd 53 dX9_costOf_53 ?_
        refine G.istore_n 54 [(2, .int (x2 + ((-(mI M 294 x3.toNatClampNeg)) * (mI M 284 14)))), (0, .ref (zs Z + 284)), (1, .int x1), (3, .int x3)] dX9_costOf_54 rfl (Nat.le_of_ble_eq_true rfl) rfl ?_
        refine G.iinc 55 3 (x3 + 1) [(3, .int (x3 + 1)), (2, .int (x2 + ((-(mI M 294 x3.toNatClampNeg)) * (mI M 284 14)))), (0, .ref (zs Z + 284)), (1, .int x1)] dX9_costOf_55 rfl (congrArg (fun z => x3 + z) (by decide +kernel)) (Nat.le_of_ble_eq_true rfl) rfl ?_
        refine G.goto 58 4 dX9_costOf_58 (by decide) ?_
        refine G.locs [2, 3, 1, 0] rfl ?_
        exact ih x1 (x2 + ((-(mI M 294 x3.toNatClampNeg)) * (mI M 284 14))) (x3 + 1) hs hf
      · replace hf := (if_pos h2).symm.trans hf
        refine G.aload_n 22 0 dX9_costOf_22 rfl rfl ?_
        refine G.getp 23 ck_9 12 294 (hs.k k0_284) (pc_9_12 hs) (by decide) (by decide +kernel) wd_1317 dX9_costOf_23 ?_
        refine G.iload_n 26 3 dX9_costOf_26 rfl rfl ?_
        obtain ⟨g4, hf⟩ := gd_e hf
        refine G.ia 27 x3.toNatClampNeg (hs.k k0_294) g4 rfl dX9_costOf_27 ?_
        refine G.aload_n 28 0 dX9_costOf_28 rfl rfl ?_
        refine G.geti 29 ck_9 13 (hs.k k0_284) (by decide) (by decide +kernel) wd_1318 dX9_costOf_29 ?_
        refine G.aload_n 32 0 dX9_costOf_32 rfl rfl ?_
        refine G.geti 33 ck_9 14 (hs.k k0_284) (by decide) (by decide +kernel) wd_1319 dX9_costOf_33 ?_
        refine G.isub 36 dX9_costOf_36 ?_
        refine G.imul 37 dX9_costOf_37 ?_
        refine G.goto 38 53 dX9_costOf_38 (by decide) ?_
        refine G.iadd 53 dX9_costOf_53 ?_
        refine G.istore_n 54 [(2, .int (x2 + ((mI M 294 x3.toNatClampNeg) * ((mI M 284 13) - (mI M 284 14))))), (0, .ref (zs Z + 284)), (1, .int x1), (3, .int x3)] dX9_costOf_54 rfl (Nat.le_of_ble_eq_true rfl) rfl ?_
        refine G.iinc 55 3 (x3 + 1) [(3, .int (x3 + 1)), (2, .int (x2 + ((mI M 294 x3.toNatClampNeg) * ((mI M 284 13) - (mI M 284 14))))), (0, .ref (zs Z + 284)), (1, .int x1)] dX9_costOf_55 rfl (congrArg (fun z => x3 + z) (by decide +kernel)) (Nat.le_of_ble_eq_true rfl) rfl ?_
        refine G.goto 58 4 dX9_costOf_58 (by decide) ?_
        refine G.locs [2, 3, 1, 0] rfl ?_
        exact ih x1 (x2 + ((mI M 294 x3.toNatClampNeg) * ((mI M 284 13) - (mI M 284 14)))) (x3 + 1) hs hf
set_option maxRecDepth 100000 in
set_option maxHeartbeats 4000000 in
theorem c_X9_costOf (Z : Sys) {M : Mem} (hs : St M) (x1 : Int32) {q : Int32} (hf : f_X9_costOf x1 M = some q) : Ct Z yX9_costOf cX9_costOf 4 (some .int) rm_X9_costOf [.ref (zs Z + 284), .int x1] M False (PostI q M) := by
  refine Ct.of (by decide +kernel) (Nat.le_of_ble_eq_true rfl) (fun X hR hq _ => ?_)
  show G Z X Y_X9_costOf False 0 0 0 [(0, .ref (zs Z + 284)), (1, .int x1)] [] M
  replace hq : RetOk Z X (some .int) False (PostI q M) 0 0 := hq
  unfold f_X9_costOf at hf
  refine G.iconst 0 (0 : Int32) dX9_costOf_0 (by decide +kernel) ?_
  refine G.istore_n 1 [(2, .int (0 : Int32)), (0, .ref (zs Z + 284)), (1, .int x1)] dX9_costOf_1 rfl (Nat.le_of_ble_eq_true rfl) rfl ?_
  refine G.iconst 2 (0 : Int32) dX9_costOf_2 (by decide +kernel) ?_
  refine G.istore_n 3 [(3, .int (0 : Int32)), (2, .int (0 : Int32)), (0, .ref (zs Z + 284)), (1, .int x1)] dX9_costOf_3 rfl (Nat.le_of_ble_eq_true rfl) rfl ?_
  refine G.locs [2, 3, 1, 0] rfl ?_
  exact l_X9_costOf_4 Z X hR hq FU x1 (0 : Int32) (0 : Int32) hs hf
abbrev Y_X9_cost : My := (cX9_cost, RX9, 2)
def rm_X9_cost : Room := { frames := 4, cells := 0, slots := 0, locals := 265 }
theorem dX9_cost_0 : decode cX9_cost 0 = .ok (.aload_n 0, 1) := by decide +kernel
theorem dX9_cost_1 : decode cX9_cost 1 = .ok (.invokevirtual 151, 3) := by decide +kernel
theorem dX9_cost_4 : decode cX9_cost 4 = .ok (.istore_n 1, 1) := by decide +kernel
theorem dX9_cost_5 : decode cX9_cost 5 = .ok (.aload_n 0, 1) := by decide +kernel
theorem dX9_cost_6 : decode cX9_cost 6 = .ok (.getfield 148, 3) := by decide +kernel
theorem dX9_cost_9 : decode cX9_cost 9 = .ok (.ifCond .eq 14, 3) := by decide +kernel
theorem dX9_cost_12 : decode cX9_cost 12 = .ok (.aload_n 0, 1) := by decide +kernel
theorem dX9_cost_13 : decode cX9_cost 13 = .ok (.getfield 148, 3) := by decide +kernel
theorem dX9_cost_16 : decode cX9_cost 16 = .ok (.aload_n 0, 1) := by decide +kernel
theorem dX9_cost_17 : decode cX9_cost 17 = .ok (.getfield 145, 3) := by decide +kernel
theorem dX9_cost_20 : decode cX9_cost 20 = .ok (.if_icmp .ne 8, 3) := by decide +kernel
theorem dX9_cost_23 : decode cX9_cost 23 = .ok (.ldc 141, 2) := by decide +kernel
theorem dX9_cost_25 : decode cX9_cost 25 = .ok (.goto 8, 3) := by decide +kernel
theorem dX9_cost_28 : decode cX9_cost 28 = .ok (.aload_n 0, 1) := by decide +kernel
theorem dX9_cost_29 : decode cX9_cost 29 = .ok (.iload_n 1, 1) := by decide +kernel
theorem dX9_cost_30 : decode cX9_cost 30 = .ok (.invokevirtual 154, 3) := by decide +kernel
theorem dX9_cost_33 : decode cX9_cost 33 = .ok (.ireturn, 1) := by decide +kernel
def B_X9_cost_23 (M : Mem) : Option (Int32 × Mem) := some ((-1000000004 : Int32), M)
def f_X9_cost (M : Mem) : Option (Int32 × Mem) := (f_X9_findWatched M).bind fun q3 => if (mI q3.2 284 14) = 0 then B_X9_cost_23 q3.2 else if (mI q3.2 284 14) = (mI q3.2 284 13) then B_X9_cost_23 q3.2 else (f_X9_costOf q3.1 q3.2).bind fun q9 => some (q9, q3.2)
set_option maxRecDepth 100000 in
set_option maxHeartbeats 4000000 in
theorem b_X9_cost_23 (Z : Sys) (X : Cx) (hR : xR X = rm_X9_cost) {q : Int32 × Mem} (hq : RetOk Z X (some .int) False (PostI q.1 q.2) 0 0) {M : Mem} (hs : St M) (hf : B_X9_cost_23 M = some q) : G Z X Y_X9_cost False 0 0 23 [] [] M := by
  unfold B_X9_cost_23 at hf
  refine G.ldc 23 (-1000000004 : Int32) wd_1520 dX9_cost_23 ?_
  refine G.goto 25 33 dX9_cost_25 (by decide) ?_
  (have hf9 := Option.some.inj hf; subst hf9)
  exact G.rI 33 hq dX9_cost_33 hs
set_option maxRecDepth 100000 in
set_option maxHeartbeats 4000000 in
theorem c_X9_cost (Z : Sys) {M : Mem} (hs : St M) {q : Int32 × Mem} (hf : f_X9_cost M = some q) : Ct Z yX9_cost cX9_cost 2 (some .int) rm_X9_cost [.ref (zs Z + 284)] M False (PostI q.1 q.2) := by
  refine Ct.of (by decide +kernel) (Nat.le_of_ble_eq_true rfl) (fun X hR hq _ => ?_)
  show G Z X Y_X9_cost False 0 0 0 [(0, .ref (zs Z + 284))] [] M
  replace hq : RetOk Z X (some .int) False (PostI q.1 q.2) 0 0 := hq
  unfold f_X9_cost at hf
  refine G.aload_n 0 0 dX9_cost_0 rfl rfl ?_
  obtain ⟨q3, e4, hf⟩ := bd_e hf
  refine G.cvI 1 (As := []) ck_9 (hs.k k0_284) (c_X9_findWatched Z hs e4) mk_X9_findWatched vk_X9_findWatched rfl wd_1537 hR (by decide +kernel) ⟨rfl, rfl⟩ rfl (Nat.le_of_ble_eq_true rfl) dX9_cost_1 (fun hs1 => ?_)
  refine G.istore_n 4 [(1, .int q3.1), (0, .ref (zs Z + 284))] dX9_cost_4 rfl (Nat.le_of_ble_eq_true rfl) rfl ?_
  refine G.aload_n 5 1 dX9_cost_5 rfl rfl ?_
  refine G.geti 6 ck_9 14 (hs1.k k0_284) (by decide) (by decide +kernel) wd_1319 dX9_cost_6 ?_
  refine G.if_eq 9 23 dX9_cost_9 (by decide) (fun h5 => ?_) (fun h5 => ?_)
  · replace hf := (if_pos h5).symm.trans hf
    refine G.locs [] rfl ?_
    exact b_X9_cost_23 Z X hR hq hs1 hf
  · replace hf := (if_neg h5).symm.trans hf
    refine G.aload_n 12 1 dX9_cost_12 rfl rfl ?_
    refine G.geti 13 ck_9 14 (hs1.k k0_284) (by decide) (by decide +kernel) wd_1319 dX9_cost_13 ?_
    refine G.aload_n 16 1 dX9_cost_16 rfl rfl ?_
    refine G.geti 17 ck_9 13 (hs1.k k0_284) (by decide) (by decide +kernel) wd_1318 dX9_cost_17 ?_
    refine G.icmp_ne 20 28 dX9_cost_20 (by decide) (fun h6 => ?_) (fun h6 => ?_)
    · replace hf := (if_neg h6).symm.trans hf
      refine G.aload_n 28 1 dX9_cost_28 rfl rfl ?_
      refine G.iload_n 29 0 dX9_cost_29 rfl rfl ?_
      obtain ⟨q9, e10, hf⟩ := bd_e hf
      refine G.cvI 30 (As := [.int q3.1]) ck_9 (hs1.k k0_284) (c_X9_costOf Z hs1 q3.1 e10) mk_X9_costOf vk_X9_costOf rfl wd_1541 hR (by decide +kernel) ⟨rfl, rfl⟩ rfl (Nat.le_of_ble_eq_true rfl) dX9_cost_30 (fun hs7 => ?_)
      (have hf9 := Option.some.inj hf; subst hf9)
      exact G.rI 33 hq dX9_cost_33 hs7
    · replace hf := (if_pos h6).symm.trans hf
      refine G.locs [] rfl ?_
      exact b_X9_cost_23 Z X hR hq hs1 hf
abbrev Y_X9_count : My := (cX9_count, RX9, 4)
def rm_X9_count : Room := { frames := 3, cells := 0, slots := 0, locals := 243 }
theorem dX9_count_0 : decode cX9_count 0 = .ok (.iload_n 1, 1) := by decide +kernel
theorem dX9_count_1 : decode cX9_count 1 = .ok (.i2l, 1) := by decide +kernel
theorem dX9_count_2 : decode cX9_count 2 = .ok (.lconst 0, 1) := by decide +kernel
theorem dX9_count_3 : decode cX9_count 3 = .ok (.ldc2_w 294, 3) := by decide +kernel
theorem dX9_count_6 : decode cX9_count 6 = .ok (.invokestatic 62, 3) := by decide +kernel
theorem dX9_count_9 : decode cX9_count 9 = .ok (.ifCond .ne 5, 3) := by decide +kernel
theorem dX9_count_12 : decode cX9_count 12 = .ok (.iconst (-1), 1) := by decide +kernel
theorem dX9_count_13 : decode cX9_count 13 = .ok (.ireturn, 1) := by decide +kernel
theorem dX9_count_14 : decode cX9_count 14 = .ok (.iload_n 1, 1) := by decide +kernel
theorem dX9_count_15 : decode cX9_count 15 = .ok (.ifCond .eq 8, 3) := by decide +kernel
theorem dX9_count_18 : decode cX9_count 18 = .ok (.iload_n 1, 1) := by decide +kernel
theorem dX9_count_19 : decode cX9_count 19 = .ok (.iconst 2, 1) := by decide +kernel
theorem dX9_count_20 : decode cX9_count 20 = .ok (.if_icmp .ne 22, 3) := by decide +kernel
theorem dX9_count_23 : decode cX9_count 23 = .ok (.aload_n 0, 1) := by decide +kernel
theorem dX9_count_24 : decode cX9_count 24 = .ok (.getfield 9, 3) := by decide +kernel
theorem dX9_count_27 : decode cX9_count 27 = .ok (.iload_n 1, 1) := by decide +kernel
theorem dX9_count_28 : decode cX9_count 28 = .ok (.ifCond .ne 9, 3) := by decide +kernel
theorem dX9_count_31 : decode cX9_count 31 = .ok (.sipush 1192, 3) := by decide +kernel
theorem dX9_count_34 : decode cX9_count 34 = .ok (.goto 6, 3) := by decide +kernel
theorem dX9_count_37 : decode cX9_count 37 = .ok (.sipush 1193, 3) := by decide +kernel
theorem dX9_count_40 : decode cX9_count 40 = .ok (.iaload, 1) := by decide +kernel
theorem dX9_count_41 : decode cX9_count 41 = .ok (.ireturn, 1) := by decide +kernel
theorem dX9_count_42 : decode cX9_count 42 = .ok (.iconst 0, 1) := by decide +kernel
theorem dX9_count_43 : decode cX9_count 43 = .ok (.istore_n 2, 1) := by decide +kernel
theorem dX9_count_44 : decode cX9_count 44 = .ok (.iconst 0, 1) := by decide +kernel
theorem dX9_count_45 : decode cX9_count 45 = .ok (.istore_n 3, 1) := by decide +kernel
theorem dX9_count_46 : decode cX9_count 46 = .ok (.iload_n 3, 1) := by decide +kernel
theorem dX9_count_47 : decode cX9_count 47 = .ok (.aload_n 0, 1) := by decide +kernel
theorem dX9_count_48 : decode cX9_count 48 = .ok (.getfield 9, 3) := by decide +kernel
theorem dX9_count_51 : decode cX9_count 51 = .ok (.sipush 1192, 3) := by decide +kernel
theorem dX9_count_54 : decode cX9_count 54 = .ok (.iaload, 1) := by decide +kernel
theorem dX9_count_55 : decode cX9_count 55 = .ok (.if_icmp .ge 91, 3) := by decide +kernel
theorem dX9_count_58 : decode cX9_count 58 = .ok (.iload_n 2, 1) := by decide +kernel
theorem dX9_count_59 : decode cX9_count 59 = .ok (.iload_n 1, 1) := by decide +kernel
theorem dX9_count_60 : decode cX9_count 60 = .ok (.iconst 1, 1) := by decide +kernel
theorem dX9_count_61 : decode cX9_count 61 = .ok (.if_icmp .ne 19, 3) := by decide +kernel
theorem dX9_count_64 : decode cX9_count 64 = .ok (.aload_n 0, 1) := by decide +kernel
theorem dX9_count_65 : decode cX9_count 65 = .ok (.iload_n 3, 1) := by decide +kernel
theorem dX9_count_66 : decode cX9_count 66 = .ok (.invokevirtual 97, 3) := by decide +kernel
theorem dX9_count_69 : decode cX9_count 69 = .ok (.ifCond .eq 7, 3) := by decide +kernel
theorem dX9_count_72 : decode cX9_count 72 = .ok (.iconst 0, 1) := by decide +kernel
theorem dX9_count_73 : decode cX9_count 73 = .ok (.goto 65, 3) := by decide +kernel
theorem dX9_count_76 : decode cX9_count 76 = .ok (.iconst 1, 1) := by decide +kernel
theorem dX9_count_77 : decode cX9_count 77 = .ok (.goto 61, 3) := by decide +kernel
theorem dX9_count_80 : decode cX9_count 80 = .ok (.iload_n 1, 1) := by decide +kernel
theorem dX9_count_81 : decode cX9_count 81 = .ok (.iconst 3, 1) := by decide +kernel
theorem dX9_count_82 : decode cX9_count 82 = .ok (.if_icmp .ne 12, 3) := by decide +kernel
theorem dX9_count_85 : decode cX9_count 85 = .ok (.aload_n 0, 1) := by decide +kernel
theorem dX9_count_86 : decode cX9_count 86 = .ok (.iload_n 3, 1) := by decide +kernel
theorem dX9_count_87 : decode cX9_count 87 = .ok (.iconst 0, 1) := by decide +kernel
theorem dX9_count_88 : decode cX9_count 88 = .ok (.invokevirtual 76, 3) := by decide +kernel
theorem dX9_count_91 : decode cX9_count 91 = .ok (.goto 47, 3) := by decide +kernel
theorem dX9_count_94 : decode cX9_count 94 = .ok (.iload_n 1, 1) := by decide +kernel
theorem dX9_count_95 : decode cX9_count 95 = .ok (.iconst 4, 1) := by decide +kernel
theorem dX9_count_96 : decode cX9_count 96 = .ok (.if_icmp .ne 13, 3) := by decide +kernel
theorem dX9_count_99 : decode cX9_count 99 = .ok (.aload_n 0, 1) := by decide +kernel
theorem dX9_count_100 : decode cX9_count 100 = .ok (.iload_n 3, 1) := by decide +kernel
theorem dX9_count_101 : decode cX9_count 101 = .ok (.bipush 11, 2) := by decide +kernel
theorem dX9_count_103 : decode cX9_count 103 = .ok (.invokevirtual 76, 3) := by decide +kernel
theorem dX9_count_106 : decode cX9_count 106 = .ok (.goto 32, 3) := by decide +kernel
theorem dX9_count_109 : decode cX9_count 109 = .ok (.aload_n 0, 1) := by decide +kernel
theorem dX9_count_110 : decode cX9_count 110 = .ok (.iload_n 3, 1) := by decide +kernel
theorem dX9_count_111 : decode cX9_count 111 = .ok (.invokevirtual 97, 3) := by decide +kernel
theorem dX9_count_114 : decode cX9_count 114 = .ok (.ifCond .eq 23, 3) := by decide +kernel
theorem dX9_count_117 : decode cX9_count 117 = .ok (.aload_n 0, 1) := by decide +kernel
theorem dX9_count_118 : decode cX9_count 118 = .ok (.iload_n 3, 1) := by decide +kernel
theorem dX9_count_119 : decode cX9_count 119 = .ok (.iload_n 1, 1) := by decide +kernel
theorem dX9_count_120 : decode cX9_count 120 = .ok (.iconst 5, 1) := by decide +kernel
theorem dX9_count_121 : decode cX9_count 121 = .ok (.if_icmp .ne 8, 3) := by decide +kernel
theorem dX9_count_124 : decode cX9_count 124 = .ok (.bipush 9, 2) := by decide +kernel
theorem dX9_count_126 : decode cX9_count 126 = .ok (.goto 5, 3) := by decide +kernel
theorem dX9_count_129 : decode cX9_count 129 = .ok (.bipush 10, 2) := by decide +kernel
theorem dX9_count_131 : decode cX9_count 131 = .ok (.invokevirtual 76, 3) := by decide +kernel
theorem dX9_count_134 : decode cX9_count 134 = .ok (.goto 4, 3) := by decide +kernel
theorem dX9_count_137 : decode cX9_count 137 = .ok (.iconst 0, 1) := by decide +kernel
theorem dX9_count_138 : decode cX9_count 138 = .ok (.iadd, 1) := by decide +kernel
theorem dX9_count_139 : decode cX9_count 139 = .ok (.istore_n 2, 1) := by decide +kernel
theorem dX9_count_140 : decode cX9_count 140 = .ok (.iinc 3 1, 3) := by decide +kernel
theorem dX9_count_143 : decode cX9_count 143 = .ok (.goto (-97), 3) := by decide +kernel
theorem dX9_count_146 : decode cX9_count 146 = .ok (.iload_n 2, 1) := by decide +kernel
theorem dX9_count_147 : decode cX9_count 147 = .ok (.ireturn, 1) := by decide +kernel
def B_X9_count_23 (x1 : Int32) (M : Mem) : Option Int32 := if x1 = 0 then some (mI M 285 1192) else some (mI M 285 1193)
def L_X9_count_46 : Nat → Int32 → Int32 → Int32 → Mem → Option Int32
  | 0, _, _, _, _ => none
  | n + 1, x1, x2, x3, M => if (mI M 285 1192) ≤ x3 then some x2 else if x1 = (1 : Int32) then (f_X9_has x3 M).bind fun q35 => if q35 = 0 then L_X9_count_46 n x1 (x2 + (1 : Int32)) (x3 + 1) M else L_X9_count_46 n x1 (x2 + (0 : Int32)) (x3 + 1) M else if x1 = (3 : Int32) then (f_X9_get x3 (0 : Int32) M).bind fun q31 => L_X9_count_46 n x1 (x2 + q31) (x3 + 1) M else if x1 = (4 : Int32) then (f_X9_get x3 (11 : Int32) M).bind fun q27 => L_X9_count_46 n x1 (x2 + q27) (x3 + 1) M else (f_X9_has x3 M).bind fun q13 => if q13 = 0 then L_X9_count_46 n x1 (x2 + (0 : Int32)) (x3 + 1) M else if x1 = (5 : Int32) then (f_X9_get x3 (9 : Int32) M).bind fun q23 => L_X9_count_46 n x1 (x2 + q23) (x3 + 1) M else (f_X9_get x3 (10 : Int32) M).bind fun q19 => L_X9_count_46 n x1 (x2 + q19) (x3 + 1) M
def f_X9_count (x1 : Int32) (M : Mem) : Option Int32 := if (f_X9_isIn x1.toInt64 (0 : Int64) (6 : Int64)) = 0 then some (-1 : Int32) else if x1 = 0 then B_X9_count_23 x1 M else if x1 = (2 : Int32) then B_X9_count_23 x1 M else L_X9_count_46 FU x1 (0 : Int32) (0 : Int32) M
set_option maxRecDepth 100000 in
set_option maxHeartbeats 4000000 in
theorem b_X9_count_23 (Z : Sys) (X : Cx) (hR : xR X = rm_X9_count) {q : Int32} {M : Mem} (hq : RetOk Z X (some .int) False (PostI q M) 0 0) (x1 : Int32) (hs : St M) (hf : B_X9_count_23 x1 M = some q) : G Z X Y_X9_count False 0 0 23 [(0, .ref (zs Z + 284)), (1, .int x1)] [] M := by
  unfold B_X9_count_23 at hf
  refine G.aload_n 23 0 dX9_count_23 rfl rfl ?_
  refine G.getp 24 ck_9 0 285 (hs.k k0_284) (pc_9_0 hs) (by decide) (by decide +kernel) wd_1305 dX9_count_24 ?_
  refine G.iload_n 27 1 dX9_count_27 rfl rfl ?_
  refine G.if_ne 28 37 dX9_count_28 (by decide) (fun h5 => ?_) (fun h5 => ?_)
  · replace hf := (if_neg h5).symm.trans hf
    refine G.sipush 37 (1193 : Int32) dX9_count_37 (by decide +kernel) ?_
    refine G.ia 40 1193 (hs.k k0_285) (by decide +kernel) (by decide +kernel) dX9_count_40 ?_
    (have hf9 := Option.some.inj hf; subst hf9)
    exact G.rI 41 hq dX9_count_41 hs
  · replace hf := (if_pos h5).symm.trans hf
    refine G.sipush 31 (1192 : Int32) dX9_count_31 (by decide +kernel) ?_
    refine G.goto 34 40 dX9_count_34 (by decide) ?_
    refine G.ia 40 1192 (hs.k k0_285) (by decide +kernel) (by decide +kernel) dX9_count_40 ?_
    (have hf9 := Option.some.inj hf; subst hf9)
    exact G.rI 41 hq dX9_count_41 hs
set_option maxRecDepth 100000 in
set_option maxHeartbeats 4000000 in
theorem l_X9_count_46 (Z : Sys) (X : Cx) (hR : xR X = rm_X9_count) {q : Int32} {M : Mem} (hq : RetOk Z X (some .int) False (PostI q M) 0 0) : ∀ (n : Nat) (x1 : Int32) (x2 : Int32) (x3 : Int32) (hs : St M) (hf : L_X9_count_46 n x1 x2 x3 M = some q), G Z X Y_X9_count False 0 0 46 [(0, .ref (zs Z + 284)), (1, .int x1), (2, .int x2), (3, .int x3)] [] M := by
  intro n
  induction n with
  | zero => intro x1 x2 x3 hs  hf; cases hf
  | succ n ih =>
    intro x1 x2 x3 hs  hf
    unfold L_X9_count_46 at hf
    refine G.iload_n 46 3 dX9_count_46 rfl rfl ?_
    refine G.aload_n 47 0 dX9_count_47 rfl rfl ?_
    refine G.getp 48 ck_9 0 285 (hs.k k0_284) (pc_9_0 hs) (by decide) (by decide +kernel) wd_1305 dX9_count_48 ?_
    refine G.sipush 51 (1192 : Int32) dX9_count_51 (by decide +kernel) ?_
    refine G.ia 54 1192 (hs.k k0_285) (by decide +kernel) (by decide +kernel) dX9_count_54 ?_
    refine G.icmp_ge 55 146 dX9_count_55 (by decide) (fun h7 => ?_) (fun h7 => ?_)
    · replace hf := (if_pos h7).symm.trans hf
      refine G.iload_n 146 2 dX9_count_146 rfl rfl ?_
      (have hf9 := Option.some.inj hf; subst hf9)
      exact G.rI 147 hq dX9_count_147 hs
    · replace hf := (if_neg h7).symm.trans hf
      refine G.iload_n 58 2 dX9_count_58 rfl rfl ?_
      refine G.iload_n 59 1 dX9_count_59 rfl rfl ?_
      refine G.iconst 60 (1 : Int32) dX9_count_60 (by decide +kernel) ?_
      refine G.icmp_ne 61 80 dX9_count_61 (by decide) (fun h8 => ?_) (fun h8 => ?_)
      · replace hf := (if_neg h8).symm.trans hf
        refine G.iload_n 80 1 dX9_count_80 rfl rfl ?_
        refine G.iconst 81 (3 : Int32) dX9_count_81 (by decide +kernel) ?_
        refine G.icmp_ne 82 94 dX9_count_82 (by decide) (fun h9 => ?_) (fun h9 => ?_)
        · replace hf := (if_neg h9).symm.trans hf
          refine G.iload_n 94 1 dX9_count_94 rfl rfl ?_
          refine G.iconst 95 (4 : Int32) dX9_count_95 (by decide +kernel) ?_
          refine G.icmp_ne 96 109 dX9_count_96 (by decide) (fun h10 => ?_) (fun h10 => ?_)
          · replace hf := (if_neg h10).symm.trans hf
            refine G.aload_n 109 0 dX9_count_109 rfl rfl ?_
            refine G.iload_n 110 3 dX9_count_110 rfl rfl ?_
            obtain ⟨q13, e14, hf⟩ := bd_e hf
            refine G.cvZ 111 (As := [.int x3]) ck_9 (hs.k k0_284) (c_X9_has Z hs x3 e14) mk_X9_has vk_X9_has rfl wd_1445 hR (by decide +kernel) ⟨rfl, rfl⟩ rfl (Nat.le_of_ble_eq_true rfl) dX9_count_111 (fun hs11 z12 => ?_)
            refine G.if_eq 114 137 dX9_count_114 (by decide) (fun h15 => ?_) (fun h15 => ?_)
            · replace hf := (if_pos h15).symm.trans hf
              refine G.iconst 137 (0 : Int32) dX9_count_137 (by decide +kernel) ?_
              refine G.iadd 138 dX9_count_138 ?_
              refine G.istore_n 139 [(2, .int (x2 + (0 : Int32))), (0, .ref (zs Z + 284)), (1, .int x1), (3, .int x3)] dX9_count_139 rfl (Nat.le_of_ble_eq_true rfl) rfl ?_
              refine G.iinc 140 3 (x3 + 1) [(3, .int (x3 + 1)), (2, .int (x2 + (0 : Int32))), (0, .ref (zs Z + 284)), (1, .int x1)] dX9_count_140 rfl (congrArg (fun z => x3 + z) (by decide +kernel)) (Nat.le_of_ble_eq_true rfl) rfl ?_
              refine G.goto 143 46 dX9_count_143 (by decide) ?_
              refine G.locs [2, 3, 1, 0] rfl ?_
              exact ih x1 (x2 + (0 : Int32)) (x3 + 1) hs11 hf
            · replace hf := (if_neg h15).symm.trans hf
              refine G.aload_n 117 0 dX9_count_117 rfl rfl ?_
              refine G.iload_n 118 3 dX9_count_118 rfl rfl ?_
              refine G.iload_n 119 1 dX9_count_119 rfl rfl ?_
              refine G.iconst 120 (5 : Int32) dX9_count_120 (by decide +kernel) ?_
              refine G.icmp_ne 121 129 dX9_count_121 (by decide) (fun h16 => ?_) (fun h16 => ?_)
              · replace hf := (if_neg h16).symm.trans hf
                refine G.bipush 129 (10 : Int32) dX9_count_129 (by decide +kernel) ?_
                obtain ⟨q19, e20, hf⟩ := bd_e hf
                refine G.cvI 131 (As := [.int x3, .int (10 : Int32)]) ck_9 (hs11.k k0_284) (c_X9_get Z hs11 x3 (10 : Int32) e20) mk_X9_get vk_X9_get rfl wd_1411 hR (by decide +kernel) ⟨rfl, rfl⟩ rfl (Nat.le_of_ble_eq_true rfl) dX9_count_131 (fun hs17 => ?_)
                refine G.goto 134 138 dX9_count_134 (by decide) ?_
                refine G.iadd 138 dX9_count_138 ?_
                refine G.istore_n 139 [(2, .int (x2 + q19)), (0, .ref (zs Z + 284)), (1, .int x1), (3, .int x3)] dX9_count_139 rfl (Nat.le_of_ble_eq_true rfl) rfl ?_
                refine G.iinc 140 3 (x3 + 1) [(3, .int (x3 + 1)), (2, .int (x2 + q19)), (0, .ref (zs Z + 284)), (1, .int x1)] dX9_count_140 rfl (congrArg (fun z => x3 + z) (by decide +kernel)) (Nat.le_of_ble_eq_true rfl) rfl ?_
                refine G.goto 143 46 dX9_count_143 (by decide) ?_
                refine G.locs [2, 3, 1, 0] rfl ?_
                exact ih x1 (x2 + q19) (x3 + 1) hs17 hf
              · replace hf := (if_pos h16).symm.trans hf
                refine G.bipush 124 (9 : Int32) dX9_count_124 (by decide +kernel) ?_
                refine G.goto 126 131 dX9_count_126 (by decide) ?_
                obtain ⟨q23, e24, hf⟩ := bd_e hf
                refine G.cvI 131 (As := [.int x3, .int (9 : Int32)]) ck_9 (hs11.k k0_284) (c_X9_get Z hs11 x3 (9 : Int32) e24) mk_X9_get vk_X9_get rfl wd_1411 hR (by decide +kernel) ⟨rfl, rfl⟩ rfl (Nat.le_of_ble_eq_true rfl) dX9_count_131 (fun hs21 => ?_)
                refine G.goto 134 138 dX9_count_134 (by decide) ?_
                refine G.iadd 138 dX9_count_138 ?_
                refine G.istore_n 139 [(2, .int (x2 + q23)), (0, .ref (zs Z + 284)), (1, .int x1), (3, .int x3)] dX9_count_139 rfl (Nat.le_of_ble_eq_true rfl) rfl ?_
                refine G.iinc 140 3 (x3 + 1) [(3, .int (x3 + 1)), (2, .int (x2 + q23)), (0, .ref (zs Z + 284)), (1, .int x1)] dX9_count_140 rfl (congrArg (fun z => x3 + z) (by decide +kernel)) (Nat.le_of_ble_eq_true rfl) rfl ?_
                refine G.goto 143 46 dX9_count_143 (by decide) ?_
                refine G.locs [2, 3, 1, 0] rfl ?_
                exact ih x1 (x2 + q23) (x3 + 1) hs21 hf
          · replace hf := (if_pos h10).symm.trans hf
            refine G.aload_n 99 0 dX9_count_99 rfl rfl ?_
            refine G.iload_n 100 3 dX9_count_100 rfl rfl ?_
            refine G.bipush 101 (11 : Int32) dX9_count_101 (by decide +kernel) ?_
            obtain ⟨q27, e28, hf⟩ := bd_e hf
            refine G.cvI 103 (As := [.int x3, .int (11 : Int32)]) ck_9 (hs.k k0_284) (c_X9_get Z hs x3 (11 : Int32) e28) mk_X9_get vk_X9_get rfl wd_1411 hR (by decide +kernel) ⟨rfl, rfl⟩ rfl (Nat.le_of_ble_eq_true rfl) dX9_count_103 (fun hs25 => ?_)
            refine G.goto 106 138 dX9_count_106 (by decide) ?_
            refine G.iadd 138 dX9_count_138 ?_
            refine G.istore_n 139 [(2, .int (x2 + q27)), (0, .ref (zs Z + 284)), (1, .int x1), (3, .int x3)] dX9_count_139 rfl (Nat.le_of_ble_eq_true rfl) rfl ?_
            refine G.iinc 140 3 (x3 + 1) [(3, .int (x3 + 1)), (2, .int (x2 + q27)), (0, .ref (zs Z + 284)), (1, .int x1)] dX9_count_140 rfl (congrArg (fun z => x3 + z) (by decide +kernel)) (Nat.le_of_ble_eq_true rfl) rfl ?_
            refine G.goto 143 46 dX9_count_143 (by decide) ?_
            refine G.locs [2, 3, 1, 0] rfl ?_
            exact ih x1 (x2 + q27) (x3 + 1) hs25 hf
        · replace hf := (if_pos h9).symm.trans hf
          refine G.aload_n 85 0 dX9_count_85 rfl rfl ?_
          refine G.iload_n 86 3 dX9_count_86 rfl rfl ?_
          refine G.iconst 87 (0 : Int32) dX9_count_87 (by decide +kernel) ?_
          obtain ⟨q31, e32, hf⟩ := bd_e hf
          refine G.cvI 88 (As := [.int x3, .int (0 : Int32)]) ck_9 (hs.k k0_284) (c_X9_get Z hs x3 (0 : Int32) e32) mk_X9_get vk_X9_get rfl wd_1411 hR (by decide +kernel) ⟨rfl, rfl⟩ rfl (Nat.le_of_ble_eq_true rfl) dX9_count_88 (fun hs29 => ?_)
          refine G.goto 91 138 dX9_count_91 (by decide) ?_
          refine G.iadd 138 dX9_count_138 ?_
          refine G.istore_n 139 [(2, .int (x2 + q31)), (0, .ref (zs Z + 284)), (1, .int x1), (3, .int x3)] dX9_count_139 rfl (Nat.le_of_ble_eq_true rfl) rfl ?_
          refine G.iinc 140 3 (x3 + 1) [(3, .int (x3 + 1)), (2, .int (x2 + q31)), (0, .ref (zs Z + 284)), (1, .int x1)] dX9_count_140 rfl (congrArg (fun z => x3 + z) (by decide +kernel)) (Nat.le_of_ble_eq_true rfl) rfl ?_
          refine G.goto 143 46 dX9_count_143 (by decide) ?_
          refine G.locs [2, 3, 1, 0] rfl ?_
          exact ih x1 (x2 + q31) (x3 + 1) hs29 hf
      · replace hf := (if_pos h8).symm.trans hf
        refine G.aload_n 64 0 dX9_count_64 rfl rfl ?_
        refine G.iload_n 65 3 dX9_count_65 rfl rfl ?_
        obtain ⟨q35, e36, hf⟩ := bd_e hf
        refine G.cvZ 66 (As := [.int x3]) ck_9 (hs.k k0_284) (c_X9_has Z hs x3 e36) mk_X9_has vk_X9_has rfl wd_1445 hR (by decide +kernel) ⟨rfl, rfl⟩ rfl (Nat.le_of_ble_eq_true rfl) dX9_count_66 (fun hs33 z34 => ?_)
        refine G.if_eq 69 76 dX9_count_69 (by decide) (fun h37 => ?_) (fun h37 => ?_)
        · replace hf := (if_pos h37).symm.trans hf
          refine G.iconst 76 (1 : Int32) dX9_count_76 (by decide +kernel) ?_
          refine G.goto 77 138 dX9_count_77 (by decide) ?_
          refine G.iadd 138 dX9_count_138 ?_
          refine G.istore_n 139 [(2, .int (x2 + (1 : Int32))), (0, .ref (zs Z + 284)), (1, .int x1), (3, .int x3)] dX9_count_139 rfl (Nat.le_of_ble_eq_true rfl) rfl ?_
          refine G.iinc 140 3 (x3 + 1) [(3, .int (x3 + 1)), (2, .int (x2 + (1 : Int32))), (0, .ref (zs Z + 284)), (1, .int x1)] dX9_count_140 rfl (congrArg (fun z => x3 + z) (by decide +kernel)) (Nat.le_of_ble_eq_true rfl) rfl ?_
          refine G.goto 143 46 dX9_count_143 (by decide) ?_
          refine G.locs [2, 3, 1, 0] rfl ?_
          exact ih x1 (x2 + (1 : Int32)) (x3 + 1) hs33 hf
        · replace hf := (if_neg h37).symm.trans hf
          refine G.iconst 72 (0 : Int32) dX9_count_72 (by decide +kernel) ?_
          refine G.goto 73 138 dX9_count_73 (by decide) ?_
          refine G.iadd 138 dX9_count_138 ?_
          refine G.istore_n 139 [(2, .int (x2 + (0 : Int32))), (0, .ref (zs Z + 284)), (1, .int x1), (3, .int x3)] dX9_count_139 rfl (Nat.le_of_ble_eq_true rfl) rfl ?_
          refine G.iinc 140 3 (x3 + 1) [(3, .int (x3 + 1)), (2, .int (x2 + (0 : Int32))), (0, .ref (zs Z + 284)), (1, .int x1)] dX9_count_140 rfl (congrArg (fun z => x3 + z) (by decide +kernel)) (Nat.le_of_ble_eq_true rfl) rfl ?_
          refine G.goto 143 46 dX9_count_143 (by decide) ?_
          refine G.locs [2, 3, 1, 0] rfl ?_
          exact ih x1 (x2 + (0 : Int32)) (x3 + 1) hs33 hf
set_option maxRecDepth 100000 in
set_option maxHeartbeats 4000000 in
theorem c_X9_count (Z : Sys) {M : Mem} (hs : St M) (x1 : Int32) {q : Int32} (hf : f_X9_count x1 M = some q) : Ct Z yX9_count cX9_count 4 (some .int) rm_X9_count [.ref (zs Z + 284), .int x1] M False (PostI q M) := by
  refine Ct.of (by decide +kernel) (Nat.le_of_ble_eq_true rfl) (fun X hR hq _ => ?_)
  show G Z X Y_X9_count False 0 0 0 [(0, .ref (zs Z + 284)), (1, .int x1)] [] M
  replace hq : RetOk Z X (some .int) False (PostI q M) 0 0 := hq
  unfold f_X9_count at hf
  refine G.iload_n 0 1 dX9_count_0 rfl rfl ?_
  refine G.i2l 1 dX9_count_1 ?_
  refine G.lconst 2 (0 : Int64) dX9_count_2 (by decide +kernel) ?_
  refine G.ldc2 3 (6 : Int64) wd_1746 dX9_count_3 ?_
  refine G.csZ 6 (As := [.long x1.toInt64, .long (0 : Int64), .long (6 : Int64)]) (c_X9_isIn Z hs x1.toInt64 (0 : Int64) (6 : Int64) rfl) mk_X9_isIn wd_1400 wd_1399 hR (by decide +kernel) ⟨rfl, rfl⟩ rfl (Nat.le_of_ble_eq_true rfl) dX9_count_6 (fun hs1 z2 => ?_)
  refine G.if_ne 9 14 dX9_count_9 (by decide) (fun h3 => ?_) (fun h3 => ?_)
  · replace hf := (if_neg h3).symm.trans hf
    refine G.iload_n 14 1 dX9_count_14 rfl rfl ?_
    refine G.if_eq 15 23 dX9_count_15 (by decide) (fun h4 => ?_) (fun h4 => ?_)
    · replace hf := (if_pos h4).symm.trans hf
      exact b_X9_count_23 Z X hR hq x1 hs1 hf
    · replace hf := (if_neg h4).symm.trans hf
      refine G.iload_n 18 1 dX9_count_18 rfl rfl ?_
      refine G.iconst 19 (2 : Int32) dX9_count_19 (by decide +kernel) ?_
      refine G.icmp_ne 20 42 dX9_count_20 (by decide) (fun h6 => ?_) (fun h6 => ?_)
      · replace hf := (if_neg h6).symm.trans hf
        refine G.iconst 42 (0 : Int32) dX9_count_42 (by decide +kernel) ?_
        refine G.istore_n 43 [(2, .int (0 : Int32)), (0, .ref (zs Z + 284)), (1, .int x1)] dX9_count_43 rfl (Nat.le_of_ble_eq_true rfl) rfl ?_
        refine G.iconst 44 (0 : Int32) dX9_count_44 (by decide +kernel) ?_
        refine G.istore_n 45 [(3, .int (0 : Int32)), (2, .int (0 : Int32)), (0, .ref (zs Z + 284)), (1, .int x1)] dX9_count_45 rfl (Nat.le_of_ble_eq_true rfl) rfl ?_
        refine G.locs [2, 3, 1, 0] rfl ?_
        exact l_X9_count_46 Z X hR hq FU x1 (0 : Int32) (0 : Int32) hs1 hf
      · replace hf := (if_pos h6).symm.trans hf
        exact b_X9_count_23 Z X hR hq x1 hs1 hf
  · replace hf := (if_pos h3).symm.trans hf
    refine G.iconst 12 (-1 : Int32) dX9_count_12 (by decide +kernel) ?_
    (have hf9 := Option.some.inj hf; subst hf9)
    exact G.rI 13 hq dX9_count_13 hs1
abbrev Y_X9_hasFigure : My := (cX9_hasFigure, RX9, 3)
def rm_X9_hasFigure : Room := { frames := 3, cells := 0, slots := 0, locals := 243 }
theorem dX9_hasFigure_0 : decode cX9_hasFigure 0 = .ok (.aload_n 0, 1) := by decide +kernel
theorem dX9_hasFigure_1 : decode cX9_hasFigure 1 = .ok (.iload_n 1, 1) := by decide +kernel
theorem dX9_hasFigure_2 : decode cX9_hasFigure 2 = .ok (.invokevirtual 97, 3) := by decide +kernel
theorem dX9_hasFigure_5 : decode cX9_hasFigure 5 = .ok (.ifCond .eq 27, 3) := by decide +kernel
theorem dX9_hasFigure_8 : decode cX9_hasFigure 8 = .ok (.aload_n 0, 1) := by decide +kernel
theorem dX9_hasFigure_9 : decode cX9_hasFigure 9 = .ok (.iload_n 1, 1) := by decide +kernel
theorem dX9_hasFigure_10 : decode cX9_hasFigure 10 = .ok (.bipush 10, 2) := by decide +kernel
theorem dX9_hasFigure_12 : decode cX9_hasFigure 12 = .ok (.invokevirtual 76, 3) := by decide +kernel
theorem dX9_hasFigure_15 : decode cX9_hasFigure 15 = .ok (.iload_n 2, 1) := by decide +kernel
theorem dX9_hasFigure_16 : decode cX9_hasFigure 16 = .ok (.ifCond .ne 8, 3) := by decide +kernel
theorem dX9_hasFigure_19 : decode cX9_hasFigure 19 = .ok (.bipush 100, 2) := by decide +kernel
theorem dX9_hasFigure_21 : decode cX9_hasFigure 21 = .ok (.goto 4, 3) := by decide +kernel
theorem dX9_hasFigure_24 : decode cX9_hasFigure 24 = .ok (.iconst 1, 1) := by decide +kernel
theorem dX9_hasFigure_25 : decode cX9_hasFigure 25 = .ok (.if_icmp .lt 7, 3) := by decide +kernel
theorem dX9_hasFigure_28 : decode cX9_hasFigure 28 = .ok (.iconst 1, 1) := by decide +kernel
theorem dX9_hasFigure_29 : decode cX9_hasFigure 29 = .ok (.goto 4, 3) := by decide +kernel
theorem dX9_hasFigure_32 : decode cX9_hasFigure 32 = .ok (.iconst 0, 1) := by decide +kernel
theorem dX9_hasFigure_33 : decode cX9_hasFigure 33 = .ok (.ireturn, 1) := by decide +kernel
def f_X9_hasFigure (x1 : Int32) (x2 : Int32) (M : Mem) : Option Int32 := (f_X9_has x1 M).bind fun q3 => if q3 = 0 then some (0 : Int32) else (f_X9_get x1 (10 : Int32) M).bind fun q8 => if x2 = 0 then if q8 < (100 : Int32) then some (0 : Int32) else some (1 : Int32) else if q8 < (1 : Int32) then some (0 : Int32) else some (1 : Int32)
set_option maxRecDepth 100000 in
set_option maxHeartbeats 4000000 in
theorem c_X9_hasFigure (Z : Sys) {M : Mem} (hs : St M) (x1 : Int32) (x2 : Int32) {q : Int32} (hf : f_X9_hasFigure x1 x2 M = some q) : Ct Z yX9_hasFigure cX9_hasFigure 3 (some .boolean) rm_X9_hasFigure [.ref (zs Z + 284), .int x1, .int x2] M False (PostZ q M) := by
  refine Ct.of (by decide +kernel) (Nat.le_of_ble_eq_true rfl) (fun X hR hq _ => ?_)
  show G Z X Y_X9_hasFigure False 0 0 0 [(0, .ref (zs Z + 284)), (1, .int x1), (2, .int x2)] [] M
  replace hq : RetOk Z X (some .boolean) False (PostZ q M) 0 0 := hq
  unfold f_X9_hasFigure at hf
  refine G.aload_n 0 0 dX9_hasFigure_0 rfl rfl ?_
  refine G.iload_n 1 1 dX9_hasFigure_1 rfl rfl ?_
  obtain ⟨q3, e4, hf⟩ := bd_e hf
  refine G.cvZ 2 (As := [.int x1]) ck_9 (hs.k k0_284) (c_X9_has Z hs x1 e4) mk_X9_has vk_X9_has rfl wd_1445 hR (by decide +kernel) ⟨rfl, rfl⟩ rfl (Nat.le_of_ble_eq_true rfl) dX9_hasFigure_2 (fun hs1 z2 => ?_)
  refine G.if_eq 5 32 dX9_hasFigure_5 (by decide) (fun h5 => ?_) (fun h5 => ?_)
  · replace hf := (if_pos h5).symm.trans hf
    refine G.iconst 32 (0 : Int32) dX9_hasFigure_32 (by decide +kernel) ?_
    (have hf9 := Option.some.inj hf; subst hf9)
    exact G.rZ 33 hq dX9_hasFigure_33 hs1 (Or.inl rfl)
  · replace hf := (if_neg h5).symm.trans hf
    refine G.aload_n 8 0 dX9_hasFigure_8 rfl rfl ?_
    refine G.iload_n 9 1 dX9_hasFigure_9 rfl rfl ?_
    refine G.bipush 10 (10 : Int32) dX9_hasFigure_10 (by decide +kernel) ?_
    obtain ⟨q8, e9, hf⟩ := bd_e hf
    refine G.cvI 12 (As := [.int x1, .int (10 : Int32)]) ck_9 (hs1.k k0_284) (c_X9_get Z hs1 x1 (10 : Int32) e9) mk_X9_get vk_X9_get rfl wd_1411 hR (by decide +kernel) ⟨rfl, rfl⟩ rfl (Nat.le_of_ble_eq_true rfl) dX9_hasFigure_12 (fun hs6 => ?_)
    refine G.iload_n 15 2 dX9_hasFigure_15 rfl rfl ?_
    refine G.if_ne 16 24 dX9_hasFigure_16 (by decide) (fun h10 => ?_) (fun h10 => ?_)
    · replace hf := (if_neg h10).symm.trans hf
      refine G.iconst 24 (1 : Int32) dX9_hasFigure_24 (by decide +kernel) ?_
      refine G.icmp_lt 25 32 dX9_hasFigure_25 (by decide) (fun h11 => ?_) (fun h11 => ?_)
      · replace hf := (if_pos h11).symm.trans hf
        refine G.iconst 32 (0 : Int32) dX9_hasFigure_32 (by decide +kernel) ?_
        (have hf9 := Option.some.inj hf; subst hf9)
        exact G.rZ 33 hq dX9_hasFigure_33 hs6 (Or.inl rfl)
      · replace hf := (if_neg h11).symm.trans hf
        refine G.iconst 28 (1 : Int32) dX9_hasFigure_28 (by decide +kernel) ?_
        refine G.goto 29 33 dX9_hasFigure_29 (by decide) ?_
        (have hf9 := Option.some.inj hf; subst hf9)
        exact G.rZ 33 hq dX9_hasFigure_33 hs6 (Or.inr rfl)
    · replace hf := (if_pos h10).symm.trans hf
      refine G.bipush 19 (100 : Int32) dX9_hasFigure_19 (by decide +kernel) ?_
      refine G.goto 21 25 dX9_hasFigure_21 (by decide) ?_
      refine G.icmp_lt 25 32 dX9_hasFigure_25 (by decide) (fun h12 => ?_) (fun h12 => ?_)
      · replace hf := (if_pos h12).symm.trans hf
        refine G.iconst 32 (0 : Int32) dX9_hasFigure_32 (by decide +kernel) ?_
        (have hf9 := Option.some.inj hf; subst hf9)
        exact G.rZ 33 hq dX9_hasFigure_33 hs6 (Or.inl rfl)
      · replace hf := (if_neg h12).symm.trans hf
        refine G.iconst 28 (1 : Int32) dX9_hasFigure_28 (by decide +kernel) ?_
        refine G.goto 29 33 dX9_hasFigure_29 (by decide) ?_
        (have hf9 := Option.some.inj hf; subst hf9)
        exact G.rZ 33 hq dX9_hasFigure_33 hs6 (Or.inr rfl)
abbrev Y_X9_figureOf : My := (cX9_figureOf, RX9, 3)
def rm_X9_figureOf : Room := { frames := 1, cells := 0, slots := 0, locals := 200 }
theorem dX9_figureOf_0 : decode cX9_figureOf 0 = .ok (.iload_n 0, 1) := by decide +kernel
theorem dX9_figureOf_1 : decode cX9_figureOf 1 = .ok (.istore_n 2, 1) := by decide +kernel
theorem dX9_figureOf_2 : decode cX9_figureOf 2 = .ok (.iload_n 1, 1) := by decide +kernel
theorem dX9_figureOf_3 : decode cX9_figureOf 3 = .ok (.iconst 1, 1) := by decide +kernel
theorem dX9_figureOf_4 : decode cX9_figureOf 4 = .ok (.if_icmp .ne 17, 3) := by decide +kernel
theorem dX9_figureOf_7 : decode cX9_figureOf 7 = .ok (.iload_n 2, 1) := by decide +kernel
theorem dX9_figureOf_8 : decode cX9_figureOf 8 = .ok (.bipush 9, 2) := by decide +kernel
theorem dX9_figureOf_10 : decode cX9_figureOf 10 = .ok (.if_icmp .le 11, 3) := by decide +kernel
theorem dX9_figureOf_13 : decode cX9_figureOf 13 = .ok (.iload_n 2, 1) := by decide +kernel
theorem dX9_figureOf_14 : decode cX9_figureOf 14 = .ok (.bipush 10, 2) := by decide +kernel
theorem dX9_figureOf_16 : decode cX9_figureOf 16 = .ok (.idiv, 1) := by decide +kernel
theorem dX9_figureOf_17 : decode cX9_figureOf 17 = .ok (.istore_n 2, 1) := by decide +kernel
theorem dX9_figureOf_18 : decode cX9_figureOf 18 = .ok (.goto (-16), 3) := by decide +kernel
theorem dX9_figureOf_21 : decode cX9_figureOf 21 = .ok (.iload_n 2, 1) := by decide +kernel
theorem dX9_figureOf_22 : decode cX9_figureOf 22 = .ok (.bipush 10, 2) := by decide +kernel
theorem dX9_figureOf_24 : decode cX9_figureOf 24 = .ok (.irem, 1) := by decide +kernel
theorem dX9_figureOf_25 : decode cX9_figureOf 25 = .ok (.ireturn, 1) := by decide +kernel
def L_X9_figureOf_2 : Nat → Int32 → Int32 → Option Int32
  | 0, _, _ => none
  | n + 1, x1, x2 => if x1 = (1 : Int32) then if x2 ≤ (9 : Int32) then some (jrem x2 (10 : Int32)) else L_X9_figureOf_2 n x1 (x2 / (10 : Int32)) else some (jrem x2 (10 : Int32))
def f_X9_figureOf (x0 : Int32) (x1 : Int32) : Option Int32 := L_X9_figureOf_2 FU x1 x0
set_option maxRecDepth 100000 in
set_option maxHeartbeats 4000000 in
theorem l_X9_figureOf_2 (Z : Sys) (X : Cx) (hR : xR X = rm_X9_figureOf) {q : Int32} {M : Mem} (hq : RetOk Z X (some .int) False (PostI q M) 0 0) : ∀ (n : Nat) (x1 : Int32) (x2 : Int32) (hs : St M) (hf : L_X9_figureOf_2 n x1 x2 = some q), G Z X Y_X9_figureOf False 0 0 2 [(1, .int x1), (2, .int x2)] [] M := by
  intro n
  induction n with
  | zero => intro x1 x2 hs  hf; cases hf
  | succ n ih =>
    intro x1 x2 hs  hf
    unfold L_X9_figureOf_2 at hf
    refine G.iload_n 2 0 dX9_figureOf_2 rfl rfl ?_
    refine G.iconst 3 (1 : Int32) dX9_figureOf_3 (by decide +kernel) ?_
    refine G.icmp_ne 4 21 dX9_figureOf_4 (by decide) (fun h1 => ?_) (fun h1 => ?_)
    · replace hf := (if_neg h1).symm.trans hf
      refine G.iload_n 21 1 dX9_figureOf_21 rfl rfl ?_
      refine G.bipush 22 (10 : Int32) dX9_figureOf_22 (by decide +kernel) ?_
      refine G.iremJ 24 dX9_figureOf_24 (by decide +kernel) ?_
      (have hf9 := Option.some.inj hf; subst hf9)
      exact G.rI 25 hq dX9_figureOf_25 hs
    · replace hf := (if_pos h1).symm.trans hf
      refine G.iload_n 7 1 dX9_figureOf_7 rfl rfl ?_
      refine G.bipush 8 (9 : Int32) dX9_figureOf_8 (by decide +kernel) ?_
      refine G.icmp_le 10 21 dX9_figureOf_10 (by decide) (fun h2 => ?_) (fun h2 => ?_)
      · replace hf := (if_pos h2).symm.trans hf
        refine G.iload_n 21 1 dX9_figureOf_21 rfl rfl ?_
        refine G.bipush 22 (10 : Int32) dX9_figureOf_22 (by decide +kernel) ?_
        refine G.iremJ 24 dX9_figureOf_24 (by decide +kernel) ?_
        (have hf9 := Option.some.inj hf; subst hf9)
        exact G.rI 25 hq dX9_figureOf_25 hs
      · replace hf := (if_neg h2).symm.trans hf
        refine G.iload_n 13 1 dX9_figureOf_13 rfl rfl ?_
        refine G.bipush 14 (10 : Int32) dX9_figureOf_14 (by decide +kernel) ?_
        refine G.idiv 16 dX9_figureOf_16 (by decide +kernel) ?_
        refine G.istore_n 17 [(2, .int (x2 / (10 : Int32))), (1, .int x1)] dX9_figureOf_17 rfl (Nat.le_of_ble_eq_true rfl) rfl ?_
        refine G.goto 18 2 dX9_figureOf_18 (by decide) ?_
        refine G.locs [1, 0] rfl ?_
        exact ih x1 (x2 / (10 : Int32)) hs hf
set_option maxRecDepth 100000 in
set_option maxHeartbeats 4000000 in
theorem c_X9_figureOf (Z : Sys) {M : Mem} (hs : St M) (x0 : Int32) (x1 : Int32) {q : Int32} (hf : f_X9_figureOf x0 x1 = some q) : Ct Z yX9_figureOf cX9_figureOf 3 (some .int) rm_X9_figureOf [.int x0, .int x1] M False (PostI q M) := by
  refine Ct.of (by decide +kernel) (Nat.le_of_ble_eq_true rfl) (fun X hR hq _ => ?_)
  show G Z X Y_X9_figureOf False 0 0 0 [(0, .int x0), (1, .int x1)] [] M
  replace hq : RetOk Z X (some .int) False (PostI q M) 0 0 := hq
  unfold f_X9_figureOf at hf
  refine G.iload_n 0 0 dX9_figureOf_0 rfl rfl ?_
  refine G.istore_n 1 [(2, .int x0), (0, .int x0), (1, .int x1)] dX9_figureOf_1 rfl (Nat.le_of_ble_eq_true rfl) rfl ?_
  refine G.locs [2, 0] rfl ?_
  exact l_X9_figureOf_2 Z X hR hq FU x1 x0 hs hf
abbrev Y_X9_counts : My := (cX9_counts, RX9, 4)
def rm_X9_counts : Room := { frames := 4, cells := 0, slots := 0, locals := 265 }
theorem dX9_counts_0 : decode cX9_counts 0 = .ok (.iconst 0, 1) := by decide +kernel
theorem dX9_counts_1 : decode cX9_counts 1 = .ok (.istore_n 3, 1) := by decide +kernel
theorem dX9_counts_2 : decode cX9_counts 2 = .ok (.iload_n 3, 1) := by decide +kernel
theorem dX9_counts_3 : decode cX9_counts 3 = .ok (.bipush 10, 2) := by decide +kernel
theorem dX9_counts_5 : decode cX9_counts 5 = .ok (.if_icmp .ge 16, 3) := by decide +kernel
theorem dX9_counts_8 : decode cX9_counts 8 = .ok (.aload_n 0, 1) := by decide +kernel
theorem dX9_counts_9 : decode cX9_counts 9 = .ok (.getfield 34, 3) := by decide +kernel
theorem dX9_counts_12 : decode cX9_counts 12 = .ok (.iload_n 3, 1) := by decide +kernel
theorem dX9_counts_13 : decode cX9_counts 13 = .ok (.iconst 0, 1) := by decide +kernel
theorem dX9_counts_14 : decode cX9_counts 14 = .ok (.iastore, 1) := by decide +kernel
theorem dX9_counts_15 : decode cX9_counts 15 = .ok (.iinc 3 1, 3) := by decide +kernel
theorem dX9_counts_18 : decode cX9_counts 18 = .ok (.goto (-16), 3) := by decide +kernel
theorem dX9_counts_21 : decode cX9_counts 21 = .ok (.aload_n 0, 1) := by decide +kernel
theorem dX9_counts_22 : decode cX9_counts 22 = .ok (.iconst 0, 1) := by decide +kernel
theorem dX9_counts_23 : decode cX9_counts 23 = .ok (.putfield 118, 3) := by decide +kernel
theorem dX9_counts_26 : decode cX9_counts 26 = .ok (.iconst 0, 1) := by decide +kernel
theorem dX9_counts_27 : decode cX9_counts 27 = .ok (.istore_n 3, 1) := by decide +kernel
theorem dX9_counts_28 : decode cX9_counts 28 = .ok (.iload_n 3, 1) := by decide +kernel
theorem dX9_counts_29 : decode cX9_counts 29 = .ok (.aload_n 0, 1) := by decide +kernel
theorem dX9_counts_30 : decode cX9_counts 30 = .ok (.getfield 9, 3) := by decide +kernel
theorem dX9_counts_33 : decode cX9_counts 33 = .ok (.sipush 1192, 3) := by decide +kernel
theorem dX9_counts_36 : decode cX9_counts 36 = .ok (.iaload, 1) := by decide +kernel
theorem dX9_counts_37 : decode cX9_counts 37 = .ok (.if_icmp .ge 59, 3) := by decide +kernel
theorem dX9_counts_40 : decode cX9_counts 40 = .ok (.aload_n 0, 1) := by decide +kernel
theorem dX9_counts_41 : decode cX9_counts 41 = .ok (.getfield 118, 3) := by decide +kernel
theorem dX9_counts_44 : decode cX9_counts 44 = .ok (.iload_n 2, 1) := by decide +kernel
theorem dX9_counts_45 : decode cX9_counts 45 = .ok (.if_icmp .ge 51, 3) := by decide +kernel
theorem dX9_counts_48 : decode cX9_counts 48 = .ok (.aload_n 0, 1) := by decide +kernel
theorem dX9_counts_49 : decode cX9_counts 49 = .ok (.iload_n 3, 1) := by decide +kernel
theorem dX9_counts_50 : decode cX9_counts 50 = .ok (.iload_n 1, 1) := by decide +kernel
theorem dX9_counts_51 : decode cX9_counts 51 = .ok (.invokevirtual 121, 3) := by decide +kernel
theorem dX9_counts_54 : decode cX9_counts 54 = .ok (.ifCond .ne 6, 3) := by decide +kernel
theorem dX9_counts_57 : decode cX9_counts 57 = .ok (.goto 33, 3) := by decide +kernel
theorem dX9_counts_60 : decode cX9_counts 60 = .ok (.aload_n 0, 1) := by decide +kernel
theorem dX9_counts_61 : decode cX9_counts 61 = .ok (.getfield 34, 3) := by decide +kernel
theorem dX9_counts_64 : decode cX9_counts 64 = .ok (.aload_n 0, 1) := by decide +kernel
theorem dX9_counts_65 : decode cX9_counts 65 = .ok (.iload_n 3, 1) := by decide +kernel
theorem dX9_counts_66 : decode cX9_counts 66 = .ok (.bipush 10, 2) := by decide +kernel
theorem dX9_counts_68 : decode cX9_counts 68 = .ok (.invokevirtual 76, 3) := by decide +kernel
theorem dX9_counts_71 : decode cX9_counts 71 = .ok (.iload_n 1, 1) := by decide +kernel
theorem dX9_counts_72 : decode cX9_counts 72 = .ok (.invokestatic 125, 3) := by decide +kernel
theorem dX9_counts_75 : decode cX9_counts 75 = .ok (.dup2, 1) := by decide +kernel
theorem dX9_counts_76 : decode cX9_counts 76 = .ok (.iaload, 1) := by decide +kernel
theorem dX9_counts_77 : decode cX9_counts 77 = .ok (.iconst 1, 1) := by decide +kernel
theorem dX9_counts_78 : decode cX9_counts 78 = .ok (.iadd, 1) := by decide +kernel
theorem dX9_counts_79 : decode cX9_counts 79 = .ok (.iastore, 1) := by decide +kernel
theorem dX9_counts_80 : decode cX9_counts 80 = .ok (.aload_n 0, 1) := by decide +kernel
theorem dX9_counts_81 : decode cX9_counts 81 = .ok (.dup, 1) := by decide +kernel
theorem dX9_counts_82 : decode cX9_counts 82 = .ok (.getfield 118, 3) := by decide +kernel
theorem dX9_counts_85 : decode cX9_counts 85 = .ok (.iconst 1, 1) := by decide +kernel
theorem dX9_counts_86 : decode cX9_counts 86 = .ok (.iadd, 1) := by decide +kernel
theorem dX9_counts_87 : decode cX9_counts 87 = .ok (.putfield 118, 3) := by decide +kernel
theorem dX9_counts_90 : decode cX9_counts 90 = .ok (.iinc 3 1, 3) := by decide +kernel
theorem dX9_counts_93 : decode cX9_counts 93 = .ok (.goto (-65), 3) := by decide +kernel
theorem dX9_counts_96 : decode cX9_counts 96 = .ok (.return_, 1) := by decide +kernel
def B_X9_counts_90 (rc_28 : Int32 → Int32 → Int32 → Mem → Option Mem) (x1 : Int32) (x2 : Int32) (x3 : Int32) (M : Mem) : Option Mem := rc_28 x1 x2 (x3 + 1) M
def L_X9_counts_28 : Nat → Int32 → Int32 → Int32 → Mem → Option Mem
  | 0, _, _, _, _ => none
  | n + 1, x1, x2, x3, M => if (mI M 285 1192) ≤ x3 then some M else if x2 ≤ (mI M 284 11) then some M else (f_X9_hasFigure x3 x1 M).bind fun q6 => if q6 = 0 then B_X9_counts_90 (L_X9_counts_28 n) x1 x2 x3 M else (f_X9_get x3 (10 : Int32) M).bind fun q11 => (f_X9_figureOf q11 x1).bind fun q15 => gd (inR q15 10) (B_X9_counts_90 (L_X9_counts_28 n) x1 x2 x3 (sI (sI M 293 q15.toNatClampNeg ((mI M 293 q15.toNatClampNeg) + (1 : Int32))) 284 11 ((mI (sI M 293 q15.toNatClampNeg ((mI M 293 q15.toNatClampNeg) + (1 : Int32))) 284 11) + (1 : Int32))))
def B_X9_counts_21 (x1 : Int32) (x2 : Int32) (M : Mem) : Option Mem := L_X9_counts_28 FU x1 x2 (0 : Int32) (sI M 284 11 (0 : Int32))
def L_X9_counts_2 : Nat → Int32 → Int32 → Int32 → Mem → Option Mem
  | 0, _, _, _, _ => none
  | n + 1, x1, x2, x3, M => if (10 : Int32) ≤ x3 then B_X9_counts_21 x1 x2 M else gd (inR x3 10) (L_X9_counts_2 n x1 x2 (x3 + 1) (sI M 293 x3.toNatClampNeg (0 : Int32)))
def f_X9_counts (x1 : Int32) (x2 : Int32) (M : Mem) : Option Mem := L_X9_counts_2 FU x1 x2 (0 : Int32) M
set_option maxRecDepth 100000 in
set_option maxHeartbeats 4000000 in
theorem b_X9_counts_90 (Z : Sys) (X : Cx) (hR : xR X = rm_X9_counts) {q : Mem} (hq : RetOk Z X none False (PostV q) 0 0) (rc_28 : Int32 → Int32 → Int32 → Mem → Option Mem) (hrc_28 : ∀ (x1 : Int32) (x2 : Int32) (x3 : Int32) (M : Mem), St M → rc_28 x1 x2 x3 M = some q → G Z X Y_X9_counts False 0 0 28 [(0, .ref (zs Z + 284)), (1, .int x1), (2, .int x2), (3, .int x3)] [] M) (x1 : Int32) (x2 : Int32) (x3 : Int32) {M : Mem} (hs : St M) (hf : B_X9_counts_90 rc_28 x1 x2 x3 M = some q) : G Z X Y_X9_counts False 0 0 90 [(0, .ref (zs Z + 284)), (1, .int x1), (2, .int x2), (3, .int x3)] [] M := by
  unfold B_X9_counts_90 at hf
  refine G.iinc 90 3 (x3 + 1) [(3, .int (x3 + 1)), (0, .ref (zs Z + 284)), (1, .int x1), (2, .int x2)] dX9_counts_90 rfl (congrArg (fun z => x3 + z) (by decide +kernel)) (Nat.le_of_ble_eq_true rfl) rfl ?_
  refine G.goto 93 28 dX9_counts_93 (by decide) ?_
  refine G.locs [1, 2, 3, 0] rfl ?_
  exact hrc_28 x1 x2 (x3 + 1) M hs hf
set_option maxRecDepth 100000 in
set_option maxHeartbeats 4000000 in
theorem l_X9_counts_28 (Z : Sys) (X : Cx) (hR : xR X = rm_X9_counts) {q : Mem} (hq : RetOk Z X none False (PostV q) 0 0) : ∀ (n : Nat) (x1 : Int32) (x2 : Int32) (x3 : Int32) (M : Mem) (hs : St M) (hf : L_X9_counts_28 n x1 x2 x3 M = some q), G Z X Y_X9_counts False 0 0 28 [(0, .ref (zs Z + 284)), (1, .int x1), (2, .int x2), (3, .int x3)] [] M := by
  intro n
  induction n with
  | zero => intro x1 x2 x3 M hs  hf; cases hf
  | succ n ih =>
    intro x1 x2 x3 M hs  hf
    unfold L_X9_counts_28 at hf
    refine G.iload_n 28 3 dX9_counts_28 rfl rfl ?_
    refine G.aload_n 29 0 dX9_counts_29 rfl rfl ?_
    refine G.getp 30 ck_9 0 285 (hs.k k0_284) (pc_9_0 hs) (by decide) (by decide +kernel) wd_1305 dX9_counts_30 ?_
    refine G.sipush 33 (1192 : Int32) dX9_counts_33 (by decide +kernel) ?_
    refine G.ia 36 1192 (hs.k k0_285) (by decide +kernel) (by decide +kernel) dX9_counts_36 ?_
    refine G.icmp_ge 37 96 dX9_counts_37 (by decide) (fun h2 => ?_) (fun h2 => ?_)
    · replace hf := (if_pos h2).symm.trans hf
      (have hf9 := Option.some.inj hf; subst hf9)
      exact G.rV 96 hq dX9_counts_96 hs
    · replace hf := (if_neg h2).symm.trans hf
      refine G.aload_n 40 0 dX9_counts_40 rfl rfl ?_
      refine G.geti 41 ck_9 11 (hs.k k0_284) (by decide) (by decide +kernel) wd_1316 dX9_counts_41 ?_
      refine G.iload_n 44 2 dX9_counts_44 rfl rfl ?_
      refine G.icmp_ge 45 96 dX9_counts_45 (by decide) (fun h3 => ?_) (fun h3 => ?_)
      · replace hf := (if_pos h3).symm.trans hf
        (have hf9 := Option.some.inj hf; subst hf9)
        exact G.rV 96 hq dX9_counts_96 hs
      · replace hf := (if_neg h3).symm.trans hf
        refine G.aload_n 48 0 dX9_counts_48 rfl rfl ?_
        refine G.iload_n 49 3 dX9_counts_49 rfl rfl ?_
        refine G.iload_n 50 1 dX9_counts_50 rfl rfl ?_
        obtain ⟨q6, e7, hf⟩ := bd_e hf
        refine G.cvZ 51 (As := [.int x3, .int x1]) ck_9 (hs.k k0_284) (c_X9_hasFigure Z hs x3 x1 e7) mk_X9_hasFigure vk_X9_hasFigure rfl wd_1484 hR (by decide +kernel) ⟨rfl, rfl⟩ rfl (Nat.le_of_ble_eq_true rfl) dX9_counts_51 (fun hs4 z5 => ?_)
        refine G.if_ne 54 60 dX9_counts_54 (by decide) (fun h8 => ?_) (fun h8 => ?_)
        · replace hf := (if_neg h8).symm.trans hf
          refine G.aload_n 60 0 dX9_counts_60 rfl rfl ?_
          refine G.getp 61 ck_9 10 293 (hs4.k k0_284) (pc_9_10 hs4) (by decide) (by decide +kernel) wd_1315 dX9_counts_61 ?_
          refine G.aload_n 64 0 dX9_counts_64 rfl rfl ?_
          refine G.iload_n 65 3 dX9_counts_65 rfl rfl ?_
          refine G.bipush 66 (10 : Int32) dX9_counts_66 (by decide +kernel) ?_
          obtain ⟨q11, e12, hf⟩ := bd_e hf
          refine G.cvI 68 (As := [.int x3, .int (10 : Int32)]) ck_9 (hs4.k k0_284) (c_X9_get Z hs4 x3 (10 : Int32) e12) mk_X9_get vk_X9_get rfl wd_1411 hR (by decide +kernel) ⟨rfl, rfl⟩ rfl (Nat.le_of_ble_eq_true rfl) dX9_counts_68 (fun hs9 => ?_)
          refine G.iload_n 71 1 dX9_counts_71 rfl rfl ?_
          obtain ⟨q15, e16, hf⟩ := bd_e hf
          refine G.csI 72 (As := [.int q11, .int x1]) (c_X9_figureOf Z hs9 q11 x1 e16) mk_X9_figureOf wd_1489 wd_1488 hR (by decide +kernel) ⟨rfl, rfl⟩ rfl (Nat.le_of_ble_eq_true rfl) dX9_counts_72 (fun hs13 => ?_)
          refine G.dup2 75 dX9_counts_75 rfl rfl ?_
          obtain ⟨g17, hf⟩ := gd_e hf
          refine G.ia 76 q15.toNatClampNeg (hs13.k k0_293) g17 rfl dX9_counts_76 ?_
          refine G.iconst 77 (1 : Int32) dX9_counts_77 (by decide +kernel) ?_
          refine G.iadd 78 dX9_counts_78 ?_
          refine G.ist 79 q15.toNatClampNeg (hs13.k k0_293) g17 rfl dX9_counts_79 ?_
          refine G.aload_n 80 0 dX9_counts_80 rfl rfl ?_
          refine G.dup 81 dX9_counts_81 rfl ?_
          refine G.geti 82 ck_9 11 ((St.i hs13).k k0_284) (by decide) (by decide +kernel) wd_1316 dX9_counts_82 ?_
          refine G.iconst 85 (1 : Int32) dX9_counts_85 (by decide +kernel) ?_
          refine G.iadd 86 dX9_counts_86 ?_
          refine G.puti 87 ck_9 11 ((St.i hs13).k k0_284) (by decide) (by decide +kernel) rfl wd_1316 rfl rfl dX9_counts_87 ?_
          exact b_X9_counts_90 Z X hR hq (L_X9_counts_28 n) ih x1 x2 x3 (St.i (St.i hs13)) hf
        · replace hf := (if_pos h8).symm.trans hf
          refine G.goto 57 90 dX9_counts_57 (by decide) ?_
          exact b_X9_counts_90 Z X hR hq (L_X9_counts_28 n) ih x1 x2 x3 hs4 hf
set_option maxRecDepth 100000 in
set_option maxHeartbeats 4000000 in
theorem b_X9_counts_21 (Z : Sys) (X : Cx) (hR : xR X = rm_X9_counts) {q : Mem} (hq : RetOk Z X none False (PostV q) 0 0) (x1 : Int32) (x2 : Int32) {M : Mem} (hs : St M) (hf : B_X9_counts_21 x1 x2 M = some q) : G Z X Y_X9_counts False 0 0 21 [(0, .ref (zs Z + 284)), (1, .int x1), (2, .int x2)] [] M := by
  unfold B_X9_counts_21 at hf
  refine G.aload_n 21 0 dX9_counts_21 rfl rfl ?_
  refine G.iconst 22 (0 : Int32) dX9_counts_22 (by decide +kernel) ?_
  refine G.puti 23 ck_9 11 (hs.k k0_284) (by decide) (by decide +kernel) rfl wd_1316 rfl rfl dX9_counts_23 ?_
  refine G.iconst 26 (0 : Int32) dX9_counts_26 (by decide +kernel) ?_
  refine G.istore_n 27 [(3, .int (0 : Int32)), (0, .ref (zs Z + 284)), (1, .int x1), (2, .int x2)] dX9_counts_27 rfl (Nat.le_of_ble_eq_true rfl) rfl ?_
  refine G.locs [1, 2, 3, 0] rfl ?_
  exact l_X9_counts_28 Z X hR hq FU x1 x2 (0 : Int32) (sI M 284 11 (0 : Int32)) (St.i hs) hf
set_option maxRecDepth 100000 in
set_option maxHeartbeats 4000000 in
theorem l_X9_counts_2 (Z : Sys) (X : Cx) (hR : xR X = rm_X9_counts) {q : Mem} (hq : RetOk Z X none False (PostV q) 0 0) : ∀ (n : Nat) (x1 : Int32) (x2 : Int32) (x3 : Int32) (M : Mem) (hs : St M) (hf : L_X9_counts_2 n x1 x2 x3 M = some q), G Z X Y_X9_counts False 0 0 2 [(0, .ref (zs Z + 284)), (1, .int x1), (2, .int x2), (3, .int x3)] [] M := by
  intro n
  induction n with
  | zero => intro x1 x2 x3 M hs  hf; cases hf
  | succ n ih =>
    intro x1 x2 x3 M hs  hf
    unfold L_X9_counts_2 at hf
    refine G.iload_n 2 3 dX9_counts_2 rfl rfl ?_
    refine G.bipush 3 (10 : Int32) dX9_counts_3 (by decide +kernel) ?_
    refine G.icmp_ge 5 21 dX9_counts_5 (by decide) (fun h1 => ?_) (fun h1 => ?_)
    · replace hf := (if_pos h1).symm.trans hf
      refine G.locs [0, 1, 2] rfl ?_
      exact b_X9_counts_21 Z X hR hq x1 x2 hs hf
    · replace hf := (if_neg h1).symm.trans hf
      refine G.aload_n 8 0 dX9_counts_8 rfl rfl ?_
      refine G.getp 9 ck_9 10 293 (hs.k k0_284) (pc_9_10 hs) (by decide) (by decide +kernel) wd_1315 dX9_counts_9 ?_
      refine G.iload_n 12 3 dX9_counts_12 rfl rfl ?_
      refine G.iconst 13 (0 : Int32) dX9_counts_13 (by decide +kernel) ?_
      obtain ⟨g18, hf⟩ := gd_e hf
      refine G.ist 14 x3.toNatClampNeg (hs.k k0_293) g18 rfl dX9_counts_14 ?_
      refine G.iinc 15 3 (x3 + 1) [(3, .int (x3 + 1)), (0, .ref (zs Z + 284)), (1, .int x1), (2, .int x2)] dX9_counts_15 rfl (congrArg (fun z => x3 + z) (by decide +kernel)) (Nat.le_of_ble_eq_true rfl) rfl ?_
      refine G.goto 18 2 dX9_counts_18 (by decide) ?_
      refine G.locs [1, 2, 3, 0] rfl ?_
      exact ih x1 x2 (x3 + 1) (sI M 293 x3.toNatClampNeg (0 : Int32)) (St.i hs) hf
set_option maxRecDepth 100000 in
set_option maxHeartbeats 4000000 in
theorem c_X9_counts (Z : Sys) {M : Mem} (hs : St M) (x1 : Int32) (x2 : Int32) {q : Mem} (hf : f_X9_counts x1 x2 M = some q) : Ct Z yX9_counts cX9_counts 4 none rm_X9_counts [.ref (zs Z + 284), .int x1, .int x2] M False (PostV q) := by
  refine Ct.of (by decide +kernel) (Nat.le_of_ble_eq_true rfl) (fun X hR hq _ => ?_)
  show G Z X Y_X9_counts False 0 0 0 [(0, .ref (zs Z + 284)), (1, .int x1), (2, .int x2)] [] M
  replace hq : RetOk Z X none False (PostV q) 0 0 := hq
  unfold f_X9_counts at hf
  refine G.iconst 0 (0 : Int32) dX9_counts_0 (by decide +kernel) ?_
  refine G.istore_n 1 [(3, .int (0 : Int32)), (0, .ref (zs Z + 284)), (1, .int x1), (2, .int x2)] dX9_counts_1 rfl (Nat.le_of_ble_eq_true rfl) rfl ?_
  refine G.locs [1, 2, 3, 0] rfl ?_
  exact l_X9_counts_2 Z X hR hq FU x1 x2 (0 : Int32) M hs hf
abbrev Y_X9_down : My := (cX9_down, RX9, 2)
def rm_X9_down : Room := { frames := 2, cells := 0, slots := 0, locals := 225 }
theorem dX9_down_0 : decode cX9_down 0 = .ok (.iload_n 1, 1) := by decide +kernel
theorem dX9_down_1 : decode cX9_down 1 = .ok (.i2l, 1) := by decide +kernel
theorem dX9_down_2 : decode cX9_down 2 = .ok (.lconst 0, 1) := by decide +kernel
theorem dX9_down_3 : decode cX9_down 3 = .ok (.ldc2_w 160, 3) := by decide +kernel
theorem dX9_down_6 : decode cX9_down 6 = .ok (.invokestatic 62, 3) := by decide +kernel
theorem dX9_down_9 : decode cX9_down 9 = .ok (.ifCond .eq 18, 3) := by decide +kernel
theorem dX9_down_12 : decode cX9_down 12 = .ok (.aload_n 0, 1) := by decide +kernel
theorem dX9_down_13 : decode cX9_down 13 = .ok (.sipush 370, 3) := by decide +kernel
theorem dX9_down_16 : decode cX9_down 16 = .ok (.iconst 3, 1) := by decide +kernel
theorem dX9_down_17 : decode cX9_down 17 = .ok (.iload_n 1, 1) := by decide +kernel
theorem dX9_down_18 : decode cX9_down 18 = .ok (.imul, 1) := by decide +kernel
theorem dX9_down_19 : decode cX9_down 19 = .ok (.iadd, 1) := by decide +kernel
theorem dX9_down_20 : decode cX9_down 20 = .ok (.iconst 0, 1) := by decide +kernel
theorem dX9_down_21 : decode cX9_down 21 = .ok (.invokevirtual 80, 3) := by decide +kernel
theorem dX9_down_24 : decode cX9_down 24 = .ok (.goto 4, 3) := by decide +kernel
theorem dX9_down_27 : decode cX9_down 27 = .ok (.iconst (-1), 1) := by decide +kernel
theorem dX9_down_28 : decode cX9_down 28 = .ok (.ireturn, 1) := by decide +kernel
def f_X9_down (x1 : Int32) (M : Mem) : Option (Int32 × Mem) := if (f_X9_isIn x1.toInt64 (0 : Int64) (3 : Int64)) = 0 then some ((-1 : Int32), M) else (f_X9_becomes ((370 : Int32) + ((3 : Int32) * x1)) (0 : Int32) M).bind fun q6 => some (q6.1, q6.2)
set_option maxRecDepth 100000 in
set_option maxHeartbeats 4000000 in
theorem c_X9_down (Z : Sys) {M : Mem} (hs : St M) (x1 : Int32) {q : Int32 × Mem} (hf : f_X9_down x1 M = some q) : Ct Z yX9_down cX9_down 2 (some .int) rm_X9_down [.ref (zs Z + 284), .int x1] M False (PostI q.1 q.2) := by
  refine Ct.of (by decide +kernel) (Nat.le_of_ble_eq_true rfl) (fun X hR hq _ => ?_)
  show G Z X Y_X9_down False 0 0 0 [(0, .ref (zs Z + 284)), (1, .int x1)] [] M
  replace hq : RetOk Z X (some .int) False (PostI q.1 q.2) 0 0 := hq
  unfold f_X9_down at hf
  refine G.iload_n 0 1 dX9_down_0 rfl rfl ?_
  refine G.i2l 1 dX9_down_1 ?_
  refine G.lconst 2 (0 : Int64) dX9_down_2 (by decide +kernel) ?_
  refine G.ldc2 3 (3 : Int64) wd_1556 dX9_down_3 ?_
  refine G.csZ 6 (As := [.long x1.toInt64, .long (0 : Int64), .long (3 : Int64)]) (c_X9_isIn Z hs x1.toInt64 (0 : Int64) (3 : Int64) rfl) mk_X9_isIn wd_1400 wd_1399 hR (by decide +kernel) ⟨rfl, rfl⟩ rfl (Nat.le_of_ble_eq_true rfl) dX9_down_6 (fun hs1 z2 => ?_)
  refine G.if_eq 9 27 dX9_down_9 (by decide) (fun h3 => ?_) (fun h3 => ?_)
  · replace hf := (if_pos h3).symm.trans hf
    refine G.iconst 27 (-1 : Int32) dX9_down_27 (by decide +kernel) ?_
    (have hf9 := Option.some.inj hf; subst hf9)
    exact G.rI 28 hq dX9_down_28 hs1
  · replace hf := (if_neg h3).symm.trans hf
    refine G.aload_n 12 0 dX9_down_12 rfl rfl ?_
    refine G.sipush 13 (370 : Int32) dX9_down_13 (by decide +kernel) ?_
    refine G.iconst 16 (3 : Int32) dX9_down_16 (by decide +kernel) ?_
    refine G.iload_n 17 1 dX9_down_17 rfl rfl ?_
    refine G.imul 18 dX9_down_18 ?_
    refine G.iadd 19 dX9_down_19 ?_
    refine G.iconst 20 (0 : Int32) dX9_down_20 (by decide +kernel) ?_
    obtain ⟨q6, e7, hf⟩ := bd_e hf
    refine G.cvI 21 (As := [.int ((370 : Int32) + ((3 : Int32) * x1)), .int (0 : Int32)]) ck_9 (hs1.k k0_284) (c_X9_becomes Z hs1 ((370 : Int32) + ((3 : Int32) * x1)) (0 : Int32) e7) mk_X9_becomes vk_X9_becomes rfl wd_1415 hR (by decide +kernel) ⟨rfl, rfl⟩ rfl (Nat.le_of_ble_eq_true rfl) dX9_down_21 (fun hs4 => ?_)
    refine G.goto 24 28 dX9_down_24 (by decide) ?_
    (have hf9 := Option.some.inj hf; subst hf9)
    exact G.rI 28 hq dX9_down_28 hs4
abbrev Y_X9_element : My := (cX9_element, RX9, 3)
def rm_X9_element : Room := { frames := 3, cells := 0, slots := 0, locals := 245 }
theorem dX9_element_0 : decode cX9_element 0 = .ok (.aload_n 0, 1) := by decide +kernel
theorem dX9_element_1 : decode cX9_element 1 = .ok (.iload_n 1, 1) := by decide +kernel
theorem dX9_element_2 : decode cX9_element 2 = .ok (.invokestatic 111, 3) := by decide +kernel
theorem dX9_element_5 : decode cX9_element 5 = .ok (.ifCond .ne 7, 3) := by decide +kernel
theorem dX9_element_8 : decode cX9_element 8 = .ok (.iconst 1, 1) := by decide +kernel
theorem dX9_element_9 : decode cX9_element 9 = .ok (.goto 36, 3) := by decide +kernel
theorem dX9_element_12 : decode cX9_element 12 = .ok (.aload_n 0, 1) := by decide +kernel
theorem dX9_element_13 : decode cX9_element 13 = .ok (.getfield 16, 3) := by decide +kernel
theorem dX9_element_16 : decode cX9_element 16 = .ok (.iload_n 1, 1) := by decide +kernel
theorem dX9_element_17 : decode cX9_element 17 = .ok (.iaload, 1) := by decide +kernel
theorem dX9_element_18 : decode cX9_element 18 = .ok (.iconst 2, 1) := by decide +kernel
theorem dX9_element_19 : decode cX9_element 19 = .ok (.if_icmp .ne 21, 3) := by decide +kernel
theorem dX9_element_22 : decode cX9_element 22 = .ok (.iload_n 2, 1) := by decide +kernel
theorem dX9_element_23 : decode cX9_element 23 = .ok (.i2l, 1) := by decide +kernel
theorem dX9_element_24 : decode cX9_element 24 = .ok (.lconst 0, 1) := by decide +kernel
theorem dX9_element_25 : decode cX9_element 25 = .ok (.aload_n 0, 1) := by decide +kernel
theorem dX9_element_26 : decode cX9_element 26 = .ok (.getfield 22, 3) := by decide +kernel
theorem dX9_element_29 : decode cX9_element 29 = .ok (.iload_n 1, 1) := by decide +kernel
theorem dX9_element_30 : decode cX9_element 30 = .ok (.iaload, 1) := by decide +kernel
theorem dX9_element_31 : decode cX9_element 31 = .ok (.iconst 1, 1) := by decide +kernel
theorem dX9_element_32 : decode cX9_element 32 = .ok (.isub, 1) := by decide +kernel
theorem dX9_element_33 : decode cX9_element 33 = .ok (.i2l, 1) := by decide +kernel
theorem dX9_element_34 : decode cX9_element 34 = .ok (.invokestatic 62, 3) := by decide +kernel
theorem dX9_element_37 : decode cX9_element 37 = .ok (.ifCond .ne 7, 3) := by decide +kernel
theorem dX9_element_40 : decode cX9_element 40 = .ok (.iconst 2, 1) := by decide +kernel
theorem dX9_element_41 : decode cX9_element 41 = .ok (.goto 4, 3) := by decide +kernel
theorem dX9_element_44 : decode cX9_element 44 = .ok (.iconst 0, 1) := by decide +kernel
theorem dX9_element_45 : decode cX9_element 45 = .ok (.putfield 58, 3) := by decide +kernel
theorem dX9_element_48 : decode cX9_element 48 = .ok (.aload_n 0, 1) := by decide +kernel
theorem dX9_element_49 : decode cX9_element 49 = .ok (.getfield 58, 3) := by decide +kernel
theorem dX9_element_52 : decode cX9_element 52 = .ok (.ifCond .ne 18, 3) := by decide +kernel
theorem dX9_element_55 : decode cX9_element 55 = .ok (.aload_n 0, 1) := by decide +kernel
theorem dX9_element_56 : decode cX9_element 56 = .ok (.getfield 25, 3) := by decide +kernel
theorem dX9_element_59 : decode cX9_element 59 = .ok (.bipush 80, 2) := by decide +kernel
theorem dX9_element_61 : decode cX9_element 61 = .ok (.iload_n 1, 1) := by decide +kernel
theorem dX9_element_62 : decode cX9_element 62 = .ok (.imul, 1) := by decide +kernel
theorem dX9_element_63 : decode cX9_element 63 = .ok (.iload_n 2, 1) := by decide +kernel
theorem dX9_element_64 : decode cX9_element 64 = .ok (.iadd, 1) := by decide +kernel
theorem dX9_element_65 : decode cX9_element 65 = .ok (.iaload, 1) := by decide +kernel
theorem dX9_element_66 : decode cX9_element 66 = .ok (.i2l, 1) := by decide +kernel
theorem dX9_element_67 : decode cX9_element 67 = .ok (.goto 4, 3) := by decide +kernel
theorem dX9_element_70 : decode cX9_element 70 = .ok (.lconst 0, 1) := by decide +kernel
theorem dX9_element_71 : decode cX9_element 71 = .ok (.lreturn, 1) := by decide +kernel
def f_X9_element (x1 : Int32) (x2 : Int32) (M : Mem) : Option (Int64 × Mem) := if (f_X9_isShelf x1) = 0 then if (mI (sI M 284 9 (1 : Int32)) 284 9) = 0 then gd (inR (((80 : Int32) * x1) + x2) 640) (some ((mI (sI M 284 9 (1 : Int32)) 290 (((80 : Int32) * x1) + x2).toNatClampNeg).toInt64, (sI M 284 9 (1 : Int32)))) else some ((0 : Int64), (sI M 284 9 (1 : Int32))) else gd (inR x1 8) (if (mI M 287 x1.toNatClampNeg) = (2 : Int32) then if (f_X9_isIn x2.toInt64 (0 : Int64) ((mI M 289 x1.toNatClampNeg) - (1 : Int32)).toInt64) = 0 then if (mI (sI M 284 9 (2 : Int32)) 284 9) = 0 then gd (inR (((80 : Int32) * x1) + x2) 640) (some ((mI (sI M 284 9 (2 : Int32)) 290 (((80 : Int32) * x1) + x2).toNatClampNeg).toInt64, (sI M 284 9 (2 : Int32)))) else some ((0 : Int64), (sI M 284 9 (2 : Int32))) else if (mI (sI M 284 9 (0 : Int32)) 284 9) = 0 then gd (inR (((80 : Int32) * x1) + x2) 640) (some ((mI (sI M 284 9 (0 : Int32)) 290 (((80 : Int32) * x1) + x2).toNatClampNeg).toInt64, (sI M 284 9 (0 : Int32)))) else some ((0 : Int64), (sI M 284 9 (0 : Int32))) else if (mI (sI M 284 9 (2 : Int32)) 284 9) = 0 then gd (inR (((80 : Int32) * x1) + x2) 640) (some ((mI (sI M 284 9 (2 : Int32)) 290 (((80 : Int32) * x1) + x2).toNatClampNeg).toInt64, (sI M 284 9 (2 : Int32)))) else some ((0 : Int64), (sI M 284 9 (2 : Int32))))
set_option maxRecDepth 100000 in
set_option maxHeartbeats 4000000 in
theorem c_X9_element (Z : Sys) {M : Mem} (hs : St M) (x1 : Int32) (x2 : Int32) {q : Int64 × Mem} (hf : f_X9_element x1 x2 M = some q) : Ct Z yX9_element cX9_element 3 (some .long) rm_X9_element [.ref (zs Z + 284), .int x1, .int x2] M False (PostL q.1 q.2) := by
  refine Ct.of (by decide +kernel) (Nat.le_of_ble_eq_true rfl) (fun X hR hq _ => ?_)
  show G Z X Y_X9_element False 0 0 0 [(0, .ref (zs Z + 284)), (1, .int x1), (2, .int x2)] [] M
  replace hq : RetOk Z X (some .long) False (PostL q.1 q.2) 0 0 := hq
  unfold f_X9_element at hf
  refine G.aload_n 0 0 dX9_element_0 rfl rfl ?_
  refine G.iload_n 1 1 dX9_element_1 rfl rfl ?_
  refine G.csZ 2 (As := [.int x1]) (c_X9_isShelf Z hs x1 rfl) mk_X9_isShelf wd_1470 wd_1469 hR (by decide +kernel) ⟨rfl, rfl⟩ rfl (Nat.le_of_ble_eq_true rfl) dX9_element_2 (fun hs1 z2 => ?_)
  refine G.if_ne 5 12 dX9_element_5 (by decide) (fun h3 => ?_) (fun h3 => ?_)
  · replace hf := (if_neg h3).symm.trans hf
    refine G.aload_n 12 0 dX9_element_12 rfl rfl ?_
    refine G.getp 13 ck_9 2 287 (hs1.k k0_284) (pc_9_2 hs1) (by decide) (by decide +kernel) wd_1307 dX9_element_13 ?_
    refine G.iload_n 16 1 dX9_element_16 rfl rfl ?_
    obtain ⟨g4, hf⟩ := gd_e hf
    refine G.ia 17 x1.toNatClampNeg (hs1.k k0_287) g4 rfl dX9_element_17 ?_
    refine G.iconst 18 (2 : Int32) dX9_element_18 (by decide +kernel) ?_
    refine G.icmp_ne 19 40 dX9_element_19 (by decide) (fun h5 => ?_) (fun h5 => ?_)
    · replace hf := (if_neg h5).symm.trans hf
      refine G.iconst 40 (2 : Int32) dX9_element_40 (by decide +kernel) ?_
      refine G.goto 41 45 dX9_element_41 (by decide) ?_
      refine G.puti 45 ck_9 9 (hs1.k k0_284) (by decide) (by decide +kernel) rfl wd_1314 rfl rfl dX9_element_45 ?_
      refine G.aload_n 48 0 dX9_element_48 rfl rfl ?_
      refine G.geti 49 ck_9 9 ((St.i hs1).k k0_284) (by decide) (by decide +kernel) wd_1314 dX9_element_49 ?_
      refine G.if_ne 52 70 dX9_element_52 (by decide) (fun h6 => ?_) (fun h6 => ?_)
      · replace hf := (if_neg h6).symm.trans hf
        refine G.lconst 70 (0 : Int64) dX9_element_70 (by decide +kernel) ?_
        (have hf9 := Option.some.inj hf; subst hf9)
        exact G.rL 71 hq dX9_element_71 (St.i hs1)
      · replace hf := (if_pos h6).symm.trans hf
        refine G.aload_n 55 0 dX9_element_55 rfl rfl ?_
        refine G.getp 56 ck_9 5 290 ((St.i hs1).k k0_284) (pc_9_5 (St.i hs1)) (by decide) (by decide +kernel) wd_1310 dX9_element_56 ?_
        refine G.bipush 59 (80 : Int32) dX9_element_59 (by decide +kernel) ?_
        refine G.iload_n 61 1 dX9_element_61 rfl rfl ?_
        refine G.imul 62 dX9_element_62 ?_
        refine G.iload_n 63 2 dX9_element_63 rfl rfl ?_
        refine G.iadd 64 dX9_element_64 ?_
        obtain ⟨g7, hf⟩ := gd_e hf
        refine G.ia 65 (((80 : Int32) * x1) + x2).toNatClampNeg ((St.i hs1).k k0_290) g7 rfl dX9_element_65 ?_
        refine G.i2l 66 dX9_element_66 ?_
        refine G.goto 67 71 dX9_element_67 (by decide) ?_
        (have hf9 := Option.some.inj hf; subst hf9)
        exact G.rL 71 hq dX9_element_71 (St.i hs1)
    · replace hf := (if_pos h5).symm.trans hf
      refine G.iload_n 22 2 dX9_element_22 rfl rfl ?_
      refine G.i2l 23 dX9_element_23 ?_
      refine G.lconst 24 (0 : Int64) dX9_element_24 (by decide +kernel) ?_
      refine G.aload_n 25 0 dX9_element_25 rfl rfl ?_
      refine G.getp 26 ck_9 4 289 (hs1.k k0_284) (pc_9_4 hs1) (by decide) (by decide +kernel) wd_1309 dX9_element_26 ?_
      refine G.iload_n 29 1 dX9_element_29 rfl rfl ?_
      refine G.ia 30 x1.toNatClampNeg (hs1.k k0_289) g4 rfl dX9_element_30 ?_
      refine G.iconst 31 (1 : Int32) dX9_element_31 (by decide +kernel) ?_
      refine G.isub 32 dX9_element_32 ?_
      refine G.i2l 33 dX9_element_33 ?_
      refine G.csZ 34 (As := [.long x2.toInt64, .long (0 : Int64), .long ((mI M 289 x1.toNatClampNeg) - (1 : Int32)).toInt64]) (c_X9_isIn Z hs1 x2.toInt64 (0 : Int64) ((mI M 289 x1.toNatClampNeg) - (1 : Int32)).toInt64 rfl) mk_X9_isIn wd_1400 wd_1399 hR (by decide +kernel) ⟨rfl, rfl⟩ rfl (Nat.le_of_ble_eq_true rfl) dX9_element_34 (fun hs8 z9 => ?_)
      refine G.if_ne 37 44 dX9_element_37 (by decide) (fun h10 => ?_) (fun h10 => ?_)
      · replace hf := (if_neg h10).symm.trans hf
        refine G.iconst 44 (0 : Int32) dX9_element_44 (by decide +kernel) ?_
        refine G.puti 45 ck_9 9 (hs8.k k0_284) (by decide) (by decide +kernel) rfl wd_1314 rfl rfl dX9_element_45 ?_
        refine G.aload_n 48 0 dX9_element_48 rfl rfl ?_
        refine G.geti 49 ck_9 9 ((St.i hs8).k k0_284) (by decide) (by decide +kernel) wd_1314 dX9_element_49 ?_
        refine G.if_ne 52 70 dX9_element_52 (by decide) (fun h11 => ?_) (fun h11 => ?_)
        · replace hf := (if_neg h11).symm.trans hf
          refine G.lconst 70 (0 : Int64) dX9_element_70 (by decide +kernel) ?_
          (have hf9 := Option.some.inj hf; subst hf9)
          exact G.rL 71 hq dX9_element_71 (St.i hs8)
        · replace hf := (if_pos h11).symm.trans hf
          refine G.aload_n 55 0 dX9_element_55 rfl rfl ?_
          refine G.getp 56 ck_9 5 290 ((St.i hs8).k k0_284) (pc_9_5 (St.i hs8)) (by decide) (by decide +kernel) wd_1310 dX9_element_56 ?_
          refine G.bipush 59 (80 : Int32) dX9_element_59 (by decide +kernel) ?_
          refine G.iload_n 61 1 dX9_element_61 rfl rfl ?_
          refine G.imul 62 dX9_element_62 ?_
          refine G.iload_n 63 2 dX9_element_63 rfl rfl ?_
          refine G.iadd 64 dX9_element_64 ?_
          obtain ⟨g12, hf⟩ := gd_e hf
          refine G.ia 65 (((80 : Int32) * x1) + x2).toNatClampNeg ((St.i hs8).k k0_290) g12 rfl dX9_element_65 ?_
          refine G.i2l 66 dX9_element_66 ?_
          refine G.goto 67 71 dX9_element_67 (by decide) ?_
          (have hf9 := Option.some.inj hf; subst hf9)
          exact G.rL 71 hq dX9_element_71 (St.i hs8)
      · replace hf := (if_pos h10).symm.trans hf
        refine G.iconst 40 (2 : Int32) dX9_element_40 (by decide +kernel) ?_
        refine G.goto 41 45 dX9_element_41 (by decide) ?_
        refine G.puti 45 ck_9 9 (hs8.k k0_284) (by decide) (by decide +kernel) rfl wd_1314 rfl rfl dX9_element_45 ?_
        refine G.aload_n 48 0 dX9_element_48 rfl rfl ?_
        refine G.geti 49 ck_9 9 ((St.i hs8).k k0_284) (by decide) (by decide +kernel) wd_1314 dX9_element_49 ?_
        refine G.if_ne 52 70 dX9_element_52 (by decide) (fun h13 => ?_) (fun h13 => ?_)
        · replace hf := (if_neg h13).symm.trans hf
          refine G.lconst 70 (0 : Int64) dX9_element_70 (by decide +kernel) ?_
          (have hf9 := Option.some.inj hf; subst hf9)
          exact G.rL 71 hq dX9_element_71 (St.i hs8)
        · replace hf := (if_pos h13).symm.trans hf
          refine G.aload_n 55 0 dX9_element_55 rfl rfl ?_
          refine G.getp 56 ck_9 5 290 ((St.i hs8).k k0_284) (pc_9_5 (St.i hs8)) (by decide) (by decide +kernel) wd_1310 dX9_element_56 ?_
          refine G.bipush 59 (80 : Int32) dX9_element_59 (by decide +kernel) ?_
          refine G.iload_n 61 1 dX9_element_61 rfl rfl ?_
          refine G.imul 62 dX9_element_62 ?_
          refine G.iload_n 63 2 dX9_element_63 rfl rfl ?_
          refine G.iadd 64 dX9_element_64 ?_
          obtain ⟨g14, hf⟩ := gd_e hf
          refine G.ia 65 (((80 : Int32) * x1) + x2).toNatClampNeg ((St.i hs8).k k0_290) g14 rfl dX9_element_65 ?_
          refine G.i2l 66 dX9_element_66 ?_
          refine G.goto 67 71 dX9_element_67 (by decide) ?_
          (have hf9 := Option.some.inj hf; subst hf9)
          exact G.rL 71 hq dX9_element_71 (St.i hs8)
  · replace hf := (if_pos h3).symm.trans hf
    refine G.iconst 8 (1 : Int32) dX9_element_8 (by decide +kernel) ?_
    refine G.goto 9 45 dX9_element_9 (by decide) ?_
    refine G.puti 45 ck_9 9 (hs1.k k0_284) (by decide) (by decide +kernel) rfl wd_1314 rfl rfl dX9_element_45 ?_
    refine G.aload_n 48 0 dX9_element_48 rfl rfl ?_
    refine G.geti 49 ck_9 9 ((St.i hs1).k k0_284) (by decide) (by decide +kernel) wd_1314 dX9_element_49 ?_
    refine G.if_ne 52 70 dX9_element_52 (by decide) (fun h15 => ?_) (fun h15 => ?_)
    · replace hf := (if_neg h15).symm.trans hf
      refine G.lconst 70 (0 : Int64) dX9_element_70 (by decide +kernel) ?_
      (have hf9 := Option.some.inj hf; subst hf9)
      exact G.rL 71 hq dX9_element_71 (St.i hs1)
    · replace hf := (if_pos h15).symm.trans hf
      refine G.aload_n 55 0 dX9_element_55 rfl rfl ?_
      refine G.getp 56 ck_9 5 290 ((St.i hs1).k k0_284) (pc_9_5 (St.i hs1)) (by decide) (by decide +kernel) wd_1310 dX9_element_56 ?_
      refine G.bipush 59 (80 : Int32) dX9_element_59 (by decide +kernel) ?_
      refine G.iload_n 61 1 dX9_element_61 rfl rfl ?_
      refine G.imul 62 dX9_element_62 ?_
      refine G.iload_n 63 2 dX9_element_63 rfl rfl ?_
      refine G.iadd 64 dX9_element_64 ?_
      obtain ⟨g16, hf⟩ := gd_e hf
      refine G.ia 65 (((80 : Int32) * x1) + x2).toNatClampNeg ((St.i hs1).k k0_290) g16 rfl dX9_element_65 ?_
      refine G.i2l 66 dX9_element_66 ?_
      refine G.goto 67 71 dX9_element_67 (by decide) ?_
      (have hf9 := Option.some.inj hf; subst hf9)
      exact G.rL 71 hq dX9_element_71 (St.i hs1)
