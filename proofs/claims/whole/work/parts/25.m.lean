abbrev Y_X1_write : My := (cX1_write, RX1, 3)
def rm_X1_write : Room := { frames := 1, cells := 0, slots := 0, locals := 200 }
theorem dX1_write_0 : decode cX1_write 0 = .ok (.aload_n 0, 1) := by decide +kernel
theorem dX1_write_1 : decode cX1_write 1 = .ok (.iconst 0, 1) := by decide +kernel
theorem dX1_write_2 : decode cX1_write 2 = .ok (.putfield 50, 3) := by decide +kernel
theorem dX1_write_5 : decode cX1_write 5 = .ok (.aload_n 0, 1) := by decide +kernel
theorem dX1_write_6 : decode cX1_write 6 = .ok (.iload_n 1, 1) := by decide +kernel
theorem dX1_write_7 : decode cX1_write 7 = .ok (.putfield 57, 3) := by decide +kernel
theorem dX1_write_10 : decode cX1_write 10 = .ok (.aload_n 0, 1) := by decide +kernel
theorem dX1_write_11 : decode cX1_write 11 = .ok (.iload_n 2, 1) := by decide +kernel
theorem dX1_write_12 : decode cX1_write 12 = .ok (.putfield 60, 3) := by decide +kernel
theorem dX1_write_15 : decode cX1_write 15 = .ok (.return_, 1) := by decide +kernel
def f_X1_write (a0 : Nat) (x1 : Int32) (x2 : Int32) (M : Mem) : Option Mem := some (sI (sI (sI M a0 9 (0 : Int32)) a0 10 x1) a0 11 x2)
set_option maxRecDepth 100000 in
set_option maxHeartbeats 4000000 in
theorem c_X1_write (Z : Sys) {M : Mem} (hs : St M) (a0 : Nat) (x1 : Int32) (x2 : Int32) (k_a0 : K0[a0]? = some (1, 12)) {q : Mem} (hf : f_X1_write a0 x1 x2 M = some q) : Ct Z yX1_write cX1_write 3 none rm_X1_write [.ref (zs Z + a0), .int x1, .int x2] M False (PostV q) := by
  refine Ct.of (by decide +kernel) (Nat.le_of_ble_eq_true rfl) (fun X hR hq _ => ?_)
  show G Z X Y_X1_write False 0 0 0 [(0, .ref (zs Z + a0)), (1, .int x1), (2, .int x2)] [] M
  replace hq : RetOk Z X none False (PostV q) 0 0 := hq
  unfold f_X1_write at hf
  refine G.aload_n 0 0 dX1_write_0 rfl rfl ?_
  refine G.iconst 1 (0 : Int32) dX1_write_1 (by decide +kernel) ?_
  refine G.puti 2 ck_1 9 (hs.k k_a0) (by decide) (by decide +kernel) rfl wd_220 rfl rfl dX1_write_2 ?_
  refine G.aload_n 5 0 dX1_write_5 rfl rfl ?_
  refine G.iload_n 6 1 dX1_write_6 rfl rfl ?_
  refine G.puti 7 ck_1 10 ((St.i hs).k k_a0) (by decide) (by decide +kernel) rfl wd_224 rfl rfl dX1_write_7 ?_
  refine G.aload_n 10 0 dX1_write_10 rfl rfl ?_
  refine G.iload_n 11 2 dX1_write_11 rfl rfl ?_
  refine G.puti 12 ck_1 11 ((St.i (St.i hs)).k k_a0) (by decide) (by decide +kernel) rfl wd_228 rfl rfl dX1_write_12 ?_
  (have hf9 := Option.some.inj hf; subst hf9)
  exact G.rV 15 hq dX1_write_15 (St.i (St.i (St.i hs)))
abbrev Y_X0_writeTruth : My := (cX0_writeTruth, RX0, 3)
def rm_X0_writeTruth : Room := { frames := 2, cells := 0, slots := 0, locals := 222 }
theorem dX0_writeTruth_0 : decode cX0_writeTruth 0 = .ok (.iconst 0, 1) := by decide +kernel
theorem dX0_writeTruth_1 : decode cX0_writeTruth 1 = .ok (.istore_n 1, 1) := by decide +kernel
theorem dX0_writeTruth_2 : decode cX0_writeTruth 2 = .ok (.iload_n 1, 1) := by decide +kernel
theorem dX0_writeTruth_3 : decode cX0_writeTruth 3 = .ok (.aload_n 0, 1) := by decide +kernel
theorem dX0_writeTruth_4 : decode cX0_writeTruth 4 = .ok (.getfield 53, 3) := by decide +kernel
theorem dX0_writeTruth_7 : decode cX0_writeTruth 7 = .ok (.if_icmp .ge 35, 3) := by decide +kernel
theorem dX0_writeTruth_10 : decode cX0_writeTruth 10 = .ok (.aload_n 0, 1) := by decide +kernel
theorem dX0_writeTruth_11 : decode cX0_writeTruth 11 = .ok (.getfield 13, 3) := by decide +kernel
theorem dX0_writeTruth_14 : decode cX0_writeTruth 14 = .ok (.iload_n 1, 1) := by decide +kernel
theorem dX0_writeTruth_15 : decode cX0_writeTruth 15 = .ok (.aaload, 1) := by decide +kernel
theorem dX0_writeTruth_16 : decode cX0_writeTruth 16 = .ok (.astore_n 2, 1) := by decide +kernel
theorem dX0_writeTruth_17 : decode cX0_writeTruth 17 = .ok (.aload_n 2, 1) := by decide +kernel
theorem dX0_writeTruth_18 : decode cX0_writeTruth 18 = .ok (.getfield 78, 3) := by decide +kernel
theorem dX0_writeTruth_21 : decode cX0_writeTruth 21 = .ok (.ifCond .ne 15, 3) := by decide +kernel
theorem dX0_writeTruth_24 : decode cX0_writeTruth 24 = .ok (.aload_n 2, 1) := by decide +kernel
theorem dX0_writeTruth_25 : decode cX0_writeTruth 25 = .ok (.aload_n 2, 1) := by decide +kernel
theorem dX0_writeTruth_26 : decode cX0_writeTruth 26 = .ok (.getfield 200, 3) := by decide +kernel
theorem dX0_writeTruth_29 : decode cX0_writeTruth 29 = .ok (.aload_n 2, 1) := by decide +kernel
theorem dX0_writeTruth_30 : decode cX0_writeTruth 30 = .ok (.getfield 203, 3) := by decide +kernel
theorem dX0_writeTruth_33 : decode cX0_writeTruth 33 = .ok (.invokevirtual 209, 3) := by decide +kernel
theorem dX0_writeTruth_36 : decode cX0_writeTruth 36 = .ok (.iinc 1 1, 3) := by decide +kernel
theorem dX0_writeTruth_39 : decode cX0_writeTruth 39 = .ok (.goto (-37), 3) := by decide +kernel
theorem dX0_writeTruth_42 : decode cX0_writeTruth 42 = .ok (.return_, 1) := by decide +kernel
def B_X0_writeTruth_36 (rc_2 : Nat → Int32 → Mem → Option Mem) (a0 : Nat) (x1 : Int32) (M : Mem) : Option Mem := rc_2 a0 (x1 + 1) M
def L_X0_writeTruth_2 : Nat → Nat → Int32 → Mem → Option Mem
  | 0, _, _, _ => none
  | n + 1, a0, x1, M => if (mI M a0 1) ≤ x1 then some M else gd (inR x1 30) (if (mI M ((a0 + 1) + 23 + 2 * x1.toNatClampNeg) 9) = 0 then (f_X1_write ((a0 + 1) + 23 + 2 * x1.toNatClampNeg) (mI M ((a0 + 1) + 23 + 2 * x1.toNatClampNeg) 6) (mI M ((a0 + 1) + 23 + 2 * x1.toNatClampNeg) 7) M).bind fun q6 => B_X0_writeTruth_36 (L_X0_writeTruth_2 n) a0 x1 q6 else B_X0_writeTruth_36 (L_X0_writeTruth_2 n) a0 x1 M)
def f_X0_writeTruth (a0 : Nat) (M : Mem) : Option Mem := L_X0_writeTruth_2 FU a0 (0 : Int32) M
set_option maxRecDepth 100000 in
set_option maxHeartbeats 4000000 in
theorem b_X0_writeTruth_36 (Z : Sys) (X : Cx) (hR : xR X = rm_X0_writeTruth) {q : Mem} (hq : RetOk Z X none False (PostV q) 0 0) (rc_2 : Nat → Int32 → Mem → Option Mem) (hrc_2 : ∀ (a0 : Nat) (x1 : Int32) (M : Mem), St M → K0[a0]? = some (0, 12) → rc_2 a0 x1 M = some q → G Z X Y_X0_writeTruth False 0 0 2 [(0, .ref (zs Z + a0)), (1, .int x1)] [] M) (a0 : Nat) (x1 : Int32) {M : Mem} (hs : St M) (k_a0 : K0[a0]? = some (0, 12)) (hf : B_X0_writeTruth_36 rc_2 a0 x1 M = some q) : G Z X Y_X0_writeTruth False 0 0 36 [(0, .ref (zs Z + a0)), (1, .int x1)] [] M := by
  unfold B_X0_writeTruth_36 at hf
  refine G.iinc 36 1 (x1 + 1) [(1, .int (x1 + 1)), (0, .ref (zs Z + a0))] dX0_writeTruth_36 rfl (congrArg (fun z => x1 + z) (by decide +kernel)) (Nat.le_of_ble_eq_true rfl) rfl ?_
  refine G.goto 39 2 dX0_writeTruth_39 (by decide) ?_
  refine G.locs [1, 0] rfl ?_
  exact hrc_2 a0 (x1 + 1) M hs k_a0 hf
set_option maxRecDepth 100000 in
set_option maxHeartbeats 4000000 in
theorem l_X0_writeTruth_2 (Z : Sys) (X : Cx) (hR : xR X = rm_X0_writeTruth) {q : Mem} (hq : RetOk Z X none False (PostV q) 0 0) : ∀ (n : Nat) (a0 : Nat) (x1 : Int32) (M : Mem) (hs : St M) (k_a0 : K0[a0]? = some (0, 12)) (hf : L_X0_writeTruth_2 n a0 x1 M = some q), G Z X Y_X0_writeTruth False 0 0 2 [(0, .ref (zs Z + a0)), (1, .int x1)] [] M := by
  intro n
  induction n with
  | zero => intro a0 x1 M hs k_a0 hf; cases hf
  | succ n ih =>
    intro a0 x1 M hs k_a0 hf
    unfold L_X0_writeTruth_2 at hf
    refine G.iload_n 2 1 dX0_writeTruth_2 rfl rfl ?_
    refine G.aload_n 3 0 dX0_writeTruth_3 rfl rfl ?_
    refine G.geti 4 ck_0 1 (hs.k k_a0) (by decide) (by decide +kernel) wd_261 dX0_writeTruth_4 ?_
    refine G.icmp_ge 7 42 dX0_writeTruth_7 (by decide) (fun h1 => ?_) (fun h1 => ?_)
    · replace hf := (if_pos h1).symm.trans hf
      (have hf9 := Option.some.inj hf; subst hf9)
      exact G.rV 42 hq dX0_writeTruth_42 hs
    · replace hf := (if_neg h1).symm.trans hf
      refine G.aload_n 10 0 dX0_writeTruth_10 rfl rfl ?_
      refine G.getp 11 ck_0 0 (a0 + 1) (hs.k k_a0) (pt_0_0 hs k_a0).1 (by decide) (by decide +kernel) wd_257 dX0_writeTruth_11 ?_
      refine G.iload_n 14 1 dX0_writeTruth_14 rfl rfl ?_
      obtain ⟨g2, hf⟩ := gd_e hf
      refine G.aa 15 x1.toNatClampNeg ((a0 + 1) + 23 + 2 * x1.toNatClampNeg) (hs.k (pt_0_0 hs k_a0).2) (by decide) rfl rfl g2 rfl (pa_13 hs (pt_0_0 hs k_a0).2 (inlt g2)).1 dX0_writeTruth_15 ?_
      refine G.astore_n 16 [(2, .ref (zs Z + ((a0 + 1) + 23 + 2 * x1.toNatClampNeg))), (0, .ref (zs Z + a0)), (1, .int x1)] dX0_writeTruth_16 rfl (Nat.le_of_ble_eq_true rfl) rfl ?_
      refine G.aload_n 17 0 dX0_writeTruth_17 rfl rfl ?_
      refine G.geti 18 ck_1 9 (hs.k (pa_13 hs (pt_0_0 hs k_a0).2 (inlt g2)).2) (by decide) (by decide +kernel) wd_222 dX0_writeTruth_18 ?_
      refine G.if_ne 21 36 dX0_writeTruth_21 (by decide) (fun h3 => ?_) (fun h3 => ?_)
      · replace hf := (if_neg h3).symm.trans hf
        refine G.locs [1, 2] rfl ?_
        exact b_X0_writeTruth_36 Z X hR hq (L_X0_writeTruth_2 n) ih a0 x1 hs k_a0 hf
      · replace hf := (if_pos h3).symm.trans hf
        refine G.aload_n 24 0 dX0_writeTruth_24 rfl rfl ?_
        refine G.aload_n 25 0 dX0_writeTruth_25 rfl rfl ?_
        refine G.geti 26 ck_1 6 (hs.k (pa_13 hs (pt_0_0 hs k_a0).2 (inlt g2)).2) (by decide) (by decide +kernel) wd_209 dX0_writeTruth_26 ?_
        refine G.aload_n 29 0 dX0_writeTruth_29 rfl rfl ?_
        refine G.geti 30 ck_1 7 (hs.k (pa_13 hs (pt_0_0 hs k_a0).2 (inlt g2)).2) (by decide) (by decide +kernel) wd_212 dX0_writeTruth_30 ?_
        obtain ⟨q6, e7, hf⟩ := bd_e hf
        refine G.cvV 33 (As := [.int (mI M ((a0 + 1) + 23 + 2 * x1.toNatClampNeg) 6), .int (mI M ((a0 + 1) + 23 + 2 * x1.toNatClampNeg) 7)]) ck_1 (hs.k (pa_13 hs (pt_0_0 hs k_a0).2 (inlt g2)).2) (c_X1_write Z hs ((a0 + 1) + 23 + 2 * x1.toNatClampNeg) (mI M ((a0 + 1) + 23 + 2 * x1.toNatClampNeg) 6) (mI M ((a0 + 1) + 23 + 2 * x1.toNatClampNeg) 7) (pa_13 hs (pt_0_0 hs k_a0).2 (inlt g2)).2 e7) mk_X1_write vk_X1_write rfl wd_865 hR (by decide +kernel) ⟨rfl, rfl⟩ rfl (Nat.le_of_ble_eq_true rfl) dX0_writeTruth_33 (fun hs4 => ?_)
        refine G.locs [1, 2] rfl ?_
        exact b_X0_writeTruth_36 Z X hR hq (L_X0_writeTruth_2 n) ih a0 x1 hs4 k_a0 hf
set_option maxRecDepth 100000 in
set_option maxHeartbeats 4000000 in
theorem c_X0_writeTruth (Z : Sys) {M : Mem} (hs : St M) (a0 : Nat) (k_a0 : K0[a0]? = some (0, 12)) {q : Mem} (hf : f_X0_writeTruth a0 M = some q) : Ct Z yX0_writeTruth cX0_writeTruth 3 none rm_X0_writeTruth [.ref (zs Z + a0)] M False (PostV q) := by
  refine Ct.of (by decide +kernel) (Nat.le_of_ble_eq_true rfl) (fun X hR hq _ => ?_)
  show G Z X Y_X0_writeTruth False 0 0 0 [(0, .ref (zs Z + a0))] [] M
  replace hq : RetOk Z X none False (PostV q) 0 0 := hq
  unfold f_X0_writeTruth at hf
  refine G.iconst 0 (0 : Int32) dX0_writeTruth_0 (by decide +kernel) ?_
  refine G.istore_n 1 [(1, .int (0 : Int32)), (0, .ref (zs Z + a0))] dX0_writeTruth_1 rfl (Nat.le_of_ble_eq_true rfl) rfl ?_
  refine G.locs [1, 0] rfl ?_
  exact l_X0_writeTruth_2 Z X hR hq FU a0 (0 : Int32) M hs k_a0 hf
abbrev Y_X0_writtenCount : My := (cX0_writtenCount, RX0, 3)
def rm_X0_writtenCount : Room := { frames := 1, cells := 0, slots := 0, locals := 200 }
theorem dX0_writtenCount_0 : decode cX0_writtenCount 0 = .ok (.iconst 0, 1) := by decide +kernel
theorem dX0_writtenCount_1 : decode cX0_writtenCount 1 = .ok (.istore_n 1, 1) := by decide +kernel
theorem dX0_writtenCount_2 : decode cX0_writtenCount 2 = .ok (.iconst 0, 1) := by decide +kernel
theorem dX0_writtenCount_3 : decode cX0_writtenCount 3 = .ok (.istore_n 2, 1) := by decide +kernel
theorem dX0_writtenCount_4 : decode cX0_writtenCount 4 = .ok (.iload_n 2, 1) := by decide +kernel
theorem dX0_writtenCount_5 : decode cX0_writtenCount 5 = .ok (.aload_n 0, 1) := by decide +kernel
theorem dX0_writtenCount_6 : decode cX0_writtenCount 6 = .ok (.getfield 53, 3) := by decide +kernel
theorem dX0_writtenCount_9 : decode cX0_writtenCount 9 = .ok (.if_icmp .ge 24, 3) := by decide +kernel
theorem dX0_writtenCount_12 : decode cX0_writtenCount 12 = .ok (.aload_n 0, 1) := by decide +kernel
theorem dX0_writtenCount_13 : decode cX0_writtenCount 13 = .ok (.getfield 13, 3) := by decide +kernel
theorem dX0_writtenCount_16 : decode cX0_writtenCount 16 = .ok (.iload_n 2, 1) := by decide +kernel
theorem dX0_writtenCount_17 : decode cX0_writtenCount 17 = .ok (.aaload, 1) := by decide +kernel
theorem dX0_writtenCount_18 : decode cX0_writtenCount 18 = .ok (.getfield 78, 3) := by decide +kernel
theorem dX0_writtenCount_21 : decode cX0_writtenCount 21 = .ok (.ifCond .ne 6, 3) := by decide +kernel
theorem dX0_writtenCount_24 : decode cX0_writtenCount 24 = .ok (.iinc 1 1, 3) := by decide +kernel
theorem dX0_writtenCount_27 : decode cX0_writtenCount 27 = .ok (.iinc 2 1, 3) := by decide +kernel
theorem dX0_writtenCount_30 : decode cX0_writtenCount 30 = .ok (.goto (-26), 3) := by decide +kernel
theorem dX0_writtenCount_33 : decode cX0_writtenCount 33 = .ok (.iload_n 1, 1) := by decide +kernel
theorem dX0_writtenCount_34 : decode cX0_writtenCount 34 = .ok (.ireturn, 1) := by decide +kernel
def B_X0_writtenCount_27 (rc_4 : Nat → Int32 → Int32 → Mem → Option Int32) (a0 : Nat) (x1 : Int32) (x2 : Int32) (M : Mem) : Option Int32 := rc_4 a0 x1 (x2 + 1) M
def L_X0_writtenCount_4 : Nat → Nat → Int32 → Int32 → Mem → Option Int32
  | 0, _, _, _, _ => none
  | n + 1, a0, x1, x2, M => if (mI M a0 1) ≤ x2 then some x1 else gd (inR x2 30) (if (mI M ((a0 + 1) + 23 + 2 * x2.toNatClampNeg) 9) = 0 then B_X0_writtenCount_27 (L_X0_writtenCount_4 n) a0 (x1 + 1) x2 M else B_X0_writtenCount_27 (L_X0_writtenCount_4 n) a0 x1 x2 M)
def f_X0_writtenCount (a0 : Nat) (M : Mem) : Option Int32 := L_X0_writtenCount_4 FU a0 (0 : Int32) (0 : Int32) M
set_option maxRecDepth 100000 in
set_option maxHeartbeats 4000000 in
theorem b_X0_writtenCount_27 (Z : Sys) (X : Cx) (hR : xR X = rm_X0_writtenCount) {q : Int32} {M : Mem} (hq : RetOk Z X (some .int) False (PostI q M) 0 0) (rc_4 : Nat → Int32 → Int32 → Mem → Option Int32) (hrc_4 : ∀ (a0 : Nat) (x1 : Int32) (x2 : Int32), St M → K0[a0]? = some (0, 12) → rc_4 a0 x1 x2 M = some q → G Z X Y_X0_writtenCount False 0 0 4 [(0, .ref (zs Z + a0)), (1, .int x1), (2, .int x2)] [] M) (a0 : Nat) (x1 : Int32) (x2 : Int32) (hs : St M) (k_a0 : K0[a0]? = some (0, 12)) (hf : B_X0_writtenCount_27 rc_4 a0 x1 x2 M = some q) : G Z X Y_X0_writtenCount False 0 0 27 [(0, .ref (zs Z + a0)), (1, .int x1), (2, .int x2)] [] M := by
  unfold B_X0_writtenCount_27 at hf
  refine G.iinc 27 2 (x2 + 1) [(2, .int (x2 + 1)), (0, .ref (zs Z + a0)), (1, .int x1)] dX0_writtenCount_27 rfl (congrArg (fun z => x2 + z) (by decide +kernel)) (Nat.le_of_ble_eq_true rfl) rfl ?_
  refine G.goto 30 4 dX0_writtenCount_30 (by decide) ?_
  refine G.locs [1, 2, 0] rfl ?_
  exact hrc_4 a0 x1 (x2 + 1) hs k_a0 hf
set_option maxRecDepth 100000 in
set_option maxHeartbeats 4000000 in
theorem l_X0_writtenCount_4 (Z : Sys) (X : Cx) (hR : xR X = rm_X0_writtenCount) {q : Int32} {M : Mem} (hq : RetOk Z X (some .int) False (PostI q M) 0 0) : ∀ (n : Nat) (a0 : Nat) (x1 : Int32) (x2 : Int32) (hs : St M) (k_a0 : K0[a0]? = some (0, 12)) (hf : L_X0_writtenCount_4 n a0 x1 x2 M = some q), G Z X Y_X0_writtenCount False 0 0 4 [(0, .ref (zs Z + a0)), (1, .int x1), (2, .int x2)] [] M := by
  intro n
  induction n with
  | zero => intro a0 x1 x2 hs k_a0 hf; cases hf
  | succ n ih =>
    intro a0 x1 x2 hs k_a0 hf
    unfold L_X0_writtenCount_4 at hf
    refine G.iload_n 4 2 dX0_writtenCount_4 rfl rfl ?_
    refine G.aload_n 5 0 dX0_writtenCount_5 rfl rfl ?_
    refine G.geti 6 ck_0 1 (hs.k k_a0) (by decide) (by decide +kernel) wd_261 dX0_writtenCount_6 ?_
    refine G.icmp_ge 9 33 dX0_writtenCount_9 (by decide) (fun h1 => ?_) (fun h1 => ?_)
    · replace hf := (if_pos h1).symm.trans hf
      refine G.iload_n 33 1 dX0_writtenCount_33 rfl rfl ?_
      (have hf9 := Option.some.inj hf; subst hf9)
      exact G.rI 34 hq dX0_writtenCount_34 hs
    · replace hf := (if_neg h1).symm.trans hf
      refine G.aload_n 12 0 dX0_writtenCount_12 rfl rfl ?_
      refine G.getp 13 ck_0 0 (a0 + 1) (hs.k k_a0) (pt_0_0 hs k_a0).1 (by decide) (by decide +kernel) wd_257 dX0_writtenCount_13 ?_
      refine G.iload_n 16 2 dX0_writtenCount_16 rfl rfl ?_
      obtain ⟨g2, hf⟩ := gd_e hf
      refine G.aa 17 x2.toNatClampNeg ((a0 + 1) + 23 + 2 * x2.toNatClampNeg) (hs.k (pt_0_0 hs k_a0).2) (by decide) rfl rfl g2 rfl (pa_13 hs (pt_0_0 hs k_a0).2 (inlt g2)).1 dX0_writtenCount_17 ?_
      refine G.geti 18 ck_1 9 (hs.k (pa_13 hs (pt_0_0 hs k_a0).2 (inlt g2)).2) (by decide) (by decide +kernel) wd_222 dX0_writtenCount_18 ?_
      refine G.if_ne 21 27 dX0_writtenCount_21 (by decide) (fun h3 => ?_) (fun h3 => ?_)
      · replace hf := (if_neg h3).symm.trans hf
        exact b_X0_writtenCount_27 Z X hR hq (L_X0_writtenCount_4 n) ih a0 x1 x2 hs k_a0 hf
      · replace hf := (if_pos h3).symm.trans hf
        refine G.iinc 24 1 (x1 + 1) [(1, .int (x1 + 1)), (0, .ref (zs Z + a0)), (2, .int x2)] dX0_writtenCount_24 rfl (congrArg (fun z => x1 + z) (by decide +kernel)) (Nat.le_of_ble_eq_true rfl) rfl ?_
        refine G.locs [1, 0, 2] rfl ?_
        exact b_X0_writtenCount_27 Z X hR hq (L_X0_writtenCount_4 n) ih a0 (x1 + 1) x2 hs k_a0 hf
set_option maxRecDepth 100000 in
set_option maxHeartbeats 4000000 in
theorem c_X0_writtenCount (Z : Sys) {M : Mem} (hs : St M) (a0 : Nat) (k_a0 : K0[a0]? = some (0, 12)) {q : Int32} (hf : f_X0_writtenCount a0 M = some q) : Ct Z yX0_writtenCount cX0_writtenCount 3 (some .int) rm_X0_writtenCount [.ref (zs Z + a0)] M False (PostI q M) := by
  refine Ct.of (by decide +kernel) (Nat.le_of_ble_eq_true rfl) (fun X hR hq _ => ?_)
  show G Z X Y_X0_writtenCount False 0 0 0 [(0, .ref (zs Z + a0))] [] M
  replace hq : RetOk Z X (some .int) False (PostI q M) 0 0 := hq
  unfold f_X0_writtenCount at hf
  refine G.iconst 0 (0 : Int32) dX0_writtenCount_0 (by decide +kernel) ?_
  refine G.istore_n 1 [(1, .int (0 : Int32)), (0, .ref (zs Z + a0))] dX0_writtenCount_1 rfl (Nat.le_of_ble_eq_true rfl) rfl ?_
  refine G.iconst 2 (0 : Int32) dX0_writtenCount_2 (by decide +kernel) ?_
  refine G.istore_n 3 [(2, .int (0 : Int32)), (1, .int (0 : Int32)), (0, .ref (zs Z + a0))] dX0_writtenCount_3 rfl (Nat.le_of_ble_eq_true rfl) rfl ?_
  refine G.locs [2, 1, 0] rfl ?_
  exact l_X0_writtenCount_4 Z X hR hq FU a0 (0 : Int32) (0 : Int32) hs k_a0 hf
abbrev Y_X5_toTen : My := (cX5_toTen, RX5, 1)
def rm_X5_toTen : Room := { frames := 1, cells := 0, slots := 0, locals := 200 }
theorem dX5_toTen_0 : decode cX5_toTen 0 = .ok (.iload_n 0, 1) := by decide +kernel
theorem dX5_toTen_1 : decode cX5_toTen 1 = .ok (.iconst 5, 1) := by decide +kernel
theorem dX5_toTen_2 : decode cX5_toTen 2 = .ok (.iadd, 1) := by decide +kernel
theorem dX5_toTen_3 : decode cX5_toTen 3 = .ok (.bipush 10, 2) := by decide +kernel
theorem dX5_toTen_5 : decode cX5_toTen 5 = .ok (.idiv, 1) := by decide +kernel
theorem dX5_toTen_6 : decode cX5_toTen 6 = .ok (.bipush 10, 2) := by decide +kernel
theorem dX5_toTen_8 : decode cX5_toTen 8 = .ok (.imul, 1) := by decide +kernel
theorem dX5_toTen_9 : decode cX5_toTen 9 = .ok (.ireturn, 1) := by decide +kernel
def f_X5_toTen (x0 : Int32) : Int32 := (((x0 + (5 : Int32)) / (10 : Int32)) * (10 : Int32))
set_option maxRecDepth 100000 in
set_option maxHeartbeats 4000000 in
theorem c_X5_toTen (Z : Sys) {M : Mem} (hs : St M) (x0 : Int32) {q : Int32} (hf : f_X5_toTen x0 = q) : Ct Z yX5_toTen cX5_toTen 1 (some .int) rm_X5_toTen [.int x0] M False (PostI q M) := by
  refine Ct.of (by decide +kernel) (Nat.le_of_ble_eq_true rfl) (fun X hR hq _ => ?_)
  show G Z X Y_X5_toTen False 0 0 0 [(0, .int x0)] [] M
  replace hq : RetOk Z X (some .int) False (PostI q M) 0 0 := hq
  unfold f_X5_toTen at hf
  refine G.iload_n 0 0 dX5_toTen_0 rfl rfl ?_
  refine G.iconst 1 (5 : Int32) dX5_toTen_1 (by decide +kernel) ?_
  refine G.iadd 2 dX5_toTen_2 ?_
  refine G.bipush 3 (10 : Int32) dX5_toTen_3 (by decide +kernel) ?_
  refine G.idiv 5 dX5_toTen_5 (by decide +kernel) ?_
  refine G.bipush 6 (10 : Int32) dX5_toTen_6 (by decide +kernel) ?_
  refine G.imul 8 dX5_toTen_8 ?_
  subst hf
  exact G.rI 9 hq dX5_toTen_9 hs
abbrev Y_X5_tellsCame : My := (cX5_tellsCame, RX5, 3)
def rm_X5_tellsCame : Room := { frames := 2, cells := 0, slots := 0, locals := 220 }
theorem dX5_tellsCame_0 : decode cX5_tellsCame 0 = .ok (.aload_n 0, 1) := by decide +kernel
theorem dX5_tellsCame_1 : decode cX5_tellsCame 1 = .ok (.getfield 9, 3) := by decide +kernel
theorem dX5_tellsCame_4 : decode cX5_tellsCame 4 = .ok (.tableswitch 54 2 6 #[36, 54, 45, 54, 52], 36) := by decide +kernel
theorem dX5_tellsCame_40 : decode cX5_tellsCame 40 = .ok (.iload_n 1, 1) := by decide +kernel
theorem dX5_tellsCame_41 : decode cX5_tellsCame 41 = .ok (.invokestatic 16, 3) := by decide +kernel
theorem dX5_tellsCame_44 : decode cX5_tellsCame 44 = .ok (.iload_n 2, 1) := by decide +kernel
theorem dX5_tellsCame_45 : decode cX5_tellsCame 45 = .ok (.invokestatic 20, 3) := by decide +kernel
theorem dX5_tellsCame_48 : decode cX5_tellsCame 48 = .ok (.ireturn, 1) := by decide +kernel
theorem dX5_tellsCame_49 : decode cX5_tellsCame 49 = .ok (.iload_n 1, 1) := by decide +kernel
theorem dX5_tellsCame_50 : decode cX5_tellsCame 50 = .ok (.aload_n 0, 1) := by decide +kernel
theorem dX5_tellsCame_51 : decode cX5_tellsCame 51 = .ok (.getfield 13, 3) := by decide +kernel
theorem dX5_tellsCame_54 : decode cX5_tellsCame 54 = .ok (.iadd, 1) := by decide +kernel
theorem dX5_tellsCame_55 : decode cX5_tellsCame 55 = .ok (.ireturn, 1) := by decide +kernel
theorem dX5_tellsCame_56 : decode cX5_tellsCame 56 = .ok (.iload_n 2, 1) := by decide +kernel
theorem dX5_tellsCame_57 : decode cX5_tellsCame 57 = .ok (.ireturn, 1) := by decide +kernel
theorem dX5_tellsCame_58 : decode cX5_tellsCame 58 = .ok (.iload_n 1, 1) := by decide +kernel
theorem dX5_tellsCame_59 : decode cX5_tellsCame 59 = .ok (.ireturn, 1) := by decide +kernel
def f_X5_tellsCame (a0 : Nat) (x1 : Int32) (x2 : Int32) (M : Mem) : Int32 := if (mI M a0 0) = (2 : Int32) then (jmin (f_X5_toTen x1) x2) else if (mI M a0 0) = (3 : Int32) then x1 else if (mI M a0 0) = (4 : Int32) then (x1 + (mI M a0 1)) else if (mI M a0 0) = (5 : Int32) then x1 else if (mI M a0 0) = (6 : Int32) then x2 else x1
set_option maxRecDepth 100000 in
set_option maxHeartbeats 4000000 in
theorem c_X5_tellsCame (Z : Sys) {M : Mem} (hs : St M) (a0 : Nat) (x1 : Int32) (x2 : Int32) (k_a0 : K0[a0]? = some (5, 2)) {q : Int32} (hf : f_X5_tellsCame a0 x1 x2 M = q) : Ct Z yX5_tellsCame cX5_tellsCame 3 (some .int) rm_X5_tellsCame [.ref (zs Z + a0), .int x1, .int x2] M False (PostI q M) := by
  refine Ct.of (by decide +kernel) (Nat.le_of_ble_eq_true rfl) (fun X hR hq _ => ?_)
  show G Z X Y_X5_tellsCame False 0 0 0 [(0, .ref (zs Z + a0)), (1, .int x1), (2, .int x2)] [] M
  replace hq : RetOk Z X (some .int) False (PostI q M) 0 0 := hq
  unfold f_X5_tellsCame at hf
  refine G.aload_n 0 0 dX5_tellsCame_0 rfl rfl ?_
  refine G.geti 1 ck_5 0 (hs.k k_a0) (by decide) (by decide +kernel) wd_174 dX5_tellsCame_1 ?_
  by_cases h1 : (mI M a0 0) = (2 : Int32)
  · replace hf := (if_pos h1).symm.trans hf
    refine G.tableIn 4 40 (off := 36) dX5_tellsCame_4 (by rw [h1]; decide +kernel) (by rw [h1]; decide +kernel) (by rw [h1]; decide +kernel) (by decide) ?_
    refine G.iload_n 40 1 dX5_tellsCame_40 rfl rfl ?_
    refine G.csI 41 (As := [.int x1]) (c_X5_toTen Z hs x1 rfl) mk_X5_toTen wd_473 wd_472 hR (by decide +kernel) ⟨rfl, rfl⟩ rfl (Nat.le_of_ble_eq_true rfl) dX5_tellsCame_41 (fun hs2 => ?_)
    refine G.iload_n 44 2 dX5_tellsCame_44 rfl rfl ?_
    refine G.mminJ 45 wd_475 wd_476 wd_87 wd_477 hR ⟨Nat.le_of_ble_eq_true rfl, Nat.le_of_ble_eq_true rfl, Nat.le_of_ble_eq_true rfl, Nat.le_of_ble_eq_true rfl⟩ dX5_tellsCame_45 ?_
    subst hf
    exact G.rI 48 hq dX5_tellsCame_48 hs2
  · replace hf := (if_neg h1).symm.trans hf
    by_cases h4 : (mI M a0 0) = (3 : Int32)
    · replace hf := (if_pos h4).symm.trans hf
      refine G.tableIn 4 58 (off := 54) dX5_tellsCame_4 (by rw [h4]; decide +kernel) (by rw [h4]; decide +kernel) (by rw [h4]; decide +kernel) (by decide) ?_
      refine G.iload_n 58 1 dX5_tellsCame_58 rfl rfl ?_
      subst hf
      exact G.rI 59 hq dX5_tellsCame_59 hs
    · replace hf := (if_neg h4).symm.trans hf
      by_cases h5 : (mI M a0 0) = (4 : Int32)
      · replace hf := (if_pos h5).symm.trans hf
        refine G.tableIn 4 49 (off := 45) dX5_tellsCame_4 (by rw [h5]; decide +kernel) (by rw [h5]; decide +kernel) (by rw [h5]; decide +kernel) (by decide) ?_
        refine G.iload_n 49 1 dX5_tellsCame_49 rfl rfl ?_
        refine G.aload_n 50 0 dX5_tellsCame_50 rfl rfl ?_
        refine G.geti 51 ck_5 1 (hs.k k_a0) (by decide) (by decide +kernel) wd_177 dX5_tellsCame_51 ?_
        refine G.iadd 54 dX5_tellsCame_54 ?_
        subst hf
        exact G.rI 55 hq dX5_tellsCame_55 hs
      · replace hf := (if_neg h5).symm.trans hf
        by_cases h6 : (mI M a0 0) = (5 : Int32)
        · replace hf := (if_pos h6).symm.trans hf
          refine G.tableIn 4 58 (off := 54) dX5_tellsCame_4 (by rw [h6]; decide +kernel) (by rw [h6]; decide +kernel) (by rw [h6]; decide +kernel) (by decide) ?_
          refine G.iload_n 58 1 dX5_tellsCame_58 rfl rfl ?_
          subst hf
          exact G.rI 59 hq dX5_tellsCame_59 hs
        · replace hf := (if_neg h6).symm.trans hf
          by_cases h7 : (mI M a0 0) = (6 : Int32)
          · replace hf := (if_pos h7).symm.trans hf
            refine G.tableIn 4 56 (off := 52) dX5_tellsCame_4 (by rw [h7]; decide +kernel) (by rw [h7]; decide +kernel) (by rw [h7]; decide +kernel) (by decide) ?_
            refine G.iload_n 56 2 dX5_tellsCame_56 rfl rfl ?_
            subst hf
            exact G.rI 57 hq dX5_tellsCame_57 hs
          · replace hf := (if_neg h7).symm.trans hf
            have t_h1 := ti (2 : Int32) (2) (by decide +kernel) h1
            have t_h4 := ti (3 : Int32) (3) (by decide +kernel) h4
            have t_h5 := ti (4 : Int32) (4) (by decide +kernel) h5
            have t_h6 := ti (5 : Int32) (5) (by decide +kernel) h6
            have t_h7 := ti (6 : Int32) (6) (by decide +kernel) h7
            refine G.tableOut 4 58 dX5_tellsCame_4 (by omega) (by decide) ?_
            refine G.iload_n 58 1 dX5_tellsCame_58 rfl rfl ?_
            subst hf
            exact G.rI 59 hq dX5_tellsCame_59 hs
abbrev Y_X1_toldCame : My := (cX1_toldCame, RX1, 1)
def rm_X1_toldCame : Room := { frames := 3, cells := 0, slots := 0, locals := 242 }
theorem dX1_toldCame_0 : decode cX1_toldCame 0 = .ok (.aload_n 0, 1) := by decide +kernel
theorem dX1_toldCame_1 : decode cX1_toldCame 1 = .ok (.getfield 12, 3) := by decide +kernel
theorem dX1_toldCame_4 : decode cX1_toldCame 4 = .ok (.aload_n 0, 1) := by decide +kernel
theorem dX1_toldCame_5 : decode cX1_toldCame 5 = .ok (.getfield 34, 3) := by decide +kernel
theorem dX1_toldCame_8 : decode cX1_toldCame 8 = .ok (.aload_n 0, 1) := by decide +kernel
theorem dX1_toldCame_9 : decode cX1_toldCame 9 = .ok (.getfield 18, 3) := by decide +kernel
theorem dX1_toldCame_12 : decode cX1_toldCame 12 = .ok (.invokevirtual 63, 3) := by decide +kernel
theorem dX1_toldCame_15 : decode cX1_toldCame 15 = .ok (.ireturn, 1) := by decide +kernel
def f_X1_toldCame (a0 : Nat) (M : Mem) : Int32 := (f_X5_tellsCame (a0 + 1) (mI M a0 6) (mI M a0 1) M)
set_option maxRecDepth 100000 in
set_option maxHeartbeats 4000000 in
theorem c_X1_toldCame (Z : Sys) {M : Mem} (hs : St M) (a0 : Nat) (k_a0 : K0[a0]? = some (1, 12)) {q : Int32} (hf : f_X1_toldCame a0 M = q) : Ct Z yX1_toldCame cX1_toldCame 1 (some .int) rm_X1_toldCame [.ref (zs Z + a0)] M False (PostI q M) := by
  refine Ct.of (by decide +kernel) (Nat.le_of_ble_eq_true rfl) (fun X hR hq _ => ?_)
  show G Z X Y_X1_toldCame False 0 0 0 [(0, .ref (zs Z + a0))] [] M
  replace hq : RetOk Z X (some .int) False (PostI q M) 0 0 := hq
  unfold f_X1_toldCame at hf
  refine G.aload_n 0 0 dX1_toldCame_0 rfl rfl ?_
  refine G.getp 1 ck_1 0 (a0 + 1) (hs.k k_a0) (pt_1_0 hs k_a0).1 (by decide) (by decide +kernel) wd_186 dX1_toldCame_1 ?_
  refine G.aload_n 4 0 dX1_toldCame_4 rfl rfl ?_
  refine G.geti 5 ck_1 6 (hs.k k_a0) (by decide) (by decide +kernel) wd_207 dX1_toldCame_5 ?_
  refine G.aload_n 8 0 dX1_toldCame_8 rfl rfl ?_
  refine G.geti 9 ck_1 1 (hs.k k_a0) (by decide) (by decide +kernel) wd_189 dX1_toldCame_9 ?_
  refine G.cvI 12 (As := [.int (mI M a0 6), .int (mI M a0 1)]) ck_5 (hs.k (pt_1_0 hs k_a0).2) (c_X5_tellsCame Z hs (a0 + 1) (mI M a0 6) (mI M a0 1) (pt_1_0 hs k_a0).2 rfl) mk_X5_tellsCame vk_X5_tellsCame rfl wd_468 hR (by decide +kernel) ⟨rfl, rfl⟩ rfl (Nat.le_of_ble_eq_true rfl) dX1_toldCame_12 (fun hs1 => ?_)
  subst hf
  exact G.rI 15 hq dX1_toldCame_15 hs1
abbrev Y_X5_madeOurs : My := (cX5_madeOurs, RX5, 5)
def rm_X5_madeOurs : Room := { frames := 1, cells := 0, slots := 0, locals := 200 }
theorem dX5_madeOurs_0 : decode cX5_madeOurs 0 = .ok (.iload_n 1, 1) := by decide +kernel
theorem dX5_madeOurs_1 : decode cX5_madeOurs 1 = .ok (.aload_n 0, 1) := by decide +kernel
theorem dX5_madeOurs_2 : decode cX5_madeOurs 2 = .ok (.getfield 13, 3) := by decide +kernel
theorem dX5_madeOurs_5 : decode cX5_madeOurs 5 = .ok (.imul, 1) := by decide +kernel
theorem dX5_madeOurs_6 : decode cX5_madeOurs 6 = .ok (.bipush 100, 2) := by decide +kernel
theorem dX5_madeOurs_8 : decode cX5_madeOurs 8 = .ok (.idiv, 1) := by decide +kernel
theorem dX5_madeOurs_9 : decode cX5_madeOurs 9 = .ok (.iload_n 1, 1) := by decide +kernel
theorem dX5_madeOurs_10 : decode cX5_madeOurs 10 = .ok (.invokestatic 20, 3) := by decide +kernel
theorem dX5_madeOurs_13 : decode cX5_madeOurs 13 = .ok (.istore_n 3, 1) := by decide +kernel
theorem dX5_madeOurs_14 : decode cX5_madeOurs 14 = .ok (.iload_n 3, 1) := by decide +kernel
theorem dX5_madeOurs_15 : decode cX5_madeOurs 15 = .ok (.bipush 10, 2) := by decide +kernel
theorem dX5_madeOurs_17 : decode cX5_madeOurs 17 = .ok (.idiv, 1) := by decide +kernel
theorem dX5_madeOurs_18 : decode cX5_madeOurs 18 = .ok (.bipush 10, 2) := by decide +kernel
theorem dX5_madeOurs_20 : decode cX5_madeOurs 20 = .ok (.imul, 1) := by decide +kernel
theorem dX5_madeOurs_21 : decode cX5_madeOurs 21 = .ok (.iload_n 2, 1) := by decide +kernel
theorem dX5_madeOurs_22 : decode cX5_madeOurs 22 = .ok (.iadd, 1) := by decide +kernel
theorem dX5_madeOurs_23 : decode cX5_madeOurs 23 = .ok (.istore 4, 2) := by decide +kernel
theorem dX5_madeOurs_25 : decode cX5_madeOurs 25 = .ok (.iload 4, 2) := by decide +kernel
theorem dX5_madeOurs_27 : decode cX5_madeOurs 27 = .ok (.iload_n 1, 1) := by decide +kernel
theorem dX5_madeOurs_28 : decode cX5_madeOurs 28 = .ok (.if_icmp .le 7, 3) := by decide +kernel
theorem dX5_madeOurs_31 : decode cX5_madeOurs 31 = .ok (.iload_n 3, 1) := by decide +kernel
theorem dX5_madeOurs_32 : decode cX5_madeOurs 32 = .ok (.goto 5, 3) := by decide +kernel
theorem dX5_madeOurs_35 : decode cX5_madeOurs 35 = .ok (.iload 4, 2) := by decide +kernel
theorem dX5_madeOurs_37 : decode cX5_madeOurs 37 = .ok (.ireturn, 1) := by decide +kernel
def f_X5_madeOurs (a0 : Nat) (x1 : Int32) (x2 : Int32) (M : Mem) : Int32 := if ((((jmin ((x1 * (mI M a0 1)) / (100 : Int32)) x1) / (10 : Int32)) * (10 : Int32)) + x2) ≤ x1 then ((((jmin ((x1 * (mI M a0 1)) / (100 : Int32)) x1) / (10 : Int32)) * (10 : Int32)) + x2) else (jmin ((x1 * (mI M a0 1)) / (100 : Int32)) x1)
set_option maxRecDepth 100000 in
set_option maxHeartbeats 4000000 in
theorem c_X5_madeOurs (Z : Sys) {M : Mem} (hs : St M) (a0 : Nat) (x1 : Int32) (x2 : Int32) (k_a0 : K0[a0]? = some (5, 2)) {q : Int32} (hf : f_X5_madeOurs a0 x1 x2 M = q) : Ct Z yX5_madeOurs cX5_madeOurs 5 (some .int) rm_X5_madeOurs [.ref (zs Z + a0), .int x1, .int x2] M False (PostI q M) := by
  refine Ct.of (by decide +kernel) (Nat.le_of_ble_eq_true rfl) (fun X hR hq _ => ?_)
  show G Z X Y_X5_madeOurs False 0 0 0 [(0, .ref (zs Z + a0)), (1, .int x1), (2, .int x2)] [] M
  replace hq : RetOk Z X (some .int) False (PostI q M) 0 0 := hq
  unfold f_X5_madeOurs at hf
  refine G.iload_n 0 1 dX5_madeOurs_0 rfl rfl ?_
  refine G.aload_n 1 0 dX5_madeOurs_1 rfl rfl ?_
  refine G.geti 2 ck_5 1 (hs.k k_a0) (by decide) (by decide +kernel) wd_177 dX5_madeOurs_2 ?_
  refine G.imul 5 dX5_madeOurs_5 ?_
  refine G.bipush 6 (100 : Int32) dX5_madeOurs_6 (by decide +kernel) ?_
  refine G.idiv 8 dX5_madeOurs_8 (by decide +kernel) ?_
  refine G.iload_n 9 1 dX5_madeOurs_9 rfl rfl ?_
  refine G.mminJ 10 wd_475 wd_476 wd_87 wd_477 hR ⟨Nat.le_of_ble_eq_true rfl, Nat.le_of_ble_eq_true rfl, Nat.le_of_ble_eq_true rfl, Nat.le_of_ble_eq_true rfl⟩ dX5_madeOurs_10 ?_
  refine G.istore_n 13 [(3, .int (jmin ((x1 * (mI M a0 1)) / (100 : Int32)) x1)), (0, .ref (zs Z + a0)), (1, .int x1), (2, .int x2)] dX5_madeOurs_13 rfl (Nat.le_of_ble_eq_true rfl) rfl ?_
  refine G.iload_n 14 0 dX5_madeOurs_14 rfl rfl ?_
  refine G.bipush 15 (10 : Int32) dX5_madeOurs_15 (by decide +kernel) ?_
  refine G.idiv 17 dX5_madeOurs_17 (by decide +kernel) ?_
  refine G.bipush 18 (10 : Int32) dX5_madeOurs_18 (by decide +kernel) ?_
  refine G.imul 20 dX5_madeOurs_20 ?_
  refine G.iload_n 21 3 dX5_madeOurs_21 rfl rfl ?_
  refine G.iadd 22 dX5_madeOurs_22 ?_
  refine G.istore 23 [(4, .int ((((jmin ((x1 * (mI M a0 1)) / (100 : Int32)) x1) / (10 : Int32)) * (10 : Int32)) + x2)), (3, .int (jmin ((x1 * (mI M a0 1)) / (100 : Int32)) x1)), (0, .ref (zs Z + a0)), (1, .int x1), (2, .int x2)] dX5_madeOurs_23 (Nat.le_of_ble_eq_true rfl) rfl ?_
  refine G.iload 25 0 dX5_madeOurs_25 rfl ?_
  refine G.iload_n 27 3 dX5_madeOurs_27 rfl rfl ?_
  refine G.icmp_le 28 35 dX5_madeOurs_28 (by decide) (fun h1 => ?_) (fun h1 => ?_)
  · replace hf := (if_pos h1).symm.trans hf
    refine G.iload 35 0 dX5_madeOurs_35 rfl ?_
    subst hf
    exact G.rI 37 hq dX5_madeOurs_37 hs
  · replace hf := (if_neg h1).symm.trans hf
    refine G.iload_n 31 1 dX5_madeOurs_31 rfl rfl ?_
    refine G.goto 32 37 dX5_madeOurs_32 (by decide) ?_
    subst hf
    exact G.rI 37 hq dX5_madeOurs_37 hs
abbrev Y_X5_copiedOurs : My := (cX5_copiedOurs, RX5, 3)
def rm_X5_copiedOurs : Room := { frames := 1, cells := 0, slots := 0, locals := 200 }
theorem dX5_copiedOurs_0 : decode cX5_copiedOurs 0 = .ok (.iload_n 1, 1) := by decide +kernel
theorem dX5_copiedOurs_1 : decode cX5_copiedOurs 1 = .ok (.bipush 100, 2) := by decide +kernel
theorem dX5_copiedOurs_3 : decode cX5_copiedOurs 3 = .ok (.idiv, 1) := by decide +kernel
theorem dX5_copiedOurs_4 : decode cX5_copiedOurs 4 = .ok (.bipush 100, 2) := by decide +kernel
theorem dX5_copiedOurs_6 : decode cX5_copiedOurs 6 = .ok (.imul, 1) := by decide +kernel
theorem dX5_copiedOurs_7 : decode cX5_copiedOurs 7 = .ok (.iload_n 1, 1) := by decide +kernel
theorem dX5_copiedOurs_8 : decode cX5_copiedOurs 8 = .ok (.bipush 10, 2) := by decide +kernel
theorem dX5_copiedOurs_10 : decode cX5_copiedOurs 10 = .ok (.irem, 1) := by decide +kernel
theorem dX5_copiedOurs_11 : decode cX5_copiedOurs 11 = .ok (.bipush 10, 2) := by decide +kernel
theorem dX5_copiedOurs_13 : decode cX5_copiedOurs 13 = .ok (.imul, 1) := by decide +kernel
theorem dX5_copiedOurs_14 : decode cX5_copiedOurs 14 = .ok (.iadd, 1) := by decide +kernel
theorem dX5_copiedOurs_15 : decode cX5_copiedOurs 15 = .ok (.iload_n 1, 1) := by decide +kernel
theorem dX5_copiedOurs_16 : decode cX5_copiedOurs 16 = .ok (.bipush 10, 2) := by decide +kernel
theorem dX5_copiedOurs_18 : decode cX5_copiedOurs 18 = .ok (.idiv, 1) := by decide +kernel
theorem dX5_copiedOurs_19 : decode cX5_copiedOurs 19 = .ok (.bipush 10, 2) := by decide +kernel
theorem dX5_copiedOurs_21 : decode cX5_copiedOurs 21 = .ok (.irem, 1) := by decide +kernel
theorem dX5_copiedOurs_22 : decode cX5_copiedOurs 22 = .ok (.iadd, 1) := by decide +kernel
theorem dX5_copiedOurs_23 : decode cX5_copiedOurs 23 = .ok (.istore_n 2, 1) := by decide +kernel
theorem dX5_copiedOurs_24 : decode cX5_copiedOurs 24 = .ok (.iload_n 2, 1) := by decide +kernel
theorem dX5_copiedOurs_25 : decode cX5_copiedOurs 25 = .ok (.iload_n 0, 1) := by decide +kernel
theorem dX5_copiedOurs_26 : decode cX5_copiedOurs 26 = .ok (.if_icmp .le 7, 3) := by decide +kernel
theorem dX5_copiedOurs_29 : decode cX5_copiedOurs 29 = .ok (.iload_n 1, 1) := by decide +kernel
theorem dX5_copiedOurs_30 : decode cX5_copiedOurs 30 = .ok (.goto 4, 3) := by decide +kernel
theorem dX5_copiedOurs_33 : decode cX5_copiedOurs 33 = .ok (.iload_n 2, 1) := by decide +kernel
theorem dX5_copiedOurs_34 : decode cX5_copiedOurs 34 = .ok (.ireturn, 1) := by decide +kernel
def f_X5_copiedOurs (x0 : Int32) (x1 : Int32) : Int32 := if ((((x1 / (100 : Int32)) * (100 : Int32)) + ((jrem x1 (10 : Int32)) * (10 : Int32))) + (jrem (x1 / (10 : Int32)) (10 : Int32))) ≤ x0 then ((((x1 / (100 : Int32)) * (100 : Int32)) + ((jrem x1 (10 : Int32)) * (10 : Int32))) + (jrem (x1 / (10 : Int32)) (10 : Int32))) else x1
set_option maxRecDepth 100000 in
set_option maxHeartbeats 4000000 in
theorem c_X5_copiedOurs (Z : Sys) {M : Mem} (hs : St M) (x0 : Int32) (x1 : Int32) {q : Int32} (hf : f_X5_copiedOurs x0 x1 = q) : Ct Z yX5_copiedOurs cX5_copiedOurs 3 (some .int) rm_X5_copiedOurs [.int x0, .int x1] M False (PostI q M) := by
  refine Ct.of (by decide +kernel) (Nat.le_of_ble_eq_true rfl) (fun X hR hq _ => ?_)
  show G Z X Y_X5_copiedOurs False 0 0 0 [(0, .int x0), (1, .int x1)] [] M
  replace hq : RetOk Z X (some .int) False (PostI q M) 0 0 := hq
  unfold f_X5_copiedOurs at hf
  refine G.iload_n 0 1 dX5_copiedOurs_0 rfl rfl ?_
  refine G.bipush 1 (100 : Int32) dX5_copiedOurs_1 (by decide +kernel) ?_
  refine G.idiv 3 dX5_copiedOurs_3 (by decide +kernel) ?_
  refine G.bipush 4 (100 : Int32) dX5_copiedOurs_4 (by decide +kernel) ?_
  refine G.imul 6 dX5_copiedOurs_6 ?_
  refine G.iload_n 7 1 dX5_copiedOurs_7 rfl rfl ?_
  refine G.bipush 8 (10 : Int32) dX5_copiedOurs_8 (by decide +kernel) ?_
  refine G.iremJ 10 dX5_copiedOurs_10 (by decide +kernel) ?_
  refine G.bipush 11 (10 : Int32) dX5_copiedOurs_11 (by decide +kernel) ?_
  refine G.imul 13 dX5_copiedOurs_13 ?_
  refine G.iadd 14 dX5_copiedOurs_14 ?_
  refine G.iload_n 15 1 dX5_copiedOurs_15 rfl rfl ?_
  refine G.bipush 16 (10 : Int32) dX5_copiedOurs_16 (by decide +kernel) ?_
  refine G.idiv 18 dX5_copiedOurs_18 (by decide +kernel) ?_
  refine G.bipush 19 (10 : Int32) dX5_copiedOurs_19 (by decide +kernel) ?_
  refine G.iremJ 21 dX5_copiedOurs_21 (by decide +kernel) ?_
  refine G.iadd 22 dX5_copiedOurs_22 ?_
  refine G.istore_n 23 [(2, .int ((((x1 / (100 : Int32)) * (100 : Int32)) + ((jrem x1 (10 : Int32)) * (10 : Int32))) + (jrem (x1 / (10 : Int32)) (10 : Int32)))), (0, .int x0), (1, .int x1)] dX5_copiedOurs_23 rfl (Nat.le_of_ble_eq_true rfl) rfl ?_
  refine G.iload_n 24 0 dX5_copiedOurs_24 rfl rfl ?_
  refine G.iload_n 25 1 dX5_copiedOurs_25 rfl rfl ?_
  refine G.icmp_le 26 33 dX5_copiedOurs_26 (by decide) (fun h1 => ?_) (fun h1 => ?_)
  · replace hf := (if_pos h1).symm.trans hf
    refine G.iload_n 33 0 dX5_copiedOurs_33 rfl rfl ?_
    subst hf
    exact G.rI 34 hq dX5_copiedOurs_34 hs
  · replace hf := (if_neg h1).symm.trans hf
    refine G.iload_n 29 2 dX5_copiedOurs_29 rfl rfl ?_
    refine G.goto 30 34 dX5_copiedOurs_30 (by decide) ?_
    subst hf
    exact G.rI 34 hq dX5_copiedOurs_34 hs
abbrev Y_X5_tellsOurs : My := (cX5_tellsOurs, RX5, 5)
def rm_X5_tellsOurs : Room := { frames := 3, cells := 0, slots := 0, locals := 242 }
theorem dX5_tellsOurs_0 : decode cX5_tellsOurs 0 = .ok (.aload_n 0, 1) := by decide +kernel
theorem dX5_tellsOurs_1 : decode cX5_tellsOurs 1 = .ok (.getfield 9, 3) := by decide +kernel
theorem dX5_tellsOurs_4 : decode cX5_tellsOurs 4 = .ok (.tableswitch 88 2 7 #[40, 54, 62, 69, 80, 82], 40) := by decide +kernel
theorem dX5_tellsOurs_44 : decode cX5_tellsOurs 44 = .ok (.iload_n 2, 1) := by decide +kernel
theorem dX5_tellsOurs_45 : decode cX5_tellsOurs 45 = .ok (.invokestatic 16, 3) := by decide +kernel
theorem dX5_tellsOurs_48 : decode cX5_tellsOurs 48 = .ok (.aload_n 0, 1) := by decide +kernel
theorem dX5_tellsOurs_49 : decode cX5_tellsOurs 49 = .ok (.iload_n 1, 1) := by decide +kernel
theorem dX5_tellsOurs_50 : decode cX5_tellsOurs 50 = .ok (.iload_n 3, 1) := by decide +kernel
theorem dX5_tellsOurs_51 : decode cX5_tellsOurs 51 = .ok (.invokevirtual 26, 3) := by decide +kernel
theorem dX5_tellsOurs_54 : decode cX5_tellsOurs 54 = .ok (.invokestatic 20, 3) := by decide +kernel
theorem dX5_tellsOurs_57 : decode cX5_tellsOurs 57 = .ok (.ireturn, 1) := by decide +kernel
theorem dX5_tellsOurs_58 : decode cX5_tellsOurs 58 = .ok (.aload_n 0, 1) := by decide +kernel
theorem dX5_tellsOurs_59 : decode cX5_tellsOurs 59 = .ok (.iload_n 1, 1) := by decide +kernel
theorem dX5_tellsOurs_60 : decode cX5_tellsOurs 60 = .ok (.iload 4, 2) := by decide +kernel
theorem dX5_tellsOurs_62 : decode cX5_tellsOurs 62 = .ok (.invokevirtual 29, 3) := by decide +kernel
theorem dX5_tellsOurs_65 : decode cX5_tellsOurs 65 = .ok (.ireturn, 1) := by decide +kernel
theorem dX5_tellsOurs_66 : decode cX5_tellsOurs 66 = .ok (.iload_n 2, 1) := by decide +kernel
theorem dX5_tellsOurs_67 : decode cX5_tellsOurs 67 = .ok (.aload_n 0, 1) := by decide +kernel
theorem dX5_tellsOurs_68 : decode cX5_tellsOurs 68 = .ok (.getfield 13, 3) := by decide +kernel
theorem dX5_tellsOurs_71 : decode cX5_tellsOurs 71 = .ok (.iadd, 1) := by decide +kernel
theorem dX5_tellsOurs_72 : decode cX5_tellsOurs 72 = .ok (.ireturn, 1) := by decide +kernel
theorem dX5_tellsOurs_73 : decode cX5_tellsOurs 73 = .ok (.iload_n 2, 1) := by decide +kernel
theorem dX5_tellsOurs_74 : decode cX5_tellsOurs 74 = .ok (.aload_n 0, 1) := by decide +kernel
theorem dX5_tellsOurs_75 : decode cX5_tellsOurs 75 = .ok (.getfield 13, 3) := by decide +kernel
theorem dX5_tellsOurs_78 : decode cX5_tellsOurs 78 = .ok (.iadd, 1) := by decide +kernel
theorem dX5_tellsOurs_79 : decode cX5_tellsOurs 79 = .ok (.iload_n 1, 1) := by decide +kernel
theorem dX5_tellsOurs_80 : decode cX5_tellsOurs 80 = .ok (.invokestatic 20, 3) := by decide +kernel
theorem dX5_tellsOurs_83 : decode cX5_tellsOurs 83 = .ok (.ireturn, 1) := by decide +kernel
theorem dX5_tellsOurs_84 : decode cX5_tellsOurs 84 = .ok (.iload_n 3, 1) := by decide +kernel
theorem dX5_tellsOurs_85 : decode cX5_tellsOurs 85 = .ok (.ireturn, 1) := by decide +kernel
theorem dX5_tellsOurs_86 : decode cX5_tellsOurs 86 = .ok (.iload_n 1, 1) := by decide +kernel
theorem dX5_tellsOurs_87 : decode cX5_tellsOurs 87 = .ok (.iload_n 2, 1) := by decide +kernel
theorem dX5_tellsOurs_88 : decode cX5_tellsOurs 88 = .ok (.invokestatic 32, 3) := by decide +kernel
theorem dX5_tellsOurs_91 : decode cX5_tellsOurs 91 = .ok (.ireturn, 1) := by decide +kernel
theorem dX5_tellsOurs_92 : decode cX5_tellsOurs 92 = .ok (.iload_n 2, 1) := by decide +kernel
theorem dX5_tellsOurs_93 : decode cX5_tellsOurs 93 = .ok (.ireturn, 1) := by decide +kernel
def f_X5_tellsOurs (a0 : Nat) (x1 : Int32) (x2 : Int32) (x3 : Int32) (x4 : Int32) (M : Mem) : Int32 := if (mI M a0 0) = (2 : Int32) then (jmin (f_X5_toTen x2) (f_X5_tellsCame a0 x1 x3 M)) else if (mI M a0 0) = (3 : Int32) then (f_X5_madeOurs a0 x1 x4 M) else if (mI M a0 0) = (4 : Int32) then (x2 + (mI M a0 1)) else if (mI M a0 0) = (5 : Int32) then (jmin (x2 + (mI M a0 1)) x1) else if (mI M a0 0) = (6 : Int32) then x3 else if (mI M a0 0) = (7 : Int32) then (f_X5_copiedOurs x1 x2) else x2
set_option maxRecDepth 100000 in
set_option maxHeartbeats 4000000 in
theorem c_X5_tellsOurs (Z : Sys) {M : Mem} (hs : St M) (a0 : Nat) (x1 : Int32) (x2 : Int32) (x3 : Int32) (x4 : Int32) (k_a0 : K0[a0]? = some (5, 2)) {q : Int32} (hf : f_X5_tellsOurs a0 x1 x2 x3 x4 M = q) : Ct Z yX5_tellsOurs cX5_tellsOurs 5 (some .int) rm_X5_tellsOurs [.ref (zs Z + a0), .int x1, .int x2, .int x3, .int x4] M False (PostI q M) := by
  refine Ct.of (by decide +kernel) (Nat.le_of_ble_eq_true rfl) (fun X hR hq _ => ?_)
  show G Z X Y_X5_tellsOurs False 0 0 0 [(0, .ref (zs Z + a0)), (1, .int x1), (2, .int x2), (3, .int x3), (4, .int x4)] [] M
  replace hq : RetOk Z X (some .int) False (PostI q M) 0 0 := hq
  unfold f_X5_tellsOurs at hf
  refine G.aload_n 0 0 dX5_tellsOurs_0 rfl rfl ?_
  refine G.geti 1 ck_5 0 (hs.k k_a0) (by decide) (by decide +kernel) wd_174 dX5_tellsOurs_1 ?_
  by_cases h1 : (mI M a0 0) = (2 : Int32)
  · replace hf := (if_pos h1).symm.trans hf
    refine G.tableIn 4 44 (off := 40) dX5_tellsOurs_4 (by rw [h1]; decide +kernel) (by rw [h1]; decide +kernel) (by rw [h1]; decide +kernel) (by decide) ?_
    refine G.iload_n 44 2 dX5_tellsOurs_44 rfl rfl ?_
    refine G.csI 45 (As := [.int x2]) (c_X5_toTen Z hs x2 rfl) mk_X5_toTen wd_473 wd_472 hR (by decide +kernel) ⟨rfl, rfl⟩ rfl (Nat.le_of_ble_eq_true rfl) dX5_tellsOurs_45 (fun hs2 => ?_)
    refine G.aload_n 48 0 dX5_tellsOurs_48 rfl rfl ?_
    refine G.iload_n 49 1 dX5_tellsOurs_49 rfl rfl ?_
    refine G.iload_n 50 3 dX5_tellsOurs_50 rfl rfl ?_
    refine G.cvI 51 (As := [.int x1, .int x3]) ck_5 (hs2.k k_a0) (c_X5_tellsCame Z hs2 a0 x1 x3 k_a0 rfl) mk_X5_tellsCame vk_X5_tellsCame rfl wd_486 hR (by decide +kernel) ⟨rfl, rfl⟩ rfl (Nat.le_of_ble_eq_true rfl) dX5_tellsOurs_51 (fun hs4 => ?_)
    refine G.mminJ 54 wd_475 wd_476 wd_87 wd_477 hR ⟨Nat.le_of_ble_eq_true rfl, Nat.le_of_ble_eq_true rfl, Nat.le_of_ble_eq_true rfl, Nat.le_of_ble_eq_true rfl⟩ dX5_tellsOurs_54 ?_
    subst hf
    exact G.rI 57 hq dX5_tellsOurs_57 hs4
  · replace hf := (if_neg h1).symm.trans hf
    by_cases h6 : (mI M a0 0) = (3 : Int32)
    · replace hf := (if_pos h6).symm.trans hf
      refine G.tableIn 4 58 (off := 54) dX5_tellsOurs_4 (by rw [h6]; decide +kernel) (by rw [h6]; decide +kernel) (by rw [h6]; decide +kernel) (by decide) ?_
      refine G.aload_n 58 0 dX5_tellsOurs_58 rfl rfl ?_
      refine G.iload_n 59 1 dX5_tellsOurs_59 rfl rfl ?_
      refine G.iload 60 4 dX5_tellsOurs_60 rfl ?_
      refine G.cvI 62 (As := [.int x1, .int x4]) ck_5 (hs.k k_a0) (c_X5_madeOurs Z hs a0 x1 x4 k_a0 rfl) mk_X5_madeOurs vk_X5_madeOurs rfl wd_487 hR (by decide +kernel) ⟨rfl, rfl⟩ rfl (Nat.le_of_ble_eq_true rfl) dX5_tellsOurs_62 (fun hs7 => ?_)
      subst hf
      exact G.rI 65 hq dX5_tellsOurs_65 hs7
    · replace hf := (if_neg h6).symm.trans hf
      by_cases h9 : (mI M a0 0) = (4 : Int32)
      · replace hf := (if_pos h9).symm.trans hf
        refine G.tableIn 4 66 (off := 62) dX5_tellsOurs_4 (by rw [h9]; decide +kernel) (by rw [h9]; decide +kernel) (by rw [h9]; decide +kernel) (by decide) ?_
        refine G.iload_n 66 2 dX5_tellsOurs_66 rfl rfl ?_
        refine G.aload_n 67 0 dX5_tellsOurs_67 rfl rfl ?_
        refine G.geti 68 ck_5 1 (hs.k k_a0) (by decide) (by decide +kernel) wd_177 dX5_tellsOurs_68 ?_
        refine G.iadd 71 dX5_tellsOurs_71 ?_
        subst hf
        exact G.rI 72 hq dX5_tellsOurs_72 hs
      · replace hf := (if_neg h9).symm.trans hf
        by_cases h10 : (mI M a0 0) = (5 : Int32)
        · replace hf := (if_pos h10).symm.trans hf
          refine G.tableIn 4 73 (off := 69) dX5_tellsOurs_4 (by rw [h10]; decide +kernel) (by rw [h10]; decide +kernel) (by rw [h10]; decide +kernel) (by decide) ?_
          refine G.iload_n 73 2 dX5_tellsOurs_73 rfl rfl ?_
          refine G.aload_n 74 0 dX5_tellsOurs_74 rfl rfl ?_
          refine G.geti 75 ck_5 1 (hs.k k_a0) (by decide) (by decide +kernel) wd_177 dX5_tellsOurs_75 ?_
          refine G.iadd 78 dX5_tellsOurs_78 ?_
          refine G.iload_n 79 1 dX5_tellsOurs_79 rfl rfl ?_
          refine G.mminJ 80 wd_475 wd_476 wd_87 wd_477 hR ⟨Nat.le_of_ble_eq_true rfl, Nat.le_of_ble_eq_true rfl, Nat.le_of_ble_eq_true rfl, Nat.le_of_ble_eq_true rfl⟩ dX5_tellsOurs_80 ?_
          subst hf
          exact G.rI 83 hq dX5_tellsOurs_83 hs
        · replace hf := (if_neg h10).symm.trans hf
          by_cases h11 : (mI M a0 0) = (6 : Int32)
          · replace hf := (if_pos h11).symm.trans hf
            refine G.tableIn 4 84 (off := 80) dX5_tellsOurs_4 (by rw [h11]; decide +kernel) (by rw [h11]; decide +kernel) (by rw [h11]; decide +kernel) (by decide) ?_
            refine G.iload_n 84 3 dX5_tellsOurs_84 rfl rfl ?_
            subst hf
            exact G.rI 85 hq dX5_tellsOurs_85 hs
          · replace hf := (if_neg h11).symm.trans hf
            by_cases h12 : (mI M a0 0) = (7 : Int32)
            · replace hf := (if_pos h12).symm.trans hf
              refine G.tableIn 4 86 (off := 82) dX5_tellsOurs_4 (by rw [h12]; decide +kernel) (by rw [h12]; decide +kernel) (by rw [h12]; decide +kernel) (by decide) ?_
              refine G.iload_n 86 1 dX5_tellsOurs_86 rfl rfl ?_
              refine G.iload_n 87 2 dX5_tellsOurs_87 rfl rfl ?_
              refine G.csI 88 (As := [.int x1, .int x2]) (c_X5_copiedOurs Z hs x1 x2 rfl) mk_X5_copiedOurs wd_492 wd_491 hR (by decide +kernel) ⟨rfl, rfl⟩ rfl (Nat.le_of_ble_eq_true rfl) dX5_tellsOurs_88 (fun hs13 => ?_)
              subst hf
              exact G.rI 91 hq dX5_tellsOurs_91 hs13
            · replace hf := (if_neg h12).symm.trans hf
              have t_h1 := ti (2 : Int32) (2) (by decide +kernel) h1
              have t_h6 := ti (3 : Int32) (3) (by decide +kernel) h6
              have t_h9 := ti (4 : Int32) (4) (by decide +kernel) h9
              have t_h10 := ti (5 : Int32) (5) (by decide +kernel) h10
              have t_h11 := ti (6 : Int32) (6) (by decide +kernel) h11
              have t_h12 := ti (7 : Int32) (7) (by decide +kernel) h12
              refine G.tableOut 4 92 dX5_tellsOurs_4 (by omega) (by decide) ?_
              refine G.iload_n 92 2 dX5_tellsOurs_92 rfl rfl ?_
              subst hf
              exact G.rI 93 hq dX5_tellsOurs_93 hs
abbrev Y_X1_toldOurs : My := (cX1_toldOurs, RX1, 2)
def rm_X1_toldOurs : Room := { frames := 4, cells := 0, slots := 0, locals := 266 }
theorem dX1_toldOurs_0 : decode cX1_toldOurs 0 = .ok (.aload_n 0, 1) := by decide +kernel
theorem dX1_toldOurs_1 : decode cX1_toldOurs 1 = .ok (.getfield 12, 3) := by decide +kernel
theorem dX1_toldOurs_4 : decode cX1_toldOurs 4 = .ok (.aload_n 0, 1) := by decide +kernel
theorem dX1_toldOurs_5 : decode cX1_toldOurs 5 = .ok (.getfield 34, 3) := by decide +kernel
theorem dX1_toldOurs_8 : decode cX1_toldOurs 8 = .ok (.aload_n 0, 1) := by decide +kernel
theorem dX1_toldOurs_9 : decode cX1_toldOurs 9 = .ok (.getfield 37, 3) := by decide +kernel
theorem dX1_toldOurs_12 : decode cX1_toldOurs 12 = .ok (.aload_n 0, 1) := by decide +kernel
theorem dX1_toldOurs_13 : decode cX1_toldOurs 13 = .ok (.getfield 18, 3) := by decide +kernel
theorem dX1_toldOurs_16 : decode cX1_toldOurs 16 = .ok (.iload_n 1, 1) := by decide +kernel
theorem dX1_toldOurs_17 : decode cX1_toldOurs 17 = .ok (.invokevirtual 67, 3) := by decide +kernel
theorem dX1_toldOurs_20 : decode cX1_toldOurs 20 = .ok (.ireturn, 1) := by decide +kernel
def f_X1_toldOurs (a0 : Nat) (x1 : Int32) (M : Mem) : Int32 := (f_X5_tellsOurs (a0 + 1) (mI M a0 6) (mI M a0 7) (mI M a0 1) x1 M)
set_option maxRecDepth 100000 in
set_option maxHeartbeats 4000000 in
theorem c_X1_toldOurs (Z : Sys) {M : Mem} (hs : St M) (a0 : Nat) (x1 : Int32) (k_a0 : K0[a0]? = some (1, 12)) {q : Int32} (hf : f_X1_toldOurs a0 x1 M = q) : Ct Z yX1_toldOurs cX1_toldOurs 2 (some .int) rm_X1_toldOurs [.ref (zs Z + a0), .int x1] M False (PostI q M) := by
  refine Ct.of (by decide +kernel) (Nat.le_of_ble_eq_true rfl) (fun X hR hq _ => ?_)
  show G Z X Y_X1_toldOurs False 0 0 0 [(0, .ref (zs Z + a0)), (1, .int x1)] [] M
  replace hq : RetOk Z X (some .int) False (PostI q M) 0 0 := hq
  unfold f_X1_toldOurs at hf
  refine G.aload_n 0 0 dX1_toldOurs_0 rfl rfl ?_
  refine G.getp 1 ck_1 0 (a0 + 1) (hs.k k_a0) (pt_1_0 hs k_a0).1 (by decide) (by decide +kernel) wd_186 dX1_toldOurs_1 ?_
  refine G.aload_n 4 0 dX1_toldOurs_4 rfl rfl ?_
  refine G.geti 5 ck_1 6 (hs.k k_a0) (by decide) (by decide +kernel) wd_207 dX1_toldOurs_5 ?_
  refine G.aload_n 8 0 dX1_toldOurs_8 rfl rfl ?_
  refine G.geti 9 ck_1 7 (hs.k k_a0) (by decide) (by decide +kernel) wd_210 dX1_toldOurs_9 ?_
  refine G.aload_n 12 0 dX1_toldOurs_12 rfl rfl ?_
  refine G.geti 13 ck_1 1 (hs.k k_a0) (by decide) (by decide +kernel) wd_189 dX1_toldOurs_13 ?_
  refine G.iload_n 16 1 dX1_toldOurs_16 rfl rfl ?_
  refine G.cvI 17 (As := [.int (mI M a0 6), .int (mI M a0 7), .int (mI M a0 1), .int x1]) ck_5 (hs.k (pt_1_0 hs k_a0).2) (c_X5_tellsOurs Z hs (a0 + 1) (mI M a0 6) (mI M a0 7) (mI M a0 1) x1 (pt_1_0 hs k_a0).2 rfl) mk_X5_tellsOurs vk_X5_tellsOurs rfl wd_482 hR (by decide +kernel) ⟨rfl, rfl⟩ rfl (Nat.le_of_ble_eq_true rfl) dX1_toldOurs_17 (fun hs1 => ?_)
  subst hf
  exact G.rI 20 hq dX1_toldOurs_20 hs1
abbrev Y_X2_addsDigit : My := (cX2_addsDigit, RX2, 2)
def rm_X2_addsDigit : Room := { frames := 2, cells := 0, slots := 0, locals := 220 }
theorem dX2_addsDigit_0 : decode cX2_addsDigit 0 = .ok (.iload_n 1, 1) := by decide +kernel
theorem dX2_addsDigit_1 : decode cX2_addsDigit 1 = .ok (.invokestatic 46, 3) := by decide +kernel
theorem dX2_addsDigit_4 : decode cX2_addsDigit 4 = .ok (.ifCond .eq 18, 3) := by decide +kernel
theorem dX2_addsDigit_7 : decode cX2_addsDigit 7 = .ok (.aload_n 0, 1) := by decide +kernel
theorem dX2_addsDigit_8 : decode cX2_addsDigit 8 = .ok (.getfield 52, 3) := by decide +kernel
theorem dX2_addsDigit_11 : decode cX2_addsDigit 11 = .ok (.ifCond .ne 11, 3) := by decide +kernel
theorem dX2_addsDigit_14 : decode cX2_addsDigit 14 = .ok (.aload_n 0, 1) := by decide +kernel
theorem dX2_addsDigit_15 : decode cX2_addsDigit 15 = .ok (.getfield 49, 3) := by decide +kernel
theorem dX2_addsDigit_18 : decode cX2_addsDigit 18 = .ok (.iconst 4, 1) := by decide +kernel
theorem dX2_addsDigit_19 : decode cX2_addsDigit 19 = .ok (.if_icmp .lt 5, 3) := by decide +kernel
theorem dX2_addsDigit_22 : decode cX2_addsDigit 22 = .ok (.iconst 0, 1) := by decide +kernel
theorem dX2_addsDigit_23 : decode cX2_addsDigit 23 = .ok (.ireturn, 1) := by decide +kernel
theorem dX2_addsDigit_24 : decode cX2_addsDigit 24 = .ok (.aload_n 0, 1) := by decide +kernel
theorem dX2_addsDigit_25 : decode cX2_addsDigit 25 = .ok (.dup, 1) := by decide +kernel
theorem dX2_addsDigit_26 : decode cX2_addsDigit 26 = .ok (.getfield 49, 3) := by decide +kernel
theorem dX2_addsDigit_29 : decode cX2_addsDigit 29 = .ok (.iconst 1, 1) := by decide +kernel
theorem dX2_addsDigit_30 : decode cX2_addsDigit 30 = .ok (.iadd, 1) := by decide +kernel
theorem dX2_addsDigit_31 : decode cX2_addsDigit 31 = .ok (.putfield 49, 3) := by decide +kernel
theorem dX2_addsDigit_34 : decode cX2_addsDigit 34 = .ok (.iconst 1, 1) := by decide +kernel
theorem dX2_addsDigit_35 : decode cX2_addsDigit 35 = .ok (.ireturn, 1) := by decide +kernel
def f_X2_addsDigit (x1 : Int32) (M : Mem) : Option (Int32 × Mem) := if (f_X2_isDigit x1) = 0 then some ((0 : Int32), M) else if (mI M 259 4) = 0 then if (mI M 259 3) < (4 : Int32) then some ((1 : Int32), (sI M 259 3 ((mI M 259 3) + (1 : Int32)))) else some ((0 : Int32), M) else some ((0 : Int32), M)
set_option maxRecDepth 100000 in
set_option maxHeartbeats 4000000 in
theorem c_X2_addsDigit (Z : Sys) {M : Mem} (hs : St M) (x1 : Int32) {q : Int32 × Mem} (hf : f_X2_addsDigit x1 M = some q) : Ct Z yX2_addsDigit cX2_addsDigit 2 (some .boolean) rm_X2_addsDigit [.ref (zs Z + 259), .int x1] M False (PostZ q.1 q.2) := by
  refine Ct.of (by decide +kernel) (Nat.le_of_ble_eq_true rfl) (fun X hR hq _ => ?_)
  show G Z X Y_X2_addsDigit False 0 0 0 [(0, .ref (zs Z + 259)), (1, .int x1)] [] M
  replace hq : RetOk Z X (some .boolean) False (PostZ q.1 q.2) 0 0 := hq
  unfold f_X2_addsDigit at hf
  refine G.iload_n 0 1 dX2_addsDigit_0 rfl rfl ?_
  refine G.csZ 1 (As := [.int x1]) (c_X2_isDigit Z hs x1 rfl) mk_X2_isDigit wd_903 wd_902 hR (by decide +kernel) ⟨rfl, rfl⟩ rfl (Nat.le_of_ble_eq_true rfl) dX2_addsDigit_1 (fun hs1 z2 => ?_)
  refine G.if_eq 4 22 dX2_addsDigit_4 (by decide) (fun h3 => ?_) (fun h3 => ?_)
  · replace hf := (if_pos h3).symm.trans hf
    refine G.iconst 22 (0 : Int32) dX2_addsDigit_22 (by decide +kernel) ?_
    (have hf9 := Option.some.inj hf; subst hf9)
    exact G.rZ 23 hq dX2_addsDigit_23 hs1 (Or.inl rfl)
  · replace hf := (if_neg h3).symm.trans hf
    refine G.aload_n 7 0 dX2_addsDigit_7 rfl rfl ?_
    refine G.geti 8 ck_2 4 (hs1.k k0_259) (by decide) (by decide +kernel) wd_354 dX2_addsDigit_8 ?_
    refine G.if_ne 11 22 dX2_addsDigit_11 (by decide) (fun h4 => ?_) (fun h4 => ?_)
    · replace hf := (if_neg h4).symm.trans hf
      refine G.iconst 22 (0 : Int32) dX2_addsDigit_22 (by decide +kernel) ?_
      (have hf9 := Option.some.inj hf; subst hf9)
      exact G.rZ 23 hq dX2_addsDigit_23 hs1 (Or.inl rfl)
    · replace hf := (if_pos h4).symm.trans hf
      refine G.aload_n 14 0 dX2_addsDigit_14 rfl rfl ?_
      refine G.geti 15 ck_2 3 (hs1.k k0_259) (by decide) (by decide +kernel) wd_353 dX2_addsDigit_15 ?_
      refine G.iconst 18 (4 : Int32) dX2_addsDigit_18 (by decide +kernel) ?_
      refine G.icmp_lt 19 24 dX2_addsDigit_19 (by decide) (fun h5 => ?_) (fun h5 => ?_)
      · replace hf := (if_pos h5).symm.trans hf
        refine G.aload_n 24 0 dX2_addsDigit_24 rfl rfl ?_
        refine G.dup 25 dX2_addsDigit_25 rfl ?_
        refine G.geti 26 ck_2 3 (hs1.k k0_259) (by decide) (by decide +kernel) wd_353 dX2_addsDigit_26 ?_
        refine G.iconst 29 (1 : Int32) dX2_addsDigit_29 (by decide +kernel) ?_
        refine G.iadd 30 dX2_addsDigit_30 ?_
        refine G.puti 31 ck_2 3 (hs1.k k0_259) (by decide) (by decide +kernel) rfl wd_353 rfl rfl dX2_addsDigit_31 ?_
        refine G.iconst 34 (1 : Int32) dX2_addsDigit_34 (by decide +kernel) ?_
        (have hf9 := Option.some.inj hf; subst hf9)
        exact G.rZ 35 hq dX2_addsDigit_35 (St.i hs1) (Or.inr rfl)
      · replace hf := (if_neg h5).symm.trans hf
        refine G.iconst 22 (0 : Int32) dX2_addsDigit_22 (by decide +kernel) ?_
        (have hf9 := Option.some.inj hf; subst hf9)
        exact G.rZ 23 hq dX2_addsDigit_23 hs1 (Or.inl rfl)
abbrev Y_X2_become : My := (cX2_become, RX2, 2)
def rm_X2_become : Room := { frames := 1, cells := 0, slots := 0, locals := 200 }
theorem dX2_become_0 : decode cX2_become 0 = .ok (.aload_n 0, 1) := by decide +kernel
theorem dX2_become_1 : decode cX2_become 1 = .ok (.iload_n 1, 1) := by decide +kernel
theorem dX2_become_2 : decode cX2_become 2 = .ok (.putfield 9, 3) := by decide +kernel
theorem dX2_become_5 : decode cX2_become 5 = .ok (.iconst 1, 1) := by decide +kernel
theorem dX2_become_6 : decode cX2_become 6 = .ok (.ireturn, 1) := by decide +kernel
def f_X2_become (x1 : Int32) (M : Mem) : Option (Int32 × Mem) := some ((1 : Int32), (sI M 259 0 x1))
set_option maxRecDepth 100000 in
set_option maxHeartbeats 4000000 in
theorem c_X2_become (Z : Sys) {M : Mem} (hs : St M) (x1 : Int32) {q : Int32 × Mem} (hf : f_X2_become x1 M = some q) : Ct Z yX2_become cX2_become 2 (some .boolean) rm_X2_become [.ref (zs Z + 259), .int x1] M False (PostZ q.1 q.2) := by
  refine Ct.of (by decide +kernel) (Nat.le_of_ble_eq_true rfl) (fun X hR hq _ => ?_)
  show G Z X Y_X2_become False 0 0 0 [(0, .ref (zs Z + 259)), (1, .int x1)] [] M
  replace hq : RetOk Z X (some .boolean) False (PostZ q.1 q.2) 0 0 := hq
  unfold f_X2_become at hf
  refine G.aload_n 0 0 dX2_become_0 rfl rfl ?_
  refine G.iload_n 1 1 dX2_become_1 rfl rfl ?_
  refine G.puti 2 ck_2 0 (hs.k k0_259) (by decide) (by decide +kernel) rfl wd_350 rfl rfl dX2_become_2 ?_
  refine G.iconst 5 (1 : Int32) dX2_become_5 (by decide +kernel) ?_
  (have hf9 := Option.some.inj hf; subst hf9)
  exact G.rZ 6 hq dX2_become_6 (St.i hs) (Or.inr rfl)
abbrev Y_X2_beginsAtom : My := (cX2_beginsAtom, RX2, 2)
def rm_X2_beginsAtom : Room := { frames := 21, cells := 0, slots := 0, locals := 1020 }
theorem dX2_beginsAtom_0 : decode cX2_beginsAtom 0 = .ok (.iload_n 1, 1) := by decide +kernel
theorem dX2_beginsAtom_1 : decode cX2_beginsAtom 1 = .ok (.invokestatic 46, 3) := by decide +kernel
theorem dX2_beginsAtom_4 : decode cX2_beginsAtom 4 = .ok (.ifCond .eq 29, 3) := by decide +kernel
theorem dX2_beginsAtom_7 : decode cX2_beginsAtom 7 = .ok (.aload_n 0, 1) := by decide +kernel
theorem dX2_beginsAtom_8 : decode cX2_beginsAtom 8 = .ok (.iconst 1, 1) := by decide +kernel
theorem dX2_beginsAtom_9 : decode cX2_beginsAtom 9 = .ok (.putfield 49, 3) := by decide +kernel
theorem dX2_beginsAtom_12 : decode cX2_beginsAtom 12 = .ok (.aload_n 0, 1) := by decide +kernel
theorem dX2_beginsAtom_13 : decode cX2_beginsAtom 13 = .ok (.iload_n 1, 1) := by decide +kernel
theorem dX2_beginsAtom_14 : decode cX2_beginsAtom 14 = .ok (.bipush 48, 2) := by decide +kernel
theorem dX2_beginsAtom_16 : decode cX2_beginsAtom 16 = .ok (.if_icmp .ne 7, 3) := by decide +kernel
theorem dX2_beginsAtom_19 : decode cX2_beginsAtom 19 = .ok (.iconst 1, 1) := by decide +kernel
theorem dX2_beginsAtom_20 : decode cX2_beginsAtom 20 = .ok (.goto 4, 3) := by decide +kernel
theorem dX2_beginsAtom_23 : decode cX2_beginsAtom 23 = .ok (.iconst 0, 1) := by decide +kernel
theorem dX2_beginsAtom_24 : decode cX2_beginsAtom 24 = .ok (.putfield 52, 3) := by decide +kernel
theorem dX2_beginsAtom_27 : decode cX2_beginsAtom 27 = .ok (.aload_n 0, 1) := by decide +kernel
theorem dX2_beginsAtom_28 : decode cX2_beginsAtom 28 = .ok (.iconst 4, 1) := by decide +kernel
theorem dX2_beginsAtom_29 : decode cX2_beginsAtom 29 = .ok (.invokevirtual 28, 3) := by decide +kernel
theorem dX2_beginsAtom_32 : decode cX2_beginsAtom 32 = .ok (.ireturn, 1) := by decide +kernel
theorem dX2_beginsAtom_33 : decode cX2_beginsAtom 33 = .ok (.iload_n 1, 1) := by decide +kernel
theorem dX2_beginsAtom_34 : decode cX2_beginsAtom 34 = .ok (.invokestatic 55, 3) := by decide +kernel
theorem dX2_beginsAtom_37 : decode cX2_beginsAtom 37 = .ok (.ifCond .eq 15, 3) := by decide +kernel
theorem dX2_beginsAtom_40 : decode cX2_beginsAtom 40 = .ok (.aload_n 0, 1) := by decide +kernel
theorem dX2_beginsAtom_41 : decode cX2_beginsAtom 41 = .ok (.iconst 5, 1) := by decide +kernel
theorem dX2_beginsAtom_42 : decode cX2_beginsAtom 42 = .ok (.invokevirtual 28, 3) := by decide +kernel
theorem dX2_beginsAtom_45 : decode cX2_beginsAtom 45 = .ok (.ifCond .eq 7, 3) := by decide +kernel
theorem dX2_beginsAtom_48 : decode cX2_beginsAtom 48 = .ok (.iconst 1, 1) := by decide +kernel
theorem dX2_beginsAtom_49 : decode cX2_beginsAtom 49 = .ok (.goto 4, 3) := by decide +kernel
theorem dX2_beginsAtom_52 : decode cX2_beginsAtom 52 = .ok (.iconst 0, 1) := by decide +kernel
theorem dX2_beginsAtom_53 : decode cX2_beginsAtom 53 = .ok (.ireturn, 1) := by decide +kernel
def f_X2_beginsAtom (x1 : Int32) (M : Mem) : Option (Int32 × Mem) := if (f_X2_isDigit x1) = 0 then if (f_X2_isField x1) = 0 then some ((0 : Int32), M) else (f_X2_become (5 : Int32) M).bind fun q9 => if q9.1 = 0 then some ((0 : Int32), q9.2) else some ((1 : Int32), q9.2) else if x1 = (48 : Int32) then (f_X2_become (4 : Int32) (sI (sI M 259 3 (1 : Int32)) 259 4 (1 : Int32))).bind fun q19 => some (q19.1, q19.2) else (f_X2_become (4 : Int32) (sI (sI M 259 3 (1 : Int32)) 259 4 (0 : Int32))).bind fun q15 => some (q15.1, q15.2)
set_option maxRecDepth 100000 in
set_option maxHeartbeats 4000000 in
theorem c_X2_beginsAtom (Z : Sys) {M : Mem} (hs : St M) (x1 : Int32) {q : Int32 × Mem} (hf : f_X2_beginsAtom x1 M = some q) : Ct Z yX2_beginsAtom cX2_beginsAtom 2 (some .boolean) rm_X2_beginsAtom [.ref (zs Z + 259), .int x1] M False (PostZ q.1 q.2) := by
  refine Ct.of (by decide +kernel) (Nat.le_of_ble_eq_true rfl) (fun X hR hq _ => ?_)
  show G Z X Y_X2_beginsAtom False 0 0 0 [(0, .ref (zs Z + 259)), (1, .int x1)] [] M
  replace hq : RetOk Z X (some .boolean) False (PostZ q.1 q.2) 0 0 := hq
  unfold f_X2_beginsAtom at hf
  refine G.iload_n 0 1 dX2_beginsAtom_0 rfl rfl ?_
  refine G.csZ 1 (As := [.int x1]) (c_X2_isDigit Z hs x1 rfl) mk_X2_isDigit wd_903 wd_902 hR (by decide +kernel) ⟨rfl, rfl⟩ rfl (Nat.le_of_ble_eq_true rfl) dX2_beginsAtom_1 (fun hs1 z2 => ?_)
  refine G.if_eq 4 33 dX2_beginsAtom_4 (by decide) (fun h3 => ?_) (fun h3 => ?_)
  · replace hf := (if_pos h3).symm.trans hf
    refine G.iload_n 33 1 dX2_beginsAtom_33 rfl rfl ?_
    refine G.csZ 34 (As := [.int x1]) (c_X2_isField Z hs1 x1 rfl) mk_X2_isField wd_906 wd_905 hR (by decide +kernel) ⟨rfl, rfl⟩ rfl (Nat.le_of_ble_eq_true rfl) dX2_beginsAtom_34 (fun hs4 z5 => ?_)
    refine G.if_eq 37 52 dX2_beginsAtom_37 (by decide) (fun h6 => ?_) (fun h6 => ?_)
    · replace hf := (if_pos h6).symm.trans hf
      refine G.iconst 52 (0 : Int32) dX2_beginsAtom_52 (by decide +kernel) ?_
      (have hf9 := Option.some.inj hf; subst hf9)
      exact G.rZ 53 hq dX2_beginsAtom_53 hs4 (Or.inl rfl)
    · replace hf := (if_neg h6).symm.trans hf
      refine G.aload_n 40 0 dX2_beginsAtom_40 rfl rfl ?_
      refine G.iconst 41 (5 : Int32) dX2_beginsAtom_41 (by decide +kernel) ?_
      obtain ⟨q9, e10, hf⟩ := bd_e hf
      refine G.cvZ 42 (As := [.int (5 : Int32)]) ck_2 (hs4.k k0_259) (c_X2_become Z hs4 (5 : Int32) e10) mk_X2_become vk_X2_become rfl wd_890 hR (by decide +kernel) ⟨rfl, rfl⟩ rfl (Nat.le_of_ble_eq_true rfl) dX2_beginsAtom_42 (fun hs7 z8 => ?_)
      refine G.if_eq 45 52 dX2_beginsAtom_45 (by decide) (fun h11 => ?_) (fun h11 => ?_)
      · replace hf := (if_pos h11).symm.trans hf
        refine G.iconst 52 (0 : Int32) dX2_beginsAtom_52 (by decide +kernel) ?_
        (have hf9 := Option.some.inj hf; subst hf9)
        exact G.rZ 53 hq dX2_beginsAtom_53 hs7 (Or.inl rfl)
      · replace hf := (if_neg h11).symm.trans hf
        refine G.iconst 48 (1 : Int32) dX2_beginsAtom_48 (by decide +kernel) ?_
        refine G.goto 49 53 dX2_beginsAtom_49 (by decide) ?_
        (have hf9 := Option.some.inj hf; subst hf9)
        exact G.rZ 53 hq dX2_beginsAtom_53 hs7 (Or.inr rfl)
  · replace hf := (if_neg h3).symm.trans hf
    refine G.aload_n 7 0 dX2_beginsAtom_7 rfl rfl ?_
    refine G.iconst 8 (1 : Int32) dX2_beginsAtom_8 (by decide +kernel) ?_
    refine G.puti 9 ck_2 3 (hs1.k k0_259) (by decide) (by decide +kernel) rfl wd_353 rfl rfl dX2_beginsAtom_9 ?_
    refine G.aload_n 12 0 dX2_beginsAtom_12 rfl rfl ?_
    refine G.iload_n 13 1 dX2_beginsAtom_13 rfl rfl ?_
    refine G.bipush 14 (48 : Int32) dX2_beginsAtom_14 (by decide +kernel) ?_
    refine G.icmp_ne 16 23 dX2_beginsAtom_16 (by decide) (fun h12 => ?_) (fun h12 => ?_)
    · replace hf := (if_neg h12).symm.trans hf
      refine G.iconst 23 (0 : Int32) dX2_beginsAtom_23 (by decide +kernel) ?_
      refine G.puti 24 ck_2 4 ((St.i hs1).k k0_259) (by decide) (by decide +kernel) rfl wd_354 rfl rfl dX2_beginsAtom_24 ?_
      refine G.aload_n 27 0 dX2_beginsAtom_27 rfl rfl ?_
      refine G.iconst 28 (4 : Int32) dX2_beginsAtom_28 (by decide +kernel) ?_
      obtain ⟨q15, e16, hf⟩ := bd_e hf
      refine G.cvZ 29 (As := [.int (4 : Int32)]) ck_2 ((St.i (St.i hs1)).k k0_259) (c_X2_become Z (St.i (St.i hs1)) (4 : Int32) e16) mk_X2_become vk_X2_become rfl wd_890 hR (by decide +kernel) ⟨rfl, rfl⟩ rfl (Nat.le_of_ble_eq_true rfl) dX2_beginsAtom_29 (fun hs13 z14 => ?_)
      (have hf9 := Option.some.inj hf; subst hf9)
      exact G.rZ 32 hq dX2_beginsAtom_32 hs13 z14
    · replace hf := (if_pos h12).symm.trans hf
      refine G.iconst 19 (1 : Int32) dX2_beginsAtom_19 (by decide +kernel) ?_
      refine G.goto 20 24 dX2_beginsAtom_20 (by decide) ?_
      refine G.puti 24 ck_2 4 ((St.i hs1).k k0_259) (by decide) (by decide +kernel) rfl wd_354 rfl rfl dX2_beginsAtom_24 ?_
      refine G.aload_n 27 0 dX2_beginsAtom_27 rfl rfl ?_
      refine G.iconst 28 (4 : Int32) dX2_beginsAtom_28 (by decide +kernel) ?_
      obtain ⟨q19, e20, hf⟩ := bd_e hf
      refine G.cvZ 29 (As := [.int (4 : Int32)]) ck_2 ((St.i (St.i hs1)).k k0_259) (c_X2_become Z (St.i (St.i hs1)) (4 : Int32) e20) mk_X2_become vk_X2_become rfl wd_890 hR (by decide +kernel) ⟨rfl, rfl⟩ rfl (Nat.le_of_ble_eq_true rfl) dX2_beginsAtom_29 (fun hs17 z18 => ?_)
      (have hf9 := Option.some.inj hf; subst hf9)
      exact G.rZ 32 hq dX2_beginsAtom_32 hs17 z18
abbrev Y_X2_beginsTest : My := (cX2_beginsTest, RX2, 2)
def rm_X2_beginsTest : Room := { frames := 22, cells := 0, slots := 0, locals := 1041 }
theorem dX2_beginsTest_0 : decode cX2_beginsTest 0 = .ok (.iload_n 1, 1) := by decide +kernel
theorem dX2_beginsTest_1 : decode cX2_beginsTest 1 = .ok (.bipush 33, 2) := by decide +kernel
theorem dX2_beginsTest_3 : decode cX2_beginsTest 3 = .ok (.if_icmp .ne 5, 3) := by decide +kernel
theorem dX2_beginsTest_6 : decode cX2_beginsTest 6 = .ok (.iconst 1, 1) := by decide +kernel
theorem dX2_beginsTest_7 : decode cX2_beginsTest 7 = .ok (.ireturn, 1) := by decide +kernel
theorem dX2_beginsTest_8 : decode cX2_beginsTest 8 = .ok (.iload_n 1, 1) := by decide +kernel
theorem dX2_beginsTest_9 : decode cX2_beginsTest 9 = .ok (.bipush 40, 2) := by decide +kernel
theorem dX2_beginsTest_11 : decode cX2_beginsTest 11 = .ok (.if_icmp .ne 28, 3) := by decide +kernel
theorem dX2_beginsTest_14 : decode cX2_beginsTest 14 = .ok (.aload_n 0, 1) := by decide +kernel
theorem dX2_beginsTest_15 : decode cX2_beginsTest 15 = .ok (.dup, 1) := by decide +kernel
theorem dX2_beginsTest_16 : decode cX2_beginsTest 16 = .ok (.getfield 13, 3) := by decide +kernel
theorem dX2_beginsTest_19 : decode cX2_beginsTest 19 = .ok (.iconst 1, 1) := by decide +kernel
theorem dX2_beginsTest_20 : decode cX2_beginsTest 20 = .ok (.iadd, 1) := by decide +kernel
theorem dX2_beginsTest_21 : decode cX2_beginsTest 21 = .ok (.putfield 13, 3) := by decide +kernel
theorem dX2_beginsTest_24 : decode cX2_beginsTest 24 = .ok (.aload_n 0, 1) := by decide +kernel
theorem dX2_beginsTest_25 : decode cX2_beginsTest 25 = .ok (.getfield 13, 3) := by decide +kernel
theorem dX2_beginsTest_28 : decode cX2_beginsTest 28 = .ok (.bipush 8, 2) := by decide +kernel
theorem dX2_beginsTest_30 : decode cX2_beginsTest 30 = .ok (.if_icmp .gt 7, 3) := by decide +kernel
theorem dX2_beginsTest_33 : decode cX2_beginsTest 33 = .ok (.iconst 1, 1) := by decide +kernel
theorem dX2_beginsTest_34 : decode cX2_beginsTest 34 = .ok (.goto 4, 3) := by decide +kernel
theorem dX2_beginsTest_37 : decode cX2_beginsTest 37 = .ok (.iconst 0, 1) := by decide +kernel
theorem dX2_beginsTest_38 : decode cX2_beginsTest 38 = .ok (.ireturn, 1) := by decide +kernel
theorem dX2_beginsTest_39 : decode cX2_beginsTest 39 = .ok (.aload_n 0, 1) := by decide +kernel
theorem dX2_beginsTest_40 : decode cX2_beginsTest 40 = .ok (.iconst 0, 1) := by decide +kernel
theorem dX2_beginsTest_41 : decode cX2_beginsTest 41 = .ok (.putfield 24, 3) := by decide +kernel
theorem dX2_beginsTest_44 : decode cX2_beginsTest 44 = .ok (.aload_n 0, 1) := by decide +kernel
theorem dX2_beginsTest_45 : decode cX2_beginsTest 45 = .ok (.iload_n 1, 1) := by decide +kernel
theorem dX2_beginsTest_46 : decode cX2_beginsTest 46 = .ok (.invokevirtual 34, 3) := by decide +kernel
theorem dX2_beginsTest_49 : decode cX2_beginsTest 49 = .ok (.ireturn, 1) := by decide +kernel
def f_X2_beginsTest (x1 : Int32) (M : Mem) : Option (Int32 × Mem) := if x1 = (33 : Int32) then some ((1 : Int32), M) else if x1 = (40 : Int32) then if (8 : Int32) < (mI (sI M 259 1 ((mI M 259 1) + (1 : Int32))) 259 1) then some ((0 : Int32), (sI M 259 1 ((mI M 259 1) + (1 : Int32)))) else some ((1 : Int32), (sI M 259 1 ((mI M 259 1) + (1 : Int32)))) else (f_X2_beginsAtom x1 (sI M 259 2 (0 : Int32))).bind fun q5 => some (q5.1, q5.2)
set_option maxRecDepth 100000 in
set_option maxHeartbeats 4000000 in
theorem c_X2_beginsTest (Z : Sys) {M : Mem} (hs : St M) (x1 : Int32) {q : Int32 × Mem} (hf : f_X2_beginsTest x1 M = some q) : Ct Z yX2_beginsTest cX2_beginsTest 2 (some .boolean) rm_X2_beginsTest [.ref (zs Z + 259), .int x1] M False (PostZ q.1 q.2) := by
  refine Ct.of (by decide +kernel) (Nat.le_of_ble_eq_true rfl) (fun X hR hq _ => ?_)
  show G Z X Y_X2_beginsTest False 0 0 0 [(0, .ref (zs Z + 259)), (1, .int x1)] [] M
  replace hq : RetOk Z X (some .boolean) False (PostZ q.1 q.2) 0 0 := hq
  unfold f_X2_beginsTest at hf
  refine G.iload_n 0 1 dX2_beginsTest_0 rfl rfl ?_
  refine G.bipush 1 (33 : Int32) dX2_beginsTest_1 (by decide +kernel) ?_
  refine G.icmp_ne 3 8 dX2_beginsTest_3 (by decide) (fun h1 => ?_) (fun h1 => ?_)
  · replace hf := (if_neg h1).symm.trans hf
    refine G.iload_n 8 1 dX2_beginsTest_8 rfl rfl ?_
    refine G.bipush 9 (40 : Int32) dX2_beginsTest_9 (by decide +kernel) ?_
    refine G.icmp_ne 11 39 dX2_beginsTest_11 (by decide) (fun h2 => ?_) (fun h2 => ?_)
    · replace hf := (if_neg h2).symm.trans hf
      refine G.aload_n 39 0 dX2_beginsTest_39 rfl rfl ?_
      refine G.iconst 40 (0 : Int32) dX2_beginsTest_40 (by decide +kernel) ?_
      refine G.puti 41 ck_2 2 (hs.k k0_259) (by decide) (by decide +kernel) rfl wd_352 rfl rfl dX2_beginsTest_41 ?_
      refine G.aload_n 44 0 dX2_beginsTest_44 rfl rfl ?_
      refine G.iload_n 45 1 dX2_beginsTest_45 rfl rfl ?_
      obtain ⟨q5, e6, hf⟩ := bd_e hf
      refine G.cvZ 46 (As := [.int x1]) ck_2 ((St.i hs).k k0_259) (c_X2_beginsAtom Z (St.i hs) x1 e6) mk_X2_beginsAtom vk_X2_beginsAtom rfl wd_898 hR (by decide +kernel) ⟨rfl, rfl⟩ rfl (Nat.le_of_ble_eq_true rfl) dX2_beginsTest_46 (fun hs3 z4 => ?_)
      (have hf9 := Option.some.inj hf; subst hf9)
      exact G.rZ 49 hq dX2_beginsTest_49 hs3 z4
    · replace hf := (if_pos h2).symm.trans hf
      refine G.aload_n 14 0 dX2_beginsTest_14 rfl rfl ?_
      refine G.dup 15 dX2_beginsTest_15 rfl ?_
      refine G.geti 16 ck_2 1 (hs.k k0_259) (by decide) (by decide +kernel) wd_351 dX2_beginsTest_16 ?_
      refine G.iconst 19 (1 : Int32) dX2_beginsTest_19 (by decide +kernel) ?_
      refine G.iadd 20 dX2_beginsTest_20 ?_
      refine G.puti 21 ck_2 1 (hs.k k0_259) (by decide) (by decide +kernel) rfl wd_351 rfl rfl dX2_beginsTest_21 ?_
      refine G.aload_n 24 0 dX2_beginsTest_24 rfl rfl ?_
      refine G.geti 25 ck_2 1 ((St.i hs).k k0_259) (by decide) (by decide +kernel) wd_351 dX2_beginsTest_25 ?_
      refine G.bipush 28 (8 : Int32) dX2_beginsTest_28 (by decide +kernel) ?_
      refine G.icmp_gt 30 37 dX2_beginsTest_30 (by decide) (fun h7 => ?_) (fun h7 => ?_)
      · replace hf := (if_pos h7).symm.trans hf
        refine G.iconst 37 (0 : Int32) dX2_beginsTest_37 (by decide +kernel) ?_
        (have hf9 := Option.some.inj hf; subst hf9)
        exact G.rZ 38 hq dX2_beginsTest_38 (St.i hs) (Or.inl rfl)
      · replace hf := (if_neg h7).symm.trans hf
        refine G.iconst 33 (1 : Int32) dX2_beginsTest_33 (by decide +kernel) ?_
        refine G.goto 34 38 dX2_beginsTest_34 (by decide) ?_
        (have hf9 := Option.some.inj hf; subst hf9)
        exact G.rZ 38 hq dX2_beginsTest_38 (St.i hs) (Or.inr rfl)
  · replace hf := (if_pos h1).symm.trans hf
    refine G.iconst 6 (1 : Int32) dX2_beginsTest_6 (by decide +kernel) ?_
    (have hf9 := Option.some.inj hf; subst hf9)
    exact G.rZ 7 hq dX2_beginsTest_7 hs (Or.inr rfl)
abbrev Y_X2_followsTest : My := (cX2_followsTest, RX2, 2)
def rm_X2_followsTest : Room := { frames := 2, cells := 0, slots := 0, locals := 221 }
theorem dX2_followsTest_0 : decode cX2_followsTest 0 = .ok (.iload_n 1, 1) := by decide +kernel
theorem dX2_followsTest_1 : decode cX2_followsTest 1 = .ok (.bipush 38, 2) := by decide +kernel
theorem dX2_followsTest_3 : decode cX2_followsTest 3 = .ok (.if_icmp .eq 9, 3) := by decide +kernel
theorem dX2_followsTest_6 : decode cX2_followsTest 6 = .ok (.iload_n 1, 1) := by decide +kernel
theorem dX2_followsTest_7 : decode cX2_followsTest 7 = .ok (.bipush 124, 2) := by decide +kernel
theorem dX2_followsTest_9 : decode cX2_followsTest 9 = .ok (.if_icmp .ne 9, 3) := by decide +kernel
theorem dX2_followsTest_12 : decode cX2_followsTest 12 = .ok (.aload_n 0, 1) := by decide +kernel
theorem dX2_followsTest_13 : decode cX2_followsTest 13 = .ok (.iconst 2, 1) := by decide +kernel
theorem dX2_followsTest_14 : decode cX2_followsTest 14 = .ok (.invokevirtual 28, 3) := by decide +kernel
theorem dX2_followsTest_17 : decode cX2_followsTest 17 = .ok (.ireturn, 1) := by decide +kernel
theorem dX2_followsTest_18 : decode cX2_followsTest 18 = .ok (.iload_n 1, 1) := by decide +kernel
theorem dX2_followsTest_19 : decode cX2_followsTest 19 = .ok (.bipush 41, 2) := by decide +kernel
theorem dX2_followsTest_21 : decode cX2_followsTest 21 = .ok (.if_icmp .ne 27, 3) := by decide +kernel
theorem dX2_followsTest_24 : decode cX2_followsTest 24 = .ok (.aload_n 0, 1) := by decide +kernel
theorem dX2_followsTest_25 : decode cX2_followsTest 25 = .ok (.getfield 13, 3) := by decide +kernel
theorem dX2_followsTest_28 : decode cX2_followsTest 28 = .ok (.ifCond .le 20, 3) := by decide +kernel
theorem dX2_followsTest_31 : decode cX2_followsTest 31 = .ok (.aload_n 0, 1) := by decide +kernel
theorem dX2_followsTest_32 : decode cX2_followsTest 32 = .ok (.dup, 1) := by decide +kernel
theorem dX2_followsTest_33 : decode cX2_followsTest 33 = .ok (.getfield 13, 3) := by decide +kernel
theorem dX2_followsTest_36 : decode cX2_followsTest 36 = .ok (.iconst 1, 1) := by decide +kernel
theorem dX2_followsTest_37 : decode cX2_followsTest 37 = .ok (.isub, 1) := by decide +kernel
theorem dX2_followsTest_38 : decode cX2_followsTest 38 = .ok (.putfield 13, 3) := by decide +kernel
theorem dX2_followsTest_41 : decode cX2_followsTest 41 = .ok (.aload_n 0, 1) := by decide +kernel
theorem dX2_followsTest_42 : decode cX2_followsTest 42 = .ok (.bipush 6, 2) := by decide +kernel
theorem dX2_followsTest_44 : decode cX2_followsTest 44 = .ok (.invokevirtual 28, 3) := by decide +kernel
theorem dX2_followsTest_47 : decode cX2_followsTest 47 = .ok (.ireturn, 1) := by decide +kernel
theorem dX2_followsTest_48 : decode cX2_followsTest 48 = .ok (.iconst 0, 1) := by decide +kernel
theorem dX2_followsTest_49 : decode cX2_followsTest 49 = .ok (.ireturn, 1) := by decide +kernel
def B_X2_followsTest_12 (M : Mem) : Option (Int32 × Mem) := (f_X2_become (2 : Int32) M).bind fun q4 => some (q4.1, q4.2)
def f_X2_followsTest (x1 : Int32) (M : Mem) : Option (Int32 × Mem) := if x1 = (38 : Int32) then B_X2_followsTest_12 M else if x1 = (124 : Int32) then B_X2_followsTest_12 M else if x1 = (41 : Int32) then if (mI M 259 1) ≤ 0 then some ((0 : Int32), M) else (f_X2_become (6 : Int32) (sI M 259 1 ((mI M 259 1) - (1 : Int32)))).bind fun q11 => some (q11.1, q11.2) else some ((0 : Int32), M)
set_option maxRecDepth 100000 in
set_option maxHeartbeats 4000000 in
theorem b_X2_followsTest_12 (Z : Sys) (X : Cx) (hR : xR X = rm_X2_followsTest) {q : Int32 × Mem} (hq : RetOk Z X (some .boolean) False (PostZ q.1 q.2) 0 0) {M : Mem} (hs : St M) (hf : B_X2_followsTest_12 M = some q) : G Z X Y_X2_followsTest False 0 0 12 [(0, .ref (zs Z + 259))] [] M := by
  unfold B_X2_followsTest_12 at hf
  refine G.aload_n 12 0 dX2_followsTest_12 rfl rfl ?_
  refine G.iconst 13 (2 : Int32) dX2_followsTest_13 (by decide +kernel) ?_
  obtain ⟨q4, e5, hf⟩ := bd_e hf
  refine G.cvZ 14 (As := [.int (2 : Int32)]) ck_2 (hs.k k0_259) (c_X2_become Z hs (2 : Int32) e5) mk_X2_become vk_X2_become rfl wd_890 hR (by decide +kernel) ⟨rfl, rfl⟩ rfl (Nat.le_of_ble_eq_true rfl) dX2_followsTest_14 (fun hs2 z3 => ?_)
  (have hf9 := Option.some.inj hf; subst hf9)
  exact G.rZ 17 hq dX2_followsTest_17 hs2 z3
set_option maxRecDepth 100000 in
set_option maxHeartbeats 4000000 in
theorem c_X2_followsTest (Z : Sys) {M : Mem} (hs : St M) (x1 : Int32) {q : Int32 × Mem} (hf : f_X2_followsTest x1 M = some q) : Ct Z yX2_followsTest cX2_followsTest 2 (some .boolean) rm_X2_followsTest [.ref (zs Z + 259), .int x1] M False (PostZ q.1 q.2) := by
  refine Ct.of (by decide +kernel) (Nat.le_of_ble_eq_true rfl) (fun X hR hq _ => ?_)
  show G Z X Y_X2_followsTest False 0 0 0 [(0, .ref (zs Z + 259)), (1, .int x1)] [] M
  replace hq : RetOk Z X (some .boolean) False (PostZ q.1 q.2) 0 0 := hq
  unfold f_X2_followsTest at hf
  refine G.iload_n 0 1 dX2_followsTest_0 rfl rfl ?_
  refine G.bipush 1 (38 : Int32) dX2_followsTest_1 (by decide +kernel) ?_
  refine G.icmp_eq 3 12 dX2_followsTest_3 (by decide) (fun h1 => ?_) (fun h1 => ?_)
  · replace hf := (if_pos h1).symm.trans hf
    refine G.locs [0] rfl ?_
    exact b_X2_followsTest_12 Z X hR hq hs hf
  · replace hf := (if_neg h1).symm.trans hf
    refine G.iload_n 6 1 dX2_followsTest_6 rfl rfl ?_
    refine G.bipush 7 (124 : Int32) dX2_followsTest_7 (by decide +kernel) ?_
    refine G.icmp_ne 9 18 dX2_followsTest_9 (by decide) (fun h6 => ?_) (fun h6 => ?_)
    · replace hf := (if_neg h6).symm.trans hf
      refine G.iload_n 18 1 dX2_followsTest_18 rfl rfl ?_
      refine G.bipush 19 (41 : Int32) dX2_followsTest_19 (by decide +kernel) ?_
      refine G.icmp_ne 21 48 dX2_followsTest_21 (by decide) (fun h7 => ?_) (fun h7 => ?_)
      · replace hf := (if_neg h7).symm.trans hf
        refine G.iconst 48 (0 : Int32) dX2_followsTest_48 (by decide +kernel) ?_
        (have hf9 := Option.some.inj hf; subst hf9)
        exact G.rZ 49 hq dX2_followsTest_49 hs (Or.inl rfl)
      · replace hf := (if_pos h7).symm.trans hf
        refine G.aload_n 24 0 dX2_followsTest_24 rfl rfl ?_
        refine G.geti 25 ck_2 1 (hs.k k0_259) (by decide) (by decide +kernel) wd_351 dX2_followsTest_25 ?_
        refine G.if_le 28 48 dX2_followsTest_28 (by decide) (fun h8 => ?_) (fun h8 => ?_)
        · replace hf := (if_pos h8).symm.trans hf
          refine G.iconst 48 (0 : Int32) dX2_followsTest_48 (by decide +kernel) ?_
          (have hf9 := Option.some.inj hf; subst hf9)
          exact G.rZ 49 hq dX2_followsTest_49 hs (Or.inl rfl)
        · replace hf := (if_neg h8).symm.trans hf
          refine G.aload_n 31 0 dX2_followsTest_31 rfl rfl ?_
          refine G.dup 32 dX2_followsTest_32 rfl ?_
          refine G.geti 33 ck_2 1 (hs.k k0_259) (by decide) (by decide +kernel) wd_351 dX2_followsTest_33 ?_
          refine G.iconst 36 (1 : Int32) dX2_followsTest_36 (by decide +kernel) ?_
          refine G.isub 37 dX2_followsTest_37 ?_
          refine G.puti 38 ck_2 1 (hs.k k0_259) (by decide) (by decide +kernel) rfl wd_351 rfl rfl dX2_followsTest_38 ?_
          refine G.aload_n 41 0 dX2_followsTest_41 rfl rfl ?_
          refine G.bipush 42 (6 : Int32) dX2_followsTest_42 (by decide +kernel) ?_
          obtain ⟨q11, e12, hf⟩ := bd_e hf
          refine G.cvZ 44 (As := [.int (6 : Int32)]) ck_2 ((St.i hs).k k0_259) (c_X2_become Z (St.i hs) (6 : Int32) e12) mk_X2_become vk_X2_become rfl wd_890 hR (by decide +kernel) ⟨rfl, rfl⟩ rfl (Nat.le_of_ble_eq_true rfl) dX2_followsTest_44 (fun hs9 z10 => ?_)
          (have hf9 := Option.some.inj hf; subst hf9)
          exact G.rZ 47 hq dX2_followsTest_47 hs9 z10
    · replace hf := (if_pos h6).symm.trans hf
      refine G.locs [0] rfl ?_
      exact b_X2_followsTest_12 Z X hR hq hs hf
abbrev Y_X2_followsAtom : My := (cX2_followsAtom, RX2, 2)
def rm_X2_followsAtom : Room := { frames := 3, cells := 0, slots := 0, locals := 242 }
theorem dX2_followsAtom_0 : decode cX2_followsAtom 0 = .ok (.iload_n 1, 1) := by decide +kernel
theorem dX2_followsAtom_1 : decode cX2_followsAtom 1 = .ok (.lookupswitch 93 #[(37, 67), (42, 67), (43, 67), (45, 67), (60, 73), (61, 73), (62, 73)], 67) := by decide +kernel
theorem dX2_followsAtom_68 : decode cX2_followsAtom 68 = .ok (.aload_n 0, 1) := by decide +kernel
theorem dX2_followsAtom_69 : decode cX2_followsAtom 69 = .ok (.iconst 3, 1) := by decide +kernel
theorem dX2_followsAtom_70 : decode cX2_followsAtom 70 = .ok (.invokevirtual 28, 3) := by decide +kernel
theorem dX2_followsAtom_73 : decode cX2_followsAtom 73 = .ok (.ireturn, 1) := by decide +kernel
theorem dX2_followsAtom_74 : decode cX2_followsAtom 74 = .ok (.aload_n 0, 1) := by decide +kernel
theorem dX2_followsAtom_75 : decode cX2_followsAtom 75 = .ok (.getfield 24, 3) := by decide +kernel
theorem dX2_followsAtom_78 : decode cX2_followsAtom 78 = .ok (.ifCond .eq 5, 3) := by decide +kernel
theorem dX2_followsAtom_81 : decode cX2_followsAtom 81 = .ok (.iconst 0, 1) := by decide +kernel
theorem dX2_followsAtom_82 : decode cX2_followsAtom 82 = .ok (.ireturn, 1) := by decide +kernel
theorem dX2_followsAtom_83 : decode cX2_followsAtom 83 = .ok (.aload_n 0, 1) := by decide +kernel
theorem dX2_followsAtom_84 : decode cX2_followsAtom 84 = .ok (.iconst 1, 1) := by decide +kernel
theorem dX2_followsAtom_85 : decode cX2_followsAtom 85 = .ok (.putfield 24, 3) := by decide +kernel
theorem dX2_followsAtom_88 : decode cX2_followsAtom 88 = .ok (.aload_n 0, 1) := by decide +kernel
theorem dX2_followsAtom_89 : decode cX2_followsAtom 89 = .ok (.iconst 3, 1) := by decide +kernel
theorem dX2_followsAtom_90 : decode cX2_followsAtom 90 = .ok (.invokevirtual 28, 3) := by decide +kernel
theorem dX2_followsAtom_93 : decode cX2_followsAtom 93 = .ok (.ireturn, 1) := by decide +kernel
theorem dX2_followsAtom_94 : decode cX2_followsAtom 94 = .ok (.aload_n 0, 1) := by decide +kernel
theorem dX2_followsAtom_95 : decode cX2_followsAtom 95 = .ok (.getfield 24, 3) := by decide +kernel
theorem dX2_followsAtom_98 : decode cX2_followsAtom 98 = .ok (.ifCond .eq 15, 3) := by decide +kernel
theorem dX2_followsAtom_101 : decode cX2_followsAtom 101 = .ok (.aload_n 0, 1) := by decide +kernel
theorem dX2_followsAtom_102 : decode cX2_followsAtom 102 = .ok (.iload_n 1, 1) := by decide +kernel
theorem dX2_followsAtom_103 : decode cX2_followsAtom 103 = .ok (.invokevirtual 43, 3) := by decide +kernel
theorem dX2_followsAtom_106 : decode cX2_followsAtom 106 = .ok (.ifCond .eq 7, 3) := by decide +kernel
theorem dX2_followsAtom_109 : decode cX2_followsAtom 109 = .ok (.iconst 1, 1) := by decide +kernel
theorem dX2_followsAtom_110 : decode cX2_followsAtom 110 = .ok (.goto 4, 3) := by decide +kernel
theorem dX2_followsAtom_113 : decode cX2_followsAtom 113 = .ok (.iconst 0, 1) := by decide +kernel
theorem dX2_followsAtom_114 : decode cX2_followsAtom 114 = .ok (.ireturn, 1) := by decide +kernel
def f_X2_followsAtom (x1 : Int32) (M : Mem) : Option (Int32 × Mem) := if x1 = (37 : Int32) then (f_X2_become (3 : Int32) M).bind fun q4 => some (q4.1, q4.2) else if x1 = (42 : Int32) then (f_X2_become (3 : Int32) M).bind fun q9 => some (q9.1, q9.2) else if x1 = (43 : Int32) then (f_X2_become (3 : Int32) M).bind fun q14 => some (q14.1, q14.2) else if x1 = (45 : Int32) then (f_X2_become (3 : Int32) M).bind fun q19 => some (q19.1, q19.2) else if x1 = (60 : Int32) then if (mI M 259 2) = 0 then (f_X2_become (3 : Int32) (sI M 259 2 (1 : Int32))).bind fun q25 => some (q25.1, q25.2) else some ((0 : Int32), M) else if x1 = (61 : Int32) then if (mI M 259 2) = 0 then (f_X2_become (3 : Int32) (sI M 259 2 (1 : Int32))).bind fun q31 => some (q31.1, q31.2) else some ((0 : Int32), M) else if x1 = (62 : Int32) then if (mI M 259 2) = 0 then (f_X2_become (3 : Int32) (sI M 259 2 (1 : Int32))).bind fun q37 => some (q37.1, q37.2) else some ((0 : Int32), M) else if (mI M 259 2) = 0 then some ((0 : Int32), M) else (f_X2_followsTest x1 M).bind fun q42 => if q42.1 = 0 then some ((0 : Int32), q42.2) else some ((1 : Int32), q42.2)
set_option maxRecDepth 100000 in
set_option maxHeartbeats 4000000 in
theorem c_X2_followsAtom (Z : Sys) {M : Mem} (hs : St M) (x1 : Int32) {q : Int32 × Mem} (hf : f_X2_followsAtom x1 M = some q) : Ct Z yX2_followsAtom cX2_followsAtom 2 (some .boolean) rm_X2_followsAtom [.ref (zs Z + 259), .int x1] M False (PostZ q.1 q.2) := by
  refine Ct.of (by decide +kernel) (Nat.le_of_ble_eq_true rfl) (fun X hR hq _ => ?_)
  show G Z X Y_X2_followsAtom False 0 0 0 [(0, .ref (zs Z + 259)), (1, .int x1)] [] M
  replace hq : RetOk Z X (some .boolean) False (PostZ q.1 q.2) 0 0 := hq
  unfold f_X2_followsAtom at hf
  refine G.iload_n 0 1 dX2_followsAtom_0 rfl rfl ?_
  by_cases h1 : x1 = (37 : Int32)
  · replace hf := (if_pos h1).symm.trans hf
    refine G.lookup 1 68 (off := 67) dX2_followsAtom_1 (by decide +kernel) (by rw [h1]; decide +kernel) (by decide) ?_
    refine G.aload_n 68 0 dX2_followsAtom_68 rfl rfl ?_
    refine G.iconst 69 (3 : Int32) dX2_followsAtom_69 (by decide +kernel) ?_
    obtain ⟨q4, e5, hf⟩ := bd_e hf
    refine G.cvZ 70 (As := [.int (3 : Int32)]) ck_2 (hs.k k0_259) (c_X2_become Z hs (3 : Int32) e5) mk_X2_become vk_X2_become rfl wd_890 hR (by decide +kernel) ⟨rfl, rfl⟩ rfl (Nat.le_of_ble_eq_true rfl) dX2_followsAtom_70 (fun hs2 z3 => ?_)
    (have hf9 := Option.some.inj hf; subst hf9)
    exact G.rZ 73 hq dX2_followsAtom_73 hs2 z3
  · replace hf := (if_neg h1).symm.trans hf
    by_cases h6 : x1 = (42 : Int32)
    · replace hf := (if_pos h6).symm.trans hf
      refine G.lookup 1 68 (off := 67) dX2_followsAtom_1 (by decide +kernel) (by rw [h6]; decide +kernel) (by decide) ?_
      refine G.aload_n 68 0 dX2_followsAtom_68 rfl rfl ?_
      refine G.iconst 69 (3 : Int32) dX2_followsAtom_69 (by decide +kernel) ?_
      obtain ⟨q9, e10, hf⟩ := bd_e hf
      refine G.cvZ 70 (As := [.int (3 : Int32)]) ck_2 (hs.k k0_259) (c_X2_become Z hs (3 : Int32) e10) mk_X2_become vk_X2_become rfl wd_890 hR (by decide +kernel) ⟨rfl, rfl⟩ rfl (Nat.le_of_ble_eq_true rfl) dX2_followsAtom_70 (fun hs7 z8 => ?_)
      (have hf9 := Option.some.inj hf; subst hf9)
      exact G.rZ 73 hq dX2_followsAtom_73 hs7 z8
    · replace hf := (if_neg h6).symm.trans hf
      by_cases h11 : x1 = (43 : Int32)
      · replace hf := (if_pos h11).symm.trans hf
        refine G.lookup 1 68 (off := 67) dX2_followsAtom_1 (by decide +kernel) (by rw [h11]; decide +kernel) (by decide) ?_
        refine G.aload_n 68 0 dX2_followsAtom_68 rfl rfl ?_
        refine G.iconst 69 (3 : Int32) dX2_followsAtom_69 (by decide +kernel) ?_
        obtain ⟨q14, e15, hf⟩ := bd_e hf
        refine G.cvZ 70 (As := [.int (3 : Int32)]) ck_2 (hs.k k0_259) (c_X2_become Z hs (3 : Int32) e15) mk_X2_become vk_X2_become rfl wd_890 hR (by decide +kernel) ⟨rfl, rfl⟩ rfl (Nat.le_of_ble_eq_true rfl) dX2_followsAtom_70 (fun hs12 z13 => ?_)
        (have hf9 := Option.some.inj hf; subst hf9)
        exact G.rZ 73 hq dX2_followsAtom_73 hs12 z13
      · replace hf := (if_neg h11).symm.trans hf
        by_cases h16 : x1 = (45 : Int32)
        · replace hf := (if_pos h16).symm.trans hf
          refine G.lookup 1 68 (off := 67) dX2_followsAtom_1 (by decide +kernel) (by rw [h16]; decide +kernel) (by decide) ?_
          refine G.aload_n 68 0 dX2_followsAtom_68 rfl rfl ?_
          refine G.iconst 69 (3 : Int32) dX2_followsAtom_69 (by decide +kernel) ?_
          obtain ⟨q19, e20, hf⟩ := bd_e hf
          refine G.cvZ 70 (As := [.int (3 : Int32)]) ck_2 (hs.k k0_259) (c_X2_become Z hs (3 : Int32) e20) mk_X2_become vk_X2_become rfl wd_890 hR (by decide +kernel) ⟨rfl, rfl⟩ rfl (Nat.le_of_ble_eq_true rfl) dX2_followsAtom_70 (fun hs17 z18 => ?_)
          (have hf9 := Option.some.inj hf; subst hf9)
          exact G.rZ 73 hq dX2_followsAtom_73 hs17 z18
        · replace hf := (if_neg h16).symm.trans hf
          by_cases h21 : x1 = (60 : Int32)
          · replace hf := (if_pos h21).symm.trans hf
            refine G.lookup 1 74 (off := 73) dX2_followsAtom_1 (by decide +kernel) (by rw [h21]; decide +kernel) (by decide) ?_
            refine G.aload_n 74 0 dX2_followsAtom_74 rfl rfl ?_
            refine G.geti 75 ck_2 2 (hs.k k0_259) (by decide) (by decide +kernel) wd_352 dX2_followsAtom_75 ?_
            refine G.if_eq 78 83 dX2_followsAtom_78 (by decide) (fun h22 => ?_) (fun h22 => ?_)
            · replace hf := (if_pos h22).symm.trans hf
              refine G.aload_n 83 0 dX2_followsAtom_83 rfl rfl ?_
              refine G.iconst 84 (1 : Int32) dX2_followsAtom_84 (by decide +kernel) ?_
              refine G.puti 85 ck_2 2 (hs.k k0_259) (by decide) (by decide +kernel) rfl wd_352 rfl rfl dX2_followsAtom_85 ?_
              refine G.aload_n 88 0 dX2_followsAtom_88 rfl rfl ?_
              refine G.iconst 89 (3 : Int32) dX2_followsAtom_89 (by decide +kernel) ?_
              obtain ⟨q25, e26, hf⟩ := bd_e hf
              refine G.cvZ 90 (As := [.int (3 : Int32)]) ck_2 ((St.i hs).k k0_259) (c_X2_become Z (St.i hs) (3 : Int32) e26) mk_X2_become vk_X2_become rfl wd_890 hR (by decide +kernel) ⟨rfl, rfl⟩ rfl (Nat.le_of_ble_eq_true rfl) dX2_followsAtom_90 (fun hs23 z24 => ?_)
              (have hf9 := Option.some.inj hf; subst hf9)
              exact G.rZ 93 hq dX2_followsAtom_93 hs23 z24
            · replace hf := (if_neg h22).symm.trans hf
              refine G.iconst 81 (0 : Int32) dX2_followsAtom_81 (by decide +kernel) ?_
              (have hf9 := Option.some.inj hf; subst hf9)
              exact G.rZ 82 hq dX2_followsAtom_82 hs (Or.inl rfl)
          · replace hf := (if_neg h21).symm.trans hf
            by_cases h27 : x1 = (61 : Int32)
            · replace hf := (if_pos h27).symm.trans hf
              refine G.lookup 1 74 (off := 73) dX2_followsAtom_1 (by decide +kernel) (by rw [h27]; decide +kernel) (by decide) ?_
              refine G.aload_n 74 0 dX2_followsAtom_74 rfl rfl ?_
              refine G.geti 75 ck_2 2 (hs.k k0_259) (by decide) (by decide +kernel) wd_352 dX2_followsAtom_75 ?_
              refine G.if_eq 78 83 dX2_followsAtom_78 (by decide) (fun h28 => ?_) (fun h28 => ?_)
              · replace hf := (if_pos h28).symm.trans hf
                refine G.aload_n 83 0 dX2_followsAtom_83 rfl rfl ?_
                refine G.iconst 84 (1 : Int32) dX2_followsAtom_84 (by decide +kernel) ?_
                refine G.puti 85 ck_2 2 (hs.k k0_259) (by decide) (by decide +kernel) rfl wd_352 rfl rfl dX2_followsAtom_85 ?_
                refine G.aload_n 88 0 dX2_followsAtom_88 rfl rfl ?_
                refine G.iconst 89 (3 : Int32) dX2_followsAtom_89 (by decide +kernel) ?_
                obtain ⟨q31, e32, hf⟩ := bd_e hf
                refine G.cvZ 90 (As := [.int (3 : Int32)]) ck_2 ((St.i hs).k k0_259) (c_X2_become Z (St.i hs) (3 : Int32) e32) mk_X2_become vk_X2_become rfl wd_890 hR (by decide +kernel) ⟨rfl, rfl⟩ rfl (Nat.le_of_ble_eq_true rfl) dX2_followsAtom_90 (fun hs29 z30 => ?_)
                (have hf9 := Option.some.inj hf; subst hf9)
                exact G.rZ 93 hq dX2_followsAtom_93 hs29 z30
              · replace hf := (if_neg h28).symm.trans hf
                refine G.iconst 81 (0 : Int32) dX2_followsAtom_81 (by decide +kernel) ?_
                (have hf9 := Option.some.inj hf; subst hf9)
                exact G.rZ 82 hq dX2_followsAtom_82 hs (Or.inl rfl)
            · replace hf := (if_neg h27).symm.trans hf
              by_cases h33 : x1 = (62 : Int32)
              · replace hf := (if_pos h33).symm.trans hf
                refine G.lookup 1 74 (off := 73) dX2_followsAtom_1 (by decide +kernel) (by rw [h33]; decide +kernel) (by decide) ?_
                refine G.aload_n 74 0 dX2_followsAtom_74 rfl rfl ?_
                refine G.geti 75 ck_2 2 (hs.k k0_259) (by decide) (by decide +kernel) wd_352 dX2_followsAtom_75 ?_
                refine G.if_eq 78 83 dX2_followsAtom_78 (by decide) (fun h34 => ?_) (fun h34 => ?_)
                · replace hf := (if_pos h34).symm.trans hf
                  refine G.aload_n 83 0 dX2_followsAtom_83 rfl rfl ?_
                  refine G.iconst 84 (1 : Int32) dX2_followsAtom_84 (by decide +kernel) ?_
                  refine G.puti 85 ck_2 2 (hs.k k0_259) (by decide) (by decide +kernel) rfl wd_352 rfl rfl dX2_followsAtom_85 ?_
                  refine G.aload_n 88 0 dX2_followsAtom_88 rfl rfl ?_
                  refine G.iconst 89 (3 : Int32) dX2_followsAtom_89 (by decide +kernel) ?_
                  obtain ⟨q37, e38, hf⟩ := bd_e hf
                  refine G.cvZ 90 (As := [.int (3 : Int32)]) ck_2 ((St.i hs).k k0_259) (c_X2_become Z (St.i hs) (3 : Int32) e38) mk_X2_become vk_X2_become rfl wd_890 hR (by decide +kernel) ⟨rfl, rfl⟩ rfl (Nat.le_of_ble_eq_true rfl) dX2_followsAtom_90 (fun hs35 z36 => ?_)
                  (have hf9 := Option.some.inj hf; subst hf9)
                  exact G.rZ 93 hq dX2_followsAtom_93 hs35 z36
                · replace hf := (if_neg h34).symm.trans hf
                  refine G.iconst 81 (0 : Int32) dX2_followsAtom_81 (by decide +kernel) ?_
                  (have hf9 := Option.some.inj hf; subst hf9)
                  exact G.rZ 82 hq dX2_followsAtom_82 hs (Or.inl rfl)
              · replace hf := (if_neg h33).symm.trans hf
                have t_h1 := ti (37 : Int32) (37) (by decide +kernel) h1
                have t_h6 := ti (42 : Int32) (42) (by decide +kernel) h6
                have t_h11 := ti (43 : Int32) (43) (by decide +kernel) h11
                have t_h16 := ti (45 : Int32) (45) (by decide +kernel) h16
                have t_h21 := ti (60 : Int32) (60) (by decide +kernel) h21
                have t_h27 := ti (61 : Int32) (61) (by decide +kernel) h27
                have t_h33 := ti (62 : Int32) (62) (by decide +kernel) h33
                refine G.lookup 1 94 dX2_followsAtom_1 (by decide +kernel) (lk_d (by intro a ha; simp at ha; omega)) (by decide) ?_
                refine G.aload_n 94 0 dX2_followsAtom_94 rfl rfl ?_
                refine G.geti 95 ck_2 2 (hs.k k0_259) (by decide) (by decide +kernel) wd_352 dX2_followsAtom_95 ?_
                refine G.if_eq 98 113 dX2_followsAtom_98 (by decide) (fun h39 => ?_) (fun h39 => ?_)
                · replace hf := (if_pos h39).symm.trans hf
                  refine G.iconst 113 (0 : Int32) dX2_followsAtom_113 (by decide +kernel) ?_
                  (have hf9 := Option.some.inj hf; subst hf9)
                  exact G.rZ 114 hq dX2_followsAtom_114 hs (Or.inl rfl)
                · replace hf := (if_neg h39).symm.trans hf
                  refine G.aload_n 101 0 dX2_followsAtom_101 rfl rfl ?_
                  refine G.iload_n 102 1 dX2_followsAtom_102 rfl rfl ?_
                  obtain ⟨q42, e43, hf⟩ := bd_e hf
                  refine G.cvZ 103 (As := [.int x1]) ck_2 (hs.k k0_259) (c_X2_followsTest Z hs x1 e43) mk_X2_followsTest vk_X2_followsTest rfl wd_999 hR (by decide +kernel) ⟨rfl, rfl⟩ rfl (Nat.le_of_ble_eq_true rfl) dX2_followsAtom_103 (fun hs40 z41 => ?_)
                  refine G.if_eq 106 113 dX2_followsAtom_106 (by decide) (fun h44 => ?_) (fun h44 => ?_)
                  · replace hf := (if_pos h44).symm.trans hf
                    refine G.iconst 113 (0 : Int32) dX2_followsAtom_113 (by decide +kernel) ?_
                    (have hf9 := Option.some.inj hf; subst hf9)
                    exact G.rZ 114 hq dX2_followsAtom_114 hs40 (Or.inl rfl)
                  · replace hf := (if_neg h44).symm.trans hf
                    refine G.iconst 109 (1 : Int32) dX2_followsAtom_109 (by decide +kernel) ?_
                    refine G.goto 110 114 dX2_followsAtom_110 (by decide) ?_
                    (have hf9 := Option.some.inj hf; subst hf9)
                    exact G.rZ 114 hq dX2_followsAtom_114 hs40 (Or.inr rfl)
abbrev Y_X2_goesOn : My := (cX2_goesOn, RX2, 2)
def rm_X2_goesOn : Room := { frames := 23, cells := 0, slots := 0, locals := 1062 }
theorem dX2_goesOn_0 : decode cX2_goesOn 0 = .ok (.aload_n 0, 1) := by decide +kernel
theorem dX2_goesOn_1 : decode cX2_goesOn 1 = .ok (.getfield 9, 3) := by decide +kernel
theorem dX2_goesOn_4 : decode cX2_goesOn 4 = .ok (.tableswitch 126 0 5 #[40, 66, 86, 92, 98, 120], 40) := by decide +kernel
theorem dX2_goesOn_44 : decode cX2_goesOn 44 = .ok (.iload_n 1, 1) := by decide +kernel
theorem dX2_goesOn_45 : decode cX2_goesOn 45 = .ok (.bipush 65, 2) := by decide +kernel
theorem dX2_goesOn_47 : decode cX2_goesOn 47 = .ok (.if_icmp .lt 21, 3) := by decide +kernel
theorem dX2_goesOn_50 : decode cX2_goesOn 50 = .ok (.iload_n 1, 1) := by decide +kernel
theorem dX2_goesOn_51 : decode cX2_goesOn 51 = .ok (.bipush 90, 2) := by decide +kernel
theorem dX2_goesOn_53 : decode cX2_goesOn 53 = .ok (.if_icmp .gt 15, 3) := by decide +kernel
theorem dX2_goesOn_56 : decode cX2_goesOn 56 = .ok (.aload_n 0, 1) := by decide +kernel
theorem dX2_goesOn_57 : decode cX2_goesOn 57 = .ok (.iconst 1, 1) := by decide +kernel
theorem dX2_goesOn_58 : decode cX2_goesOn 58 = .ok (.invokevirtual 28, 3) := by decide +kernel
theorem dX2_goesOn_61 : decode cX2_goesOn 61 = .ok (.ifCond .eq 7, 3) := by decide +kernel
theorem dX2_goesOn_64 : decode cX2_goesOn 64 = .ok (.iconst 1, 1) := by decide +kernel
theorem dX2_goesOn_65 : decode cX2_goesOn 65 = .ok (.goto 4, 3) := by decide +kernel
theorem dX2_goesOn_68 : decode cX2_goesOn 68 = .ok (.iconst 0, 1) := by decide +kernel
theorem dX2_goesOn_69 : decode cX2_goesOn 69 = .ok (.ireturn, 1) := by decide +kernel
theorem dX2_goesOn_70 : decode cX2_goesOn 70 = .ok (.iload_n 1, 1) := by decide +kernel
theorem dX2_goesOn_71 : decode cX2_goesOn 71 = .ok (.bipush 58, 2) := by decide +kernel
theorem dX2_goesOn_73 : decode cX2_goesOn 73 = .ok (.if_icmp .ne 15, 3) := by decide +kernel
theorem dX2_goesOn_76 : decode cX2_goesOn 76 = .ok (.aload_n 0, 1) := by decide +kernel
theorem dX2_goesOn_77 : decode cX2_goesOn 77 = .ok (.iconst 2, 1) := by decide +kernel
theorem dX2_goesOn_78 : decode cX2_goesOn 78 = .ok (.invokevirtual 28, 3) := by decide +kernel
theorem dX2_goesOn_81 : decode cX2_goesOn 81 = .ok (.ifCond .eq 7, 3) := by decide +kernel
theorem dX2_goesOn_84 : decode cX2_goesOn 84 = .ok (.iconst 1, 1) := by decide +kernel
theorem dX2_goesOn_85 : decode cX2_goesOn 85 = .ok (.goto 4, 3) := by decide +kernel
theorem dX2_goesOn_88 : decode cX2_goesOn 88 = .ok (.iconst 0, 1) := by decide +kernel
theorem dX2_goesOn_89 : decode cX2_goesOn 89 = .ok (.ireturn, 1) := by decide +kernel
theorem dX2_goesOn_90 : decode cX2_goesOn 90 = .ok (.aload_n 0, 1) := by decide +kernel
theorem dX2_goesOn_91 : decode cX2_goesOn 91 = .ok (.iload_n 1, 1) := by decide +kernel
theorem dX2_goesOn_92 : decode cX2_goesOn 92 = .ok (.invokevirtual 31, 3) := by decide +kernel
theorem dX2_goesOn_95 : decode cX2_goesOn 95 = .ok (.ireturn, 1) := by decide +kernel
theorem dX2_goesOn_96 : decode cX2_goesOn 96 = .ok (.aload_n 0, 1) := by decide +kernel
theorem dX2_goesOn_97 : decode cX2_goesOn 97 = .ok (.iload_n 1, 1) := by decide +kernel
theorem dX2_goesOn_98 : decode cX2_goesOn 98 = .ok (.invokevirtual 34, 3) := by decide +kernel
theorem dX2_goesOn_101 : decode cX2_goesOn 101 = .ok (.ireturn, 1) := by decide +kernel
theorem dX2_goesOn_102 : decode cX2_goesOn 102 = .ok (.aload_n 0, 1) := by decide +kernel
theorem dX2_goesOn_103 : decode cX2_goesOn 103 = .ok (.iload_n 1, 1) := by decide +kernel
theorem dX2_goesOn_104 : decode cX2_goesOn 104 = .ok (.invokevirtual 37, 3) := by decide +kernel
theorem dX2_goesOn_107 : decode cX2_goesOn 107 = .ok (.ifCond .ne 11, 3) := by decide +kernel
theorem dX2_goesOn_110 : decode cX2_goesOn 110 = .ok (.aload_n 0, 1) := by decide +kernel
theorem dX2_goesOn_111 : decode cX2_goesOn 111 = .ok (.iload_n 1, 1) := by decide +kernel
theorem dX2_goesOn_112 : decode cX2_goesOn 112 = .ok (.invokevirtual 40, 3) := by decide +kernel
theorem dX2_goesOn_115 : decode cX2_goesOn 115 = .ok (.ifCond .eq 7, 3) := by decide +kernel
theorem dX2_goesOn_118 : decode cX2_goesOn 118 = .ok (.iconst 1, 1) := by decide +kernel
theorem dX2_goesOn_119 : decode cX2_goesOn 119 = .ok (.goto 4, 3) := by decide +kernel
theorem dX2_goesOn_122 : decode cX2_goesOn 122 = .ok (.iconst 0, 1) := by decide +kernel
theorem dX2_goesOn_123 : decode cX2_goesOn 123 = .ok (.ireturn, 1) := by decide +kernel
theorem dX2_goesOn_124 : decode cX2_goesOn 124 = .ok (.aload_n 0, 1) := by decide +kernel
theorem dX2_goesOn_125 : decode cX2_goesOn 125 = .ok (.iload_n 1, 1) := by decide +kernel
theorem dX2_goesOn_126 : decode cX2_goesOn 126 = .ok (.invokevirtual 40, 3) := by decide +kernel
theorem dX2_goesOn_129 : decode cX2_goesOn 129 = .ok (.ireturn, 1) := by decide +kernel
theorem dX2_goesOn_130 : decode cX2_goesOn 130 = .ok (.aload_n 0, 1) := by decide +kernel
theorem dX2_goesOn_131 : decode cX2_goesOn 131 = .ok (.iload_n 1, 1) := by decide +kernel
theorem dX2_goesOn_132 : decode cX2_goesOn 132 = .ok (.invokevirtual 43, 3) := by decide +kernel
theorem dX2_goesOn_135 : decode cX2_goesOn 135 = .ok (.ireturn, 1) := by decide +kernel
def B_X2_goesOn_118 (M : Mem) : Option (Int32 × Mem) := some ((1 : Int32), M)
def f_X2_goesOn (x1 : Int32) (M : Mem) : Option (Int32 × Mem) := if (mI M 259 0) = (0 : Int32) then if x1 < (65 : Int32) then some ((0 : Int32), M) else if (90 : Int32) < x1 then some ((0 : Int32), M) else (f_X2_become (1 : Int32) M).bind fun q6 => if q6.1 = 0 then some ((0 : Int32), q6.2) else some ((1 : Int32), q6.2) else if (mI M 259 0) = (1 : Int32) then if x1 = (58 : Int32) then (f_X2_become (2 : Int32) M).bind fun q13 => if q13.1 = 0 then some ((0 : Int32), q13.2) else some ((1 : Int32), q13.2) else some ((0 : Int32), M) else if (mI M 259 0) = (2 : Int32) then (f_X2_beginsTest x1 M).bind fun q19 => some (q19.1, q19.2) else if (mI M 259 0) = (3 : Int32) then (f_X2_beginsAtom x1 M).bind fun q24 => some (q24.1, q24.2) else if (mI M 259 0) = (4 : Int32) then (f_X2_addsDigit x1 M).bind fun q29 => if q29.1 = 0 then (f_X2_followsAtom x1 q29.2).bind fun q34 => if q34.1 = 0 then some ((0 : Int32), q34.2) else B_X2_goesOn_118 q34.2 else B_X2_goesOn_118 q29.2 else if (mI M 259 0) = (5 : Int32) then (f_X2_followsAtom x1 M).bind fun q40 => some (q40.1, q40.2) else (f_X2_followsTest x1 M).bind fun q44 => some (q44.1, q44.2)
set_option maxRecDepth 100000 in
set_option maxHeartbeats 4000000 in
theorem b_X2_goesOn_118 (Z : Sys) (X : Cx) (hR : xR X = rm_X2_goesOn) {q : Int32 × Mem} (hq : RetOk Z X (some .boolean) False (PostZ q.1 q.2) 0 0) {M : Mem} (hs : St M) (hf : B_X2_goesOn_118 M = some q) : G Z X Y_X2_goesOn False 0 0 118 [] [] M := by
  unfold B_X2_goesOn_118 at hf
  refine G.iconst 118 (1 : Int32) dX2_goesOn_118 (by decide +kernel) ?_
  refine G.goto 119 123 dX2_goesOn_119 (by decide) ?_
  (have hf9 := Option.some.inj hf; subst hf9)
  exact G.rZ 123 hq dX2_goesOn_123 hs (Or.inr rfl)
set_option maxRecDepth 100000 in
set_option maxHeartbeats 4000000 in
theorem c_X2_goesOn (Z : Sys) {M : Mem} (hs : St M) (x1 : Int32) {q : Int32 × Mem} (hf : f_X2_goesOn x1 M = some q) : Ct Z yX2_goesOn cX2_goesOn 2 (some .boolean) rm_X2_goesOn [.ref (zs Z + 259), .int x1] M False (PostZ q.1 q.2) := by
  refine Ct.of (by decide +kernel) (Nat.le_of_ble_eq_true rfl) (fun X hR hq _ => ?_)
  show G Z X Y_X2_goesOn False 0 0 0 [(0, .ref (zs Z + 259)), (1, .int x1)] [] M
  replace hq : RetOk Z X (some .boolean) False (PostZ q.1 q.2) 0 0 := hq
  unfold f_X2_goesOn at hf
  refine G.aload_n 0 0 dX2_goesOn_0 rfl rfl ?_
  refine G.geti 1 ck_2 0 (hs.k k0_259) (by decide) (by decide +kernel) wd_350 dX2_goesOn_1 ?_
  by_cases h1 : (mI M 259 0) = (0 : Int32)
  · replace hf := (if_pos h1).symm.trans hf
    refine G.tableIn 4 44 (off := 40) dX2_goesOn_4 (by rw [h1]; decide +kernel) (by rw [h1]; decide +kernel) (by rw [h1]; decide +kernel) (by decide) ?_
    refine G.iload_n 44 1 dX2_goesOn_44 rfl rfl ?_
    refine G.bipush 45 (65 : Int32) dX2_goesOn_45 (by decide +kernel) ?_
    refine G.icmp_lt 47 68 dX2_goesOn_47 (by decide) (fun h2 => ?_) (fun h2 => ?_)
    · replace hf := (if_pos h2).symm.trans hf
      refine G.iconst 68 (0 : Int32) dX2_goesOn_68 (by decide +kernel) ?_
      (have hf9 := Option.some.inj hf; subst hf9)
      exact G.rZ 69 hq dX2_goesOn_69 hs (Or.inl rfl)
    · replace hf := (if_neg h2).symm.trans hf
      refine G.iload_n 50 1 dX2_goesOn_50 rfl rfl ?_
      refine G.bipush 51 (90 : Int32) dX2_goesOn_51 (by decide +kernel) ?_
      refine G.icmp_gt 53 68 dX2_goesOn_53 (by decide) (fun h3 => ?_) (fun h3 => ?_)
      · replace hf := (if_pos h3).symm.trans hf
        refine G.iconst 68 (0 : Int32) dX2_goesOn_68 (by decide +kernel) ?_
        (have hf9 := Option.some.inj hf; subst hf9)
        exact G.rZ 69 hq dX2_goesOn_69 hs (Or.inl rfl)
      · replace hf := (if_neg h3).symm.trans hf
        refine G.aload_n 56 0 dX2_goesOn_56 rfl rfl ?_
        refine G.iconst 57 (1 : Int32) dX2_goesOn_57 (by decide +kernel) ?_
        obtain ⟨q6, e7, hf⟩ := bd_e hf
        refine G.cvZ 58 (As := [.int (1 : Int32)]) ck_2 (hs.k k0_259) (c_X2_become Z hs (1 : Int32) e7) mk_X2_become vk_X2_become rfl wd_890 hR (by decide +kernel) ⟨rfl, rfl⟩ rfl (Nat.le_of_ble_eq_true rfl) dX2_goesOn_58 (fun hs4 z5 => ?_)
        refine G.if_eq 61 68 dX2_goesOn_61 (by decide) (fun h8 => ?_) (fun h8 => ?_)
        · replace hf := (if_pos h8).symm.trans hf
          refine G.iconst 68 (0 : Int32) dX2_goesOn_68 (by decide +kernel) ?_
          (have hf9 := Option.some.inj hf; subst hf9)
          exact G.rZ 69 hq dX2_goesOn_69 hs4 (Or.inl rfl)
        · replace hf := (if_neg h8).symm.trans hf
          refine G.iconst 64 (1 : Int32) dX2_goesOn_64 (by decide +kernel) ?_
          refine G.goto 65 69 dX2_goesOn_65 (by decide) ?_
          (have hf9 := Option.some.inj hf; subst hf9)
          exact G.rZ 69 hq dX2_goesOn_69 hs4 (Or.inr rfl)
  · replace hf := (if_neg h1).symm.trans hf
    by_cases h9 : (mI M 259 0) = (1 : Int32)
    · replace hf := (if_pos h9).symm.trans hf
      refine G.tableIn 4 70 (off := 66) dX2_goesOn_4 (by rw [h9]; decide +kernel) (by rw [h9]; decide +kernel) (by rw [h9]; decide +kernel) (by decide) ?_
      refine G.iload_n 70 1 dX2_goesOn_70 rfl rfl ?_
      refine G.bipush 71 (58 : Int32) dX2_goesOn_71 (by decide +kernel) ?_
      refine G.icmp_ne 73 88 dX2_goesOn_73 (by decide) (fun h10 => ?_) (fun h10 => ?_)
      · replace hf := (if_neg h10).symm.trans hf
        refine G.iconst 88 (0 : Int32) dX2_goesOn_88 (by decide +kernel) ?_
        (have hf9 := Option.some.inj hf; subst hf9)
        exact G.rZ 89 hq dX2_goesOn_89 hs (Or.inl rfl)
      · replace hf := (if_pos h10).symm.trans hf
        refine G.aload_n 76 0 dX2_goesOn_76 rfl rfl ?_
        refine G.iconst 77 (2 : Int32) dX2_goesOn_77 (by decide +kernel) ?_
        obtain ⟨q13, e14, hf⟩ := bd_e hf
        refine G.cvZ 78 (As := [.int (2 : Int32)]) ck_2 (hs.k k0_259) (c_X2_become Z hs (2 : Int32) e14) mk_X2_become vk_X2_become rfl wd_890 hR (by decide +kernel) ⟨rfl, rfl⟩ rfl (Nat.le_of_ble_eq_true rfl) dX2_goesOn_78 (fun hs11 z12 => ?_)
        refine G.if_eq 81 88 dX2_goesOn_81 (by decide) (fun h15 => ?_) (fun h15 => ?_)
        · replace hf := (if_pos h15).symm.trans hf
          refine G.iconst 88 (0 : Int32) dX2_goesOn_88 (by decide +kernel) ?_
          (have hf9 := Option.some.inj hf; subst hf9)
          exact G.rZ 89 hq dX2_goesOn_89 hs11 (Or.inl rfl)
        · replace hf := (if_neg h15).symm.trans hf
          refine G.iconst 84 (1 : Int32) dX2_goesOn_84 (by decide +kernel) ?_
          refine G.goto 85 89 dX2_goesOn_85 (by decide) ?_
          (have hf9 := Option.some.inj hf; subst hf9)
          exact G.rZ 89 hq dX2_goesOn_89 hs11 (Or.inr rfl)
    · replace hf := (if_neg h9).symm.trans hf
      by_cases h16 : (mI M 259 0) = (2 : Int32)
      · replace hf := (if_pos h16).symm.trans hf
        refine G.tableIn 4 90 (off := 86) dX2_goesOn_4 (by rw [h16]; decide +kernel) (by rw [h16]; decide +kernel) (by rw [h16]; decide +kernel) (by decide) ?_
        refine G.aload_n 90 0 dX2_goesOn_90 rfl rfl ?_
        refine G.iload_n 91 1 dX2_goesOn_91 rfl rfl ?_
        obtain ⟨q19, e20, hf⟩ := bd_e hf
        refine G.cvZ 92 (As := [.int x1]) ck_2 (hs.k k0_259) (c_X2_beginsTest Z hs x1 e20) mk_X2_beginsTest vk_X2_beginsTest rfl wd_894 hR (by decide +kernel) ⟨rfl, rfl⟩ rfl (Nat.le_of_ble_eq_true rfl) dX2_goesOn_92 (fun hs17 z18 => ?_)
        (have hf9 := Option.some.inj hf; subst hf9)
        exact G.rZ 95 hq dX2_goesOn_95 hs17 z18
      · replace hf := (if_neg h16).symm.trans hf
        by_cases h21 : (mI M 259 0) = (3 : Int32)
        · replace hf := (if_pos h21).symm.trans hf
          refine G.tableIn 4 96 (off := 92) dX2_goesOn_4 (by rw [h21]; decide +kernel) (by rw [h21]; decide +kernel) (by rw [h21]; decide +kernel) (by decide) ?_
          refine G.aload_n 96 0 dX2_goesOn_96 rfl rfl ?_
          refine G.iload_n 97 1 dX2_goesOn_97 rfl rfl ?_
          obtain ⟨q24, e25, hf⟩ := bd_e hf
          refine G.cvZ 98 (As := [.int x1]) ck_2 (hs.k k0_259) (c_X2_beginsAtom Z hs x1 e25) mk_X2_beginsAtom vk_X2_beginsAtom rfl wd_898 hR (by decide +kernel) ⟨rfl, rfl⟩ rfl (Nat.le_of_ble_eq_true rfl) dX2_goesOn_98 (fun hs22 z23 => ?_)
          (have hf9 := Option.some.inj hf; subst hf9)
          exact G.rZ 101 hq dX2_goesOn_101 hs22 z23
        · replace hf := (if_neg h21).symm.trans hf
          by_cases h26 : (mI M 259 0) = (4 : Int32)
          · replace hf := (if_pos h26).symm.trans hf
            refine G.tableIn 4 102 (off := 98) dX2_goesOn_4 (by rw [h26]; decide +kernel) (by rw [h26]; decide +kernel) (by rw [h26]; decide +kernel) (by decide) ?_
            refine G.aload_n 102 0 dX2_goesOn_102 rfl rfl ?_
            refine G.iload_n 103 1 dX2_goesOn_103 rfl rfl ?_
            obtain ⟨q29, e30, hf⟩ := bd_e hf
            refine G.cvZ 104 (As := [.int x1]) ck_2 (hs.k k0_259) (c_X2_addsDigit Z hs x1 e30) mk_X2_addsDigit vk_X2_addsDigit rfl wd_991 hR (by decide +kernel) ⟨rfl, rfl⟩ rfl (Nat.le_of_ble_eq_true rfl) dX2_goesOn_104 (fun hs27 z28 => ?_)
            refine G.if_ne 107 118 dX2_goesOn_107 (by decide) (fun h31 => ?_) (fun h31 => ?_)
            · replace hf := (if_neg h31).symm.trans hf
              refine G.locs [] rfl ?_
              exact b_X2_goesOn_118 Z X hR hq hs27 hf
            · replace hf := (if_pos h31).symm.trans hf
              refine G.aload_n 110 0 dX2_goesOn_110 rfl rfl ?_
              refine G.iload_n 111 1 dX2_goesOn_111 rfl rfl ?_
              obtain ⟨q34, e35, hf⟩ := bd_e hf
              refine G.cvZ 112 (As := [.int x1]) ck_2 (hs27.k k0_259) (c_X2_followsAtom Z hs27 x1 e35) mk_X2_followsAtom vk_X2_followsAtom rfl wd_995 hR (by decide +kernel) ⟨rfl, rfl⟩ rfl (Nat.le_of_ble_eq_true rfl) dX2_goesOn_112 (fun hs32 z33 => ?_)
              refine G.if_eq 115 122 dX2_goesOn_115 (by decide) (fun h36 => ?_) (fun h36 => ?_)
              · replace hf := (if_pos h36).symm.trans hf
                refine G.iconst 122 (0 : Int32) dX2_goesOn_122 (by decide +kernel) ?_
                (have hf9 := Option.some.inj hf; subst hf9)
                exact G.rZ 123 hq dX2_goesOn_123 hs32 (Or.inl rfl)
              · replace hf := (if_neg h36).symm.trans hf
                refine G.locs [] rfl ?_
                exact b_X2_goesOn_118 Z X hR hq hs32 hf
          · replace hf := (if_neg h26).symm.trans hf
            by_cases h37 : (mI M 259 0) = (5 : Int32)
            · replace hf := (if_pos h37).symm.trans hf
              refine G.tableIn 4 124 (off := 120) dX2_goesOn_4 (by rw [h37]; decide +kernel) (by rw [h37]; decide +kernel) (by rw [h37]; decide +kernel) (by decide) ?_
              refine G.aload_n 124 0 dX2_goesOn_124 rfl rfl ?_
              refine G.iload_n 125 1 dX2_goesOn_125 rfl rfl ?_
              obtain ⟨q40, e41, hf⟩ := bd_e hf
              refine G.cvZ 126 (As := [.int x1]) ck_2 (hs.k k0_259) (c_X2_followsAtom Z hs x1 e41) mk_X2_followsAtom vk_X2_followsAtom rfl wd_995 hR (by decide +kernel) ⟨rfl, rfl⟩ rfl (Nat.le_of_ble_eq_true rfl) dX2_goesOn_126 (fun hs38 z39 => ?_)
              (have hf9 := Option.some.inj hf; subst hf9)
              exact G.rZ 129 hq dX2_goesOn_129 hs38 z39
            · replace hf := (if_neg h37).symm.trans hf
              have t_h1 := ti (0 : Int32) (0) (by decide +kernel) h1
              have t_h9 := ti (1 : Int32) (1) (by decide +kernel) h9
              have t_h16 := ti (2 : Int32) (2) (by decide +kernel) h16
              have t_h21 := ti (3 : Int32) (3) (by decide +kernel) h21
              have t_h26 := ti (4 : Int32) (4) (by decide +kernel) h26
              have t_h37 := ti (5 : Int32) (5) (by decide +kernel) h37
              refine G.tableOut 4 130 dX2_goesOn_4 (by omega) (by decide) ?_
              refine G.aload_n 130 0 dX2_goesOn_130 rfl rfl ?_
              refine G.iload_n 131 1 dX2_goesOn_131 rfl rfl ?_
              obtain ⟨q44, e45, hf⟩ := bd_e hf
              refine G.cvZ 132 (As := [.int x1]) ck_2 (hs.k k0_259) (c_X2_followsTest Z hs x1 e45) mk_X2_followsTest vk_X2_followsTest rfl wd_999 hR (by decide +kernel) ⟨rfl, rfl⟩ rfl (Nat.le_of_ble_eq_true rfl) dX2_goesOn_132 (fun hs42 z43 => ?_)
              (have hf9 := Option.some.inj hf; subst hf9)
              exact G.rZ 135 hq dX2_goesOn_135 hs42 z43
