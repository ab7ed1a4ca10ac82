abbrev Y_X0_allUntrue : My := (cX0_allUntrue, RX0, 3)
def rm_X0_allUntrue : Room := { frames := 2, cells := 0, slots := 0, locals := 220 }
theorem dX0_allUntrue_0 : decode cX0_allUntrue 0 = .ok (.iconst 0, 1) := by decide +kernel
theorem dX0_allUntrue_1 : decode cX0_allUntrue 1 = .ok (.istore_n 1, 1) := by decide +kernel
theorem dX0_allUntrue_2 : decode cX0_allUntrue 2 = .ok (.iconst 0, 1) := by decide +kernel
theorem dX0_allUntrue_3 : decode cX0_allUntrue 3 = .ok (.istore_n 2, 1) := by decide +kernel
theorem dX0_allUntrue_4 : decode cX0_allUntrue 4 = .ok (.iload_n 2, 1) := by decide +kernel
theorem dX0_allUntrue_5 : decode cX0_allUntrue 5 = .ok (.aload_n 0, 1) := by decide +kernel
theorem dX0_allUntrue_6 : decode cX0_allUntrue 6 = .ok (.getfield 53, 3) := by decide +kernel
theorem dX0_allUntrue_9 : decode cX0_allUntrue 9 = .ok (.if_icmp .ge 37, 3) := by decide +kernel
theorem dX0_allUntrue_12 : decode cX0_allUntrue 12 = .ok (.iload_n 1, 1) := by decide +kernel
theorem dX0_allUntrue_13 : decode cX0_allUntrue 13 = .ok (.aload_n 0, 1) := by decide +kernel
theorem dX0_allUntrue_14 : decode cX0_allUntrue 14 = .ok (.getfield 13, 3) := by decide +kernel
theorem dX0_allUntrue_17 : decode cX0_allUntrue 17 = .ok (.iload_n 2, 1) := by decide +kernel
theorem dX0_allUntrue_18 : decode cX0_allUntrue 18 = .ok (.aaload, 1) := by decide +kernel
theorem dX0_allUntrue_19 : decode cX0_allUntrue 19 = .ok (.getfield 78, 3) := by decide +kernel
theorem dX0_allUntrue_22 : decode cX0_allUntrue 22 = .ok (.ifCond .eq 7, 3) := by decide +kernel
theorem dX0_allUntrue_25 : decode cX0_allUntrue 25 = .ok (.iconst 0, 1) := by decide +kernel
theorem dX0_allUntrue_26 : decode cX0_allUntrue 26 = .ok (.goto 12, 3) := by decide +kernel
theorem dX0_allUntrue_29 : decode cX0_allUntrue 29 = .ok (.aload_n 0, 1) := by decide +kernel
theorem dX0_allUntrue_30 : decode cX0_allUntrue 30 = .ok (.getfield 13, 3) := by decide +kernel
theorem dX0_allUntrue_33 : decode cX0_allUntrue 33 = .ok (.iload_n 2, 1) := by decide +kernel
theorem dX0_allUntrue_34 : decode cX0_allUntrue 34 = .ok (.aaload, 1) := by decide +kernel
theorem dX0_allUntrue_35 : decode cX0_allUntrue 35 = .ok (.invokevirtual 163, 3) := by decide +kernel
theorem dX0_allUntrue_38 : decode cX0_allUntrue 38 = .ok (.iadd, 1) := by decide +kernel
theorem dX0_allUntrue_39 : decode cX0_allUntrue 39 = .ok (.istore_n 1, 1) := by decide +kernel
theorem dX0_allUntrue_40 : decode cX0_allUntrue 40 = .ok (.iinc 2 1, 3) := by decide +kernel
theorem dX0_allUntrue_43 : decode cX0_allUntrue 43 = .ok (.goto (-39), 3) := by decide +kernel
theorem dX0_allUntrue_46 : decode cX0_allUntrue 46 = .ok (.iload_n 1, 1) := by decide +kernel
theorem dX0_allUntrue_47 : decode cX0_allUntrue 47 = .ok (.ireturn, 1) := by decide +kernel
def L_X0_allUntrue_4 : Nat → Nat → Int32 → Int32 → Mem → Option Int32
  | 0, _, _, _, _ => none
  | n + 1, a0, x1, x2, M => if (mI M a0 1) ≤ x2 then some x1 else gd (inR x2 30) (if (mI M ((a0 + 1) + 23 + 2 * x2.toNatClampNeg) 9) = 0 then L_X0_allUntrue_4 n a0 (x1 + (f_X1_untruth ((a0 + 1) + 23 + 2 * x2.toNatClampNeg) M)) (x2 + 1) M else L_X0_allUntrue_4 n a0 (x1 + (0 : Int32)) (x2 + 1) M)
def f_X0_allUntrue (a0 : Nat) (M : Mem) : Option Int32 := L_X0_allUntrue_4 FU a0 (0 : Int32) (0 : Int32) M
set_option maxRecDepth 100000 in
set_option maxHeartbeats 4000000 in
theorem l_X0_allUntrue_4 (Z : Sys) (X : Cx) (hR : xR X = rm_X0_allUntrue) {q : Int32} {M : Mem} (hq : RetOk Z X (some .int) False (PostI q M) 0 0) : ∀ (n : Nat) (a0 : Nat) (x1 : Int32) (x2 : Int32) (hs : St M) (k_a0 : K0[a0]? = some (0, 12)) (hf : L_X0_allUntrue_4 n a0 x1 x2 M = some q), G Z X Y_X0_allUntrue False 0 0 4 [(0, .ref (zs Z + a0)), (1, .int x1), (2, .int x2)] [] M := by
  intro n
  induction n with
  | zero => intro a0 x1 x2 hs k_a0 hf; cases hf
  | succ n ih =>
    intro a0 x1 x2 hs k_a0 hf
    unfold L_X0_allUntrue_4 at hf
    refine G.iload_n 4 2 dX0_allUntrue_4 rfl rfl ?_
    refine G.aload_n 5 0 dX0_allUntrue_5 rfl rfl ?_
    refine G.geti 6 ck_0 1 (hs.k k_a0) (by decide) (by decide +kernel) wd_261 dX0_allUntrue_6 ?_
    refine G.icmp_ge 9 46 dX0_allUntrue_9 (by decide) (fun h1 => ?_) (fun h1 => ?_)
    · replace hf := (if_pos h1).symm.trans hf
      refine G.iload_n 46 1 dX0_allUntrue_46 rfl rfl ?_
      (have hf9 := Option.some.inj hf; subst hf9)
      exact G.rI 47 hq dX0_allUntrue_47 hs
    · replace hf := (if_neg h1).symm.trans hf
      refine G.iload_n 12 1 dX0_allUntrue_12 rfl rfl ?_
      refine G.aload_n 13 0 dX0_allUntrue_13 rfl rfl ?_
      refine G.getp 14 ck_0 0 (a0 + 1) (hs.k k_a0) (pt_0_0 hs k_a0).1 (by decide) (by decide +kernel) wd_257 dX0_allUntrue_14 ?_
      refine G.iload_n 17 2 dX0_allUntrue_17 rfl rfl ?_
      obtain ⟨g2, hf⟩ := gd_e hf
      refine G.aa 18 x2.toNatClampNeg ((a0 + 1) + 23 + 2 * x2.toNatClampNeg) (hs.k (pt_0_0 hs k_a0).2) (by decide) rfl rfl g2 rfl (pa_13 hs (pt_0_0 hs k_a0).2 (inlt g2)).1 dX0_allUntrue_18 ?_
      refine G.geti 19 ck_1 9 (hs.k (pa_13 hs (pt_0_0 hs k_a0).2 (inlt g2)).2) (by decide) (by decide +kernel) wd_222 dX0_allUntrue_19 ?_
      refine G.if_eq 22 29 dX0_allUntrue_22 (by decide) (fun h3 => ?_) (fun h3 => ?_)
      · replace hf := (if_pos h3).symm.trans hf
        refine G.aload_n 29 0 dX0_allUntrue_29 rfl rfl ?_
        refine G.getp 30 ck_0 0 (a0 + 1) (hs.k k_a0) (pt_0_0 hs k_a0).1 (by decide) (by decide +kernel) wd_257 dX0_allUntrue_30 ?_
        refine G.iload_n 33 2 dX0_allUntrue_33 rfl rfl ?_
        refine G.aa 34 x2.toNatClampNeg ((a0 + 1) + 23 + 2 * x2.toNatClampNeg) (hs.k (pt_0_0 hs k_a0).2) (by decide) rfl rfl g2 rfl (pa_13 hs (pt_0_0 hs k_a0).2 (inlt g2)).1 dX0_allUntrue_34 ?_
        refine G.cvI 35 (As := []) ck_1 (hs.k (pa_13 hs (pt_0_0 hs k_a0).2 (inlt g2)).2) (c_X1_untruth Z hs ((a0 + 1) + 23 + 2 * x2.toNatClampNeg) (pa_13 hs (pt_0_0 hs k_a0).2 (inlt g2)).2 rfl) mk_X1_untruth vk_X1_untruth rfl wd_750 hR (by decide +kernel) ⟨rfl, rfl⟩ rfl (Nat.le_of_ble_eq_true rfl) dX0_allUntrue_35 (fun hs4 => ?_)
        refine G.iadd 38 dX0_allUntrue_38 ?_
        refine G.istore_n 39 [(1, .int (x1 + (f_X1_untruth ((a0 + 1) + 23 + 2 * x2.toNatClampNeg) M))), (0, .ref (zs Z + a0)), (2, .int x2)] dX0_allUntrue_39 rfl (Nat.le_of_ble_eq_true rfl) rfl ?_
        refine G.iinc 40 2 (x2 + 1) [(2, .int (x2 + 1)), (1, .int (x1 + (f_X1_untruth ((a0 + 1) + 23 + 2 * x2.toNatClampNeg) M))), (0, .ref (zs Z + a0))] dX0_allUntrue_40 rfl (congrArg (fun z => x2 + z) (by decide +kernel)) (Nat.le_of_ble_eq_true rfl) rfl ?_
        refine G.goto 43 4 dX0_allUntrue_43 (by decide) ?_
        refine G.locs [2, 1, 0] rfl ?_
        exact ih a0 (x1 + (f_X1_untruth ((a0 + 1) + 23 + 2 * x2.toNatClampNeg) M)) (x2 + 1) hs4 k_a0 hf
      · replace hf := (if_neg h3).symm.trans hf
        refine G.iconst 25 (0 : Int32) dX0_allUntrue_25 (by decide +kernel) ?_
        refine G.goto 26 38 dX0_allUntrue_26 (by decide) ?_
        refine G.iadd 38 dX0_allUntrue_38 ?_
        refine G.istore_n 39 [(1, .int (x1 + (0 : Int32))), (0, .ref (zs Z + a0)), (2, .int x2)] dX0_allUntrue_39 rfl (Nat.le_of_ble_eq_true rfl) rfl ?_
        refine G.iinc 40 2 (x2 + 1) [(2, .int (x2 + 1)), (1, .int (x1 + (0 : Int32))), (0, .ref (zs Z + a0))] dX0_allUntrue_40 rfl (congrArg (fun z => x2 + z) (by decide +kernel)) (Nat.le_of_ble_eq_true rfl) rfl ?_
        refine G.goto 43 4 dX0_allUntrue_43 (by decide) ?_
        refine G.locs [2, 1, 0] rfl ?_
        exact ih a0 (x1 + (0 : Int32)) (x2 + 1) hs k_a0 hf
set_option maxRecDepth 100000 in
set_option maxHeartbeats 4000000 in
theorem c_X0_allUntrue (Z : Sys) {M : Mem} (hs : St M) (a0 : Nat) (k_a0 : K0[a0]? = some (0, 12)) {q : Int32} (hf : f_X0_allUntrue a0 M = some q) : Ct Z yX0_allUntrue cX0_allUntrue 3 (some .int) rm_X0_allUntrue [.ref (zs Z + a0)] M False (PostI q M) := by
  refine Ct.of (by decide +kernel) (Nat.le_of_ble_eq_true rfl) (fun X hR hq _ => ?_)
  show G Z X Y_X0_allUntrue False 0 0 0 [(0, .ref (zs Z + a0))] [] M
  replace hq : RetOk Z X (some .int) False (PostI q M) 0 0 := hq
  unfold f_X0_allUntrue at hf
  refine G.iconst 0 (0 : Int32) dX0_allUntrue_0 (by decide +kernel) ?_
  refine G.istore_n 1 [(1, .int (0 : Int32)), (0, .ref (zs Z + a0))] dX0_allUntrue_1 rfl (Nat.le_of_ble_eq_true rfl) rfl ?_
  refine G.iconst 2 (0 : Int32) dX0_allUntrue_2 (by decide +kernel) ?_
  refine G.istore_n 3 [(2, .int (0 : Int32)), (1, .int (0 : Int32)), (0, .ref (zs Z + a0))] dX0_allUntrue_3 rfl (Nat.le_of_ble_eq_true rfl) rfl ?_
  refine G.locs [2, 1, 0] rfl ?_
  exact l_X0_allUntrue_4 Z X hR hq FU a0 (0 : Int32) (0 : Int32) hs k_a0 hf
abbrev Y_X0_writtenCame : My := (cX0_writtenCame, RX0, 4)
def rm_X0_writtenCame : Room := { frames := 1, cells := 0, slots := 0, locals := 200 }
theorem dX0_writtenCame_0 : decode cX0_writtenCame 0 = .ok (.iconst 0, 1) := by decide +kernel
theorem dX0_writtenCame_1 : decode cX0_writtenCame 1 = .ok (.istore_n 2, 1) := by decide +kernel
theorem dX0_writtenCame_2 : decode cX0_writtenCame 2 = .ok (.iconst 0, 1) := by decide +kernel
theorem dX0_writtenCame_3 : decode cX0_writtenCame 3 = .ok (.istore_n 3, 1) := by decide +kernel
theorem dX0_writtenCame_4 : decode cX0_writtenCame 4 = .ok (.iload_n 3, 1) := by decide +kernel
theorem dX0_writtenCame_5 : decode cX0_writtenCame 5 = .ok (.aload_n 0, 1) := by decide +kernel
theorem dX0_writtenCame_6 : decode cX0_writtenCame 6 = .ok (.getfield 53, 3) := by decide +kernel
theorem dX0_writtenCame_9 : decode cX0_writtenCame 9 = .ok (.if_icmp .ge 50, 3) := by decide +kernel
theorem dX0_writtenCame_12 : decode cX0_writtenCame 12 = .ok (.iload_n 2, 1) := by decide +kernel
theorem dX0_writtenCame_13 : decode cX0_writtenCame 13 = .ok (.aload_n 0, 1) := by decide +kernel
theorem dX0_writtenCame_14 : decode cX0_writtenCame 14 = .ok (.getfield 13, 3) := by decide +kernel
theorem dX0_writtenCame_17 : decode cX0_writtenCame 17 = .ok (.iload_n 3, 1) := by decide +kernel
theorem dX0_writtenCame_18 : decode cX0_writtenCame 18 = .ok (.aaload, 1) := by decide +kernel
theorem dX0_writtenCame_19 : decode cX0_writtenCame 19 = .ok (.getfield 78, 3) := by decide +kernel
theorem dX0_writtenCame_22 : decode cX0_writtenCame 22 = .ok (.ifCond .ne 28, 3) := by decide +kernel
theorem dX0_writtenCame_25 : decode cX0_writtenCame 25 = .ok (.aload_n 0, 1) := by decide +kernel
theorem dX0_writtenCame_26 : decode cX0_writtenCame 26 = .ok (.getfield 13, 3) := by decide +kernel
theorem dX0_writtenCame_29 : decode cX0_writtenCame 29 = .ok (.iload_n 3, 1) := by decide +kernel
theorem dX0_writtenCame_30 : decode cX0_writtenCame 30 = .ok (.aaload, 1) := by decide +kernel
theorem dX0_writtenCame_31 : decode cX0_writtenCame 31 = .ok (.getfield 142, 3) := by decide +kernel
theorem dX0_writtenCame_34 : decode cX0_writtenCame 34 = .ok (.iload_n 1, 1) := by decide +kernel
theorem dX0_writtenCame_35 : decode cX0_writtenCame 35 = .ok (.if_icmp .ne 15, 3) := by decide +kernel
theorem dX0_writtenCame_38 : decode cX0_writtenCame 38 = .ok (.aload_n 0, 1) := by decide +kernel
theorem dX0_writtenCame_39 : decode cX0_writtenCame 39 = .ok (.getfield 13, 3) := by decide +kernel
theorem dX0_writtenCame_42 : decode cX0_writtenCame 42 = .ok (.iload_n 3, 1) := by decide +kernel
theorem dX0_writtenCame_43 : decode cX0_writtenCame 43 = .ok (.aaload, 1) := by decide +kernel
theorem dX0_writtenCame_44 : decode cX0_writtenCame 44 = .ok (.getfield 115, 3) := by decide +kernel
theorem dX0_writtenCame_47 : decode cX0_writtenCame 47 = .ok (.goto 4, 3) := by decide +kernel
theorem dX0_writtenCame_50 : decode cX0_writtenCame 50 = .ok (.iconst 0, 1) := by decide +kernel
theorem dX0_writtenCame_51 : decode cX0_writtenCame 51 = .ok (.iadd, 1) := by decide +kernel
theorem dX0_writtenCame_52 : decode cX0_writtenCame 52 = .ok (.istore_n 2, 1) := by decide +kernel
theorem dX0_writtenCame_53 : decode cX0_writtenCame 53 = .ok (.iinc 3 1, 3) := by decide +kernel
theorem dX0_writtenCame_56 : decode cX0_writtenCame 56 = .ok (.goto (-52), 3) := by decide +kernel
theorem dX0_writtenCame_59 : decode cX0_writtenCame 59 = .ok (.iload_n 2, 1) := by decide +kernel
theorem dX0_writtenCame_60 : decode cX0_writtenCame 60 = .ok (.ireturn, 1) := by decide +kernel
def L_X0_writtenCame_4 : Nat → Nat → Int32 → Int32 → Int32 → Mem → Option Int32
  | 0, _, _, _, _, _ => none
  | n + 1, a0, x1, x2, x3, M => if (mI M a0 1) ≤ x3 then some x2 else gd (inR x3 30) (if (mI M ((a0 + 1) + 23 + 2 * x3.toNatClampNeg) 9) = 0 then if (mI M ((a0 + 1) + 23 + 2 * x3.toNatClampNeg) 4) = x1 then L_X0_writtenCame_4 n a0 x1 (x2 + (mI M ((a0 + 1) + 23 + 2 * x3.toNatClampNeg) 10)) (x3 + 1) M else L_X0_writtenCame_4 n a0 x1 (x2 + (0 : Int32)) (x3 + 1) M else L_X0_writtenCame_4 n a0 x1 (x2 + (0 : Int32)) (x3 + 1) M)
def f_X0_writtenCame (a0 : Nat) (x1 : Int32) (M : Mem) : Option Int32 := L_X0_writtenCame_4 FU a0 x1 (0 : Int32) (0 : Int32) M
set_option maxRecDepth 100000 in
set_option maxHeartbeats 4000000 in
theorem l_X0_writtenCame_4 (Z : Sys) (X : Cx) (hR : xR X = rm_X0_writtenCame) {q : Int32} {M : Mem} (hq : RetOk Z X (some .int) False (PostI q M) 0 0) : ∀ (n : Nat) (a0 : Nat) (x1 : Int32) (x2 : Int32) (x3 : Int32) (hs : St M) (k_a0 : K0[a0]? = some (0, 12)) (hf : L_X0_writtenCame_4 n a0 x1 x2 x3 M = some q), G Z X Y_X0_writtenCame False 0 0 4 [(0, .ref (zs Z + a0)), (1, .int x1), (2, .int x2), (3, .int x3)] [] M := by
  intro n
  induction n with
  | zero => intro a0 x1 x2 x3 hs k_a0 hf; cases hf
  | succ n ih =>
    intro a0 x1 x2 x3 hs k_a0 hf
    unfold L_X0_writtenCame_4 at hf
    refine G.iload_n 4 3 dX0_writtenCame_4 rfl rfl ?_
    refine G.aload_n 5 0 dX0_writtenCame_5 rfl rfl ?_
    refine G.geti 6 ck_0 1 (hs.k k_a0) (by decide) (by decide +kernel) wd_261 dX0_writtenCame_6 ?_
    refine G.icmp_ge 9 59 dX0_writtenCame_9 (by decide) (fun h1 => ?_) (fun h1 => ?_)
    · replace hf := (if_pos h1).symm.trans hf
      refine G.iload_n 59 2 dX0_writtenCame_59 rfl rfl ?_
      (have hf9 := Option.some.inj hf; subst hf9)
      exact G.rI 60 hq dX0_writtenCame_60 hs
    · replace hf := (if_neg h1).symm.trans hf
      refine G.iload_n 12 2 dX0_writtenCame_12 rfl rfl ?_
      refine G.aload_n 13 0 dX0_writtenCame_13 rfl rfl ?_
      refine G.getp 14 ck_0 0 (a0 + 1) (hs.k k_a0) (pt_0_0 hs k_a0).1 (by decide) (by decide +kernel) wd_257 dX0_writtenCame_14 ?_
      refine G.iload_n 17 3 dX0_writtenCame_17 rfl rfl ?_
      obtain ⟨g2, hf⟩ := gd_e hf
      refine G.aa 18 x3.toNatClampNeg ((a0 + 1) + 23 + 2 * x3.toNatClampNeg) (hs.k (pt_0_0 hs k_a0).2) (by decide) rfl rfl g2 rfl (pa_13 hs (pt_0_0 hs k_a0).2 (inlt g2)).1 dX0_writtenCame_18 ?_
      refine G.geti 19 ck_1 9 (hs.k (pa_13 hs (pt_0_0 hs k_a0).2 (inlt g2)).2) (by decide) (by decide +kernel) wd_222 dX0_writtenCame_19 ?_
      refine G.if_ne 22 50 dX0_writtenCame_22 (by decide) (fun h3 => ?_) (fun h3 => ?_)
      · replace hf := (if_neg h3).symm.trans hf
        refine G.iconst 50 (0 : Int32) dX0_writtenCame_50 (by decide +kernel) ?_
        refine G.iadd 51 dX0_writtenCame_51 ?_
        refine G.istore_n 52 [(2, .int (x2 + (0 : Int32))), (0, .ref (zs Z + a0)), (1, .int x1), (3, .int x3)] dX0_writtenCame_52 rfl (Nat.le_of_ble_eq_true rfl) rfl ?_
        refine G.iinc 53 3 (x3 + 1) [(3, .int (x3 + 1)), (2, .int (x2 + (0 : Int32))), (0, .ref (zs Z + a0)), (1, .int x1)] dX0_writtenCame_53 rfl (congrArg (fun z => x3 + z) (by decide +kernel)) (Nat.le_of_ble_eq_true rfl) rfl ?_
        refine G.goto 56 4 dX0_writtenCame_56 (by decide) ?_
        refine G.locs [2, 3, 1, 0] rfl ?_
        exact ih a0 x1 (x2 + (0 : Int32)) (x3 + 1) hs k_a0 hf
      · replace hf := (if_pos h3).symm.trans hf
        refine G.aload_n 25 0 dX0_writtenCame_25 rfl rfl ?_
        refine G.getp 26 ck_0 0 (a0 + 1) (hs.k k_a0) (pt_0_0 hs k_a0).1 (by decide) (by decide +kernel) wd_257 dX0_writtenCame_26 ?_
        refine G.iload_n 29 3 dX0_writtenCame_29 rfl rfl ?_
        refine G.aa 30 x3.toNatClampNeg ((a0 + 1) + 23 + 2 * x3.toNatClampNeg) (hs.k (pt_0_0 hs k_a0).2) (by decide) rfl rfl g2 rfl (pa_13 hs (pt_0_0 hs k_a0).2 (inlt g2)).1 dX0_writtenCame_30 ?_
        refine G.geti 31 ck_1 4 (hs.k (pa_13 hs (pt_0_0 hs k_a0).2 (inlt g2)).2) (by decide) (by decide +kernel) wd_202 dX0_writtenCame_31 ?_
        refine G.iload_n 34 1 dX0_writtenCame_34 rfl rfl ?_
        refine G.icmp_ne 35 50 dX0_writtenCame_35 (by decide) (fun h4 => ?_) (fun h4 => ?_)
        · replace hf := (if_neg h4).symm.trans hf
          refine G.iconst 50 (0 : Int32) dX0_writtenCame_50 (by decide +kernel) ?_
          refine G.iadd 51 dX0_writtenCame_51 ?_
          refine G.istore_n 52 [(2, .int (x2 + (0 : Int32))), (0, .ref (zs Z + a0)), (1, .int x1), (3, .int x3)] dX0_writtenCame_52 rfl (Nat.le_of_ble_eq_true rfl) rfl ?_
          refine G.iinc 53 3 (x3 + 1) [(3, .int (x3 + 1)), (2, .int (x2 + (0 : Int32))), (0, .ref (zs Z + a0)), (1, .int x1)] dX0_writtenCame_53 rfl (congrArg (fun z => x3 + z) (by decide +kernel)) (Nat.le_of_ble_eq_true rfl) rfl ?_
          refine G.goto 56 4 dX0_writtenCame_56 (by decide) ?_
          refine G.locs [2, 3, 1, 0] rfl ?_
          exact ih a0 x1 (x2 + (0 : Int32)) (x3 + 1) hs k_a0 hf
        · replace hf := (if_pos h4).symm.trans hf
          refine G.aload_n 38 0 dX0_writtenCame_38 rfl rfl ?_
          refine G.getp 39 ck_0 0 (a0 + 1) (hs.k k_a0) (pt_0_0 hs k_a0).1 (by decide) (by decide +kernel) wd_257 dX0_writtenCame_39 ?_
          refine G.iload_n 42 3 dX0_writtenCame_42 rfl rfl ?_
          refine G.aa 43 x3.toNatClampNeg ((a0 + 1) + 23 + 2 * x3.toNatClampNeg) (hs.k (pt_0_0 hs k_a0).2) (by decide) rfl rfl g2 rfl (pa_13 hs (pt_0_0 hs k_a0).2 (inlt g2)).1 dX0_writtenCame_43 ?_
          refine G.geti 44 ck_1 10 (hs.k (pa_13 hs (pt_0_0 hs k_a0).2 (inlt g2)).2) (by decide) (by decide +kernel) wd_227 dX0_writtenCame_44 ?_
          refine G.goto 47 51 dX0_writtenCame_47 (by decide) ?_
          refine G.iadd 51 dX0_writtenCame_51 ?_
          refine G.istore_n 52 [(2, .int (x2 + (mI M ((a0 + 1) + 23 + 2 * x3.toNatClampNeg) 10))), (0, .ref (zs Z + a0)), (1, .int x1), (3, .int x3)] dX0_writtenCame_52 rfl (Nat.le_of_ble_eq_true rfl) rfl ?_
          refine G.iinc 53 3 (x3 + 1) [(3, .int (x3 + 1)), (2, .int (x2 + (mI M ((a0 + 1) + 23 + 2 * x3.toNatClampNeg) 10))), (0, .ref (zs Z + a0)), (1, .int x1)] dX0_writtenCame_53 rfl (congrArg (fun z => x3 + z) (by decide +kernel)) (Nat.le_of_ble_eq_true rfl) rfl ?_
          refine G.goto 56 4 dX0_writtenCame_56 (by decide) ?_
          refine G.locs [2, 3, 1, 0] rfl ?_
          exact ih a0 x1 (x2 + (mI M ((a0 + 1) + 23 + 2 * x3.toNatClampNeg) 10)) (x3 + 1) hs k_a0 hf
set_option maxRecDepth 100000 in
set_option maxHeartbeats 4000000 in
theorem c_X0_writtenCame (Z : Sys) {M : Mem} (hs : St M) (a0 : Nat) (x1 : Int32) (k_a0 : K0[a0]? = some (0, 12)) {q : Int32} (hf : f_X0_writtenCame a0 x1 M = some q) : Ct Z yX0_writtenCame cX0_writtenCame 4 (some .int) rm_X0_writtenCame [.ref (zs Z + a0), .int x1] M False (PostI q M) := by
  refine Ct.of (by decide +kernel) (Nat.le_of_ble_eq_true rfl) (fun X hR hq _ => ?_)
  show G Z X Y_X0_writtenCame False 0 0 0 [(0, .ref (zs Z + a0)), (1, .int x1)] [] M
  replace hq : RetOk Z X (some .int) False (PostI q M) 0 0 := hq
  unfold f_X0_writtenCame at hf
  refine G.iconst 0 (0 : Int32) dX0_writtenCame_0 (by decide +kernel) ?_
  refine G.istore_n 1 [(2, .int (0 : Int32)), (0, .ref (zs Z + a0)), (1, .int x1)] dX0_writtenCame_1 rfl (Nat.le_of_ble_eq_true rfl) rfl ?_
  refine G.iconst 2 (0 : Int32) dX0_writtenCame_2 (by decide +kernel) ?_
  refine G.istore_n 3 [(3, .int (0 : Int32)), (2, .int (0 : Int32)), (0, .ref (zs Z + a0)), (1, .int x1)] dX0_writtenCame_3 rfl (Nat.le_of_ble_eq_true rfl) rfl ?_
  refine G.locs [2, 3, 1, 0] rfl ?_
  exact l_X0_writtenCame_4 Z X hR hq FU a0 x1 (0 : Int32) (0 : Int32) hs k_a0 hf
abbrev Y_X0_allWrittenCame : My := (cX0_allWrittenCame, RX0, 3)
def rm_X0_allWrittenCame : Room := { frames := 2, cells := 0, slots := 0, locals := 223 }
theorem dX0_allWrittenCame_0 : decode cX0_allWrittenCame 0 = .ok (.iconst 0, 1) := by decide +kernel
theorem dX0_allWrittenCame_1 : decode cX0_allWrittenCame 1 = .ok (.istore_n 1, 1) := by decide +kernel
theorem dX0_allWrittenCame_2 : decode cX0_allWrittenCame 2 = .ok (.iconst 0, 1) := by decide +kernel
theorem dX0_allWrittenCame_3 : decode cX0_allWrittenCame 3 = .ok (.istore_n 2, 1) := by decide +kernel
theorem dX0_allWrittenCame_4 : decode cX0_allWrittenCame 4 = .ok (.iload_n 2, 1) := by decide +kernel
theorem dX0_allWrittenCame_5 : decode cX0_allWrittenCame 5 = .ok (.iconst 4, 1) := by decide +kernel
theorem dX0_allWrittenCame_6 : decode cX0_allWrittenCame 6 = .ok (.if_icmp .ge 17, 3) := by decide +kernel
theorem dX0_allWrittenCame_9 : decode cX0_allWrittenCame 9 = .ok (.iload_n 1, 1) := by decide +kernel
theorem dX0_allWrittenCame_10 : decode cX0_allWrittenCame 10 = .ok (.aload_n 0, 1) := by decide +kernel
theorem dX0_allWrittenCame_11 : decode cX0_allWrittenCame 11 = .ok (.iload_n 2, 1) := by decide +kernel
theorem dX0_allWrittenCame_12 : decode cX0_allWrittenCame 12 = .ok (.invokevirtual 145, 3) := by decide +kernel
theorem dX0_allWrittenCame_15 : decode cX0_allWrittenCame 15 = .ok (.iadd, 1) := by decide +kernel
theorem dX0_allWrittenCame_16 : decode cX0_allWrittenCame 16 = .ok (.istore_n 1, 1) := by decide +kernel
theorem dX0_allWrittenCame_17 : decode cX0_allWrittenCame 17 = .ok (.iinc 2 1, 3) := by decide +kernel
theorem dX0_allWrittenCame_20 : decode cX0_allWrittenCame 20 = .ok (.goto (-16), 3) := by decide +kernel
theorem dX0_allWrittenCame_23 : decode cX0_allWrittenCame 23 = .ok (.iload_n 1, 1) := by decide +kernel
theorem dX0_allWrittenCame_24 : decode cX0_allWrittenCame 24 = .ok (.ireturn, 1) := by decide +kernel
def L_X0_allWrittenCame_4 : Nat → Nat → Int32 → Int32 → Mem → Option Int32
  | 0, _, _, _, _ => none
  | n + 1, a0, x1, x2, M => if (4 : Int32) ≤ x2 then some x1 else (f_X0_writtenCame a0 x2 M).bind fun q4 => L_X0_allWrittenCame_4 n a0 (x1 + q4) (x2 + 1) M
def f_X0_allWrittenCame (a0 : Nat) (M : Mem) : Option Int32 := L_X0_allWrittenCame_4 FU a0 (0 : Int32) (0 : Int32) M
set_option maxRecDepth 100000 in
set_option maxHeartbeats 4000000 in
theorem l_X0_allWrittenCame_4 (Z : Sys) (X : Cx) (hR : xR X = rm_X0_allWrittenCame) {q : Int32} {M : Mem} (hq : RetOk Z X (some .int) False (PostI q M) 0 0) : ∀ (n : Nat) (a0 : Nat) (x1 : Int32) (x2 : Int32) (hs : St M) (k_a0 : K0[a0]? = some (0, 12)) (hf : L_X0_allWrittenCame_4 n a0 x1 x2 M = some q), G Z X Y_X0_allWrittenCame False 0 0 4 [(0, .ref (zs Z + a0)), (1, .int x1), (2, .int x2)] [] M := by
  intro n
  induction n with
  | zero => intro a0 x1 x2 hs k_a0 hf; cases hf
  | succ n ih =>
    intro a0 x1 x2 hs k_a0 hf
    unfold L_X0_allWrittenCame_4 at hf
    refine G.iload_n 4 2 dX0_allWrittenCame_4 rfl rfl ?_
    refine G.iconst 5 (4 : Int32) dX0_allWrittenCame_5 (by decide +kernel) ?_
    refine G.icmp_ge 6 23 dX0_allWrittenCame_6 (by decide) (fun h1 => ?_) (fun h1 => ?_)
    · replace hf := (if_pos h1).symm.trans hf
      refine G.iload_n 23 1 dX0_allWrittenCame_23 rfl rfl ?_
      (have hf9 := Option.some.inj hf; subst hf9)
      exact G.rI 24 hq dX0_allWrittenCame_24 hs
    · replace hf := (if_neg h1).symm.trans hf
      refine G.iload_n 9 1 dX0_allWrittenCame_9 rfl rfl ?_
      refine G.aload_n 10 0 dX0_allWrittenCame_10 rfl rfl ?_
      refine G.iload_n 11 2 dX0_allWrittenCame_11 rfl rfl ?_
      obtain ⟨q4, e5, hf⟩ := bd_e hf
      refine G.cvI 12 (As := [.int x2]) ck_0 (hs.k k_a0) (c_X0_writtenCame Z hs a0 x2 k_a0 e5) mk_X0_writtenCame vk_X0_writtenCame rfl wd_710 hR (by decide +kernel) ⟨rfl, rfl⟩ rfl (Nat.le_of_ble_eq_true rfl) dX0_allWrittenCame_12 (fun hs2 => ?_)
      refine G.iadd 15 dX0_allWrittenCame_15 ?_
      refine G.istore_n 16 [(1, .int (x1 + q4)), (0, .ref (zs Z + a0)), (2, .int x2)] dX0_allWrittenCame_16 rfl (Nat.le_of_ble_eq_true rfl) rfl ?_
      refine G.iinc 17 2 (x2 + 1) [(2, .int (x2 + 1)), (1, .int (x1 + q4)), (0, .ref (zs Z + a0))] dX0_allWrittenCame_17 rfl (congrArg (fun z => x2 + z) (by decide +kernel)) (Nat.le_of_ble_eq_true rfl) rfl ?_
      refine G.goto 20 4 dX0_allWrittenCame_20 (by decide) ?_
      refine G.locs [2, 1, 0] rfl ?_
      exact ih a0 (x1 + q4) (x2 + 1) hs2 k_a0 hf
set_option maxRecDepth 100000 in
set_option maxHeartbeats 4000000 in
theorem c_X0_allWrittenCame (Z : Sys) {M : Mem} (hs : St M) (a0 : Nat) (k_a0 : K0[a0]? = some (0, 12)) {q : Int32} (hf : f_X0_allWrittenCame a0 M = some q) : Ct Z yX0_allWrittenCame cX0_allWrittenCame 3 (some .int) rm_X0_allWrittenCame [.ref (zs Z + a0)] M False (PostI q M) := by
  refine Ct.of (by decide +kernel) (Nat.le_of_ble_eq_true rfl) (fun X hR hq _ => ?_)
  show G Z X Y_X0_allWrittenCame False 0 0 0 [(0, .ref (zs Z + a0))] [] M
  replace hq : RetOk Z X (some .int) False (PostI q M) 0 0 := hq
  unfold f_X0_allWrittenCame at hf
  refine G.iconst 0 (0 : Int32) dX0_allWrittenCame_0 (by decide +kernel) ?_
  refine G.istore_n 1 [(1, .int (0 : Int32)), (0, .ref (zs Z + a0))] dX0_allWrittenCame_1 rfl (Nat.le_of_ble_eq_true rfl) rfl ?_
  refine G.iconst 2 (0 : Int32) dX0_allWrittenCame_2 (by decide +kernel) ?_
  refine G.istore_n 3 [(2, .int (0 : Int32)), (1, .int (0 : Int32)), (0, .ref (zs Z + a0))] dX0_allWrittenCame_3 rfl (Nat.le_of_ble_eq_true rfl) rfl ?_
  refine G.locs [2, 1, 0] rfl ?_
  exact l_X0_allWrittenCame_4 Z X hR hq FU a0 (0 : Int32) (0 : Int32) hs k_a0 hf
abbrev Y_X0_writtenOurs : My := (cX0_writtenOurs, RX0, 4)
def rm_X0_writtenOurs : Room := { frames := 1, cells := 0, slots := 0, locals := 200 }
theorem dX0_writtenOurs_0 : decode cX0_writtenOurs 0 = .ok (.iconst 0, 1) := by decide +kernel
theorem dX0_writtenOurs_1 : decode cX0_writtenOurs 1 = .ok (.istore_n 2, 1) := by decide +kernel
theorem dX0_writtenOurs_2 : decode cX0_writtenOurs 2 = .ok (.iconst 0, 1) := by decide +kernel
theorem dX0_writtenOurs_3 : decode cX0_writtenOurs 3 = .ok (.istore_n 3, 1) := by decide +kernel
theorem dX0_writtenOurs_4 : decode cX0_writtenOurs 4 = .ok (.iload_n 3, 1) := by decide +kernel
theorem dX0_writtenOurs_5 : decode cX0_writtenOurs 5 = .ok (.aload_n 0, 1) := by decide +kernel
theorem dX0_writtenOurs_6 : decode cX0_writtenOurs 6 = .ok (.getfield 53, 3) := by decide +kernel
theorem dX0_writtenOurs_9 : decode cX0_writtenOurs 9 = .ok (.if_icmp .ge 50, 3) := by decide +kernel
theorem dX0_writtenOurs_12 : decode cX0_writtenOurs 12 = .ok (.iload_n 2, 1) := by decide +kernel
theorem dX0_writtenOurs_13 : decode cX0_writtenOurs 13 = .ok (.aload_n 0, 1) := by decide +kernel
theorem dX0_writtenOurs_14 : decode cX0_writtenOurs 14 = .ok (.getfield 13, 3) := by decide +kernel
theorem dX0_writtenOurs_17 : decode cX0_writtenOurs 17 = .ok (.iload_n 3, 1) := by decide +kernel
theorem dX0_writtenOurs_18 : decode cX0_writtenOurs 18 = .ok (.aaload, 1) := by decide +kernel
theorem dX0_writtenOurs_19 : decode cX0_writtenOurs 19 = .ok (.getfield 78, 3) := by decide +kernel
theorem dX0_writtenOurs_22 : decode cX0_writtenOurs 22 = .ok (.ifCond .ne 28, 3) := by decide +kernel
theorem dX0_writtenOurs_25 : decode cX0_writtenOurs 25 = .ok (.aload_n 0, 1) := by decide +kernel
theorem dX0_writtenOurs_26 : decode cX0_writtenOurs 26 = .ok (.getfield 13, 3) := by decide +kernel
theorem dX0_writtenOurs_29 : decode cX0_writtenOurs 29 = .ok (.iload_n 3, 1) := by decide +kernel
theorem dX0_writtenOurs_30 : decode cX0_writtenOurs 30 = .ok (.aaload, 1) := by decide +kernel
theorem dX0_writtenOurs_31 : decode cX0_writtenOurs 31 = .ok (.getfield 142, 3) := by decide +kernel
theorem dX0_writtenOurs_34 : decode cX0_writtenOurs 34 = .ok (.iload_n 1, 1) := by decide +kernel
theorem dX0_writtenOurs_35 : decode cX0_writtenOurs 35 = .ok (.if_icmp .ne 15, 3) := by decide +kernel
theorem dX0_writtenOurs_38 : decode cX0_writtenOurs 38 = .ok (.aload_n 0, 1) := by decide +kernel
theorem dX0_writtenOurs_39 : decode cX0_writtenOurs 39 = .ok (.getfield 13, 3) := by decide +kernel
theorem dX0_writtenOurs_42 : decode cX0_writtenOurs 42 = .ok (.iload_n 3, 1) := by decide +kernel
theorem dX0_writtenOurs_43 : decode cX0_writtenOurs 43 = .ok (.aaload, 1) := by decide +kernel
theorem dX0_writtenOurs_44 : decode cX0_writtenOurs 44 = .ok (.getfield 118, 3) := by decide +kernel
theorem dX0_writtenOurs_47 : decode cX0_writtenOurs 47 = .ok (.goto 4, 3) := by decide +kernel
theorem dX0_writtenOurs_50 : decode cX0_writtenOurs 50 = .ok (.iconst 0, 1) := by decide +kernel
theorem dX0_writtenOurs_51 : decode cX0_writtenOurs 51 = .ok (.iadd, 1) := by decide +kernel
theorem dX0_writtenOurs_52 : decode cX0_writtenOurs 52 = .ok (.istore_n 2, 1) := by decide +kernel
theorem dX0_writtenOurs_53 : decode cX0_writtenOurs 53 = .ok (.iinc 3 1, 3) := by decide +kernel
theorem dX0_writtenOurs_56 : decode cX0_writtenOurs 56 = .ok (.goto (-52), 3) := by decide +kernel
theorem dX0_writtenOurs_59 : decode cX0_writtenOurs 59 = .ok (.iload_n 2, 1) := by decide +kernel
theorem dX0_writtenOurs_60 : decode cX0_writtenOurs 60 = .ok (.ireturn, 1) := by decide +kernel
def L_X0_writtenOurs_4 : Nat → Nat → Int32 → Int32 → Int32 → Mem → Option Int32
  | 0, _, _, _, _, _ => none
  | n + 1, a0, x1, x2, x3, M => if (mI M a0 1) ≤ x3 then some x2 else gd (inR x3 30) (if (mI M ((a0 + 1) + 23 + 2 * x3.toNatClampNeg) 9) = 0 then if (mI M ((a0 + 1) + 23 + 2 * x3.toNatClampNeg) 4) = x1 then L_X0_writtenOurs_4 n a0 x1 (x2 + (mI M ((a0 + 1) + 23 + 2 * x3.toNatClampNeg) 11)) (x3 + 1) M else L_X0_writtenOurs_4 n a0 x1 (x2 + (0 : Int32)) (x3 + 1) M else L_X0_writtenOurs_4 n a0 x1 (x2 + (0 : Int32)) (x3 + 1) M)
def f_X0_writtenOurs (a0 : Nat) (x1 : Int32) (M : Mem) : Option Int32 := L_X0_writtenOurs_4 FU a0 x1 (0 : Int32) (0 : Int32) M
set_option maxRecDepth 100000 in
set_option maxHeartbeats 4000000 in
theorem l_X0_writtenOurs_4 (Z : Sys) (X : Cx) (hR : xR X = rm_X0_writtenOurs) {q : Int32} {M : Mem} (hq : RetOk Z X (some .int) False (PostI q M) 0 0) : ∀ (n : Nat) (a0 : Nat) (x1 : Int32) (x2 : Int32) (x3 : Int32) (hs : St M) (k_a0 : K0[a0]? = some (0, 12)) (hf : L_X0_writtenOurs_4 n a0 x1 x2 x3 M = some q), G Z X Y_X0_writtenOurs False 0 0 4 [(0, .ref (zs Z + a0)), (1, .int x1), (2, .int x2), (3, .int x3)] [] M := by
  intro n
  induction n with
  | zero => intro a0 x1 x2 x3 hs k_a0 hf; cases hf
  | succ n ih =>
    intro a0 x1 x2 x3 hs k_a0 hf
    unfold L_X0_writtenOurs_4 at hf
    refine G.iload_n 4 3 dX0_writtenOurs_4 rfl rfl ?_
    refine G.aload_n 5 0 dX0_writtenOurs_5 rfl rfl ?_
    refine G.geti 6 ck_0 1 (hs.k k_a0) (by decide) (by decide +kernel) wd_261 dX0_writtenOurs_6 ?_
    refine G.icmp_ge 9 59 dX0_writtenOurs_9 (by decide) (fun h1 => ?_) (fun h1 => ?_)
    · replace hf := (if_pos h1).symm.trans hf
      refine G.iload_n 59 2 dX0_writtenOurs_59 rfl rfl ?_
      (have hf9 := Option.some.inj hf; subst hf9)
      exact G.rI 60 hq dX0_writtenOurs_60 hs
    · replace hf := (if_neg h1).symm.trans hf
      refine G.iload_n 12 2 dX0_writtenOurs_12 rfl rfl ?_
      refine G.aload_n 13 0 dX0_writtenOurs_13 rfl rfl ?_
      refine G.getp 14 ck_0 0 (a0 + 1) (hs.k k_a0) (pt_0_0 hs k_a0).1 (by decide) (by decide +kernel) wd_257 dX0_writtenOurs_14 ?_
      refine G.iload_n 17 3 dX0_writtenOurs_17 rfl rfl ?_
      obtain ⟨g2, hf⟩ := gd_e hf
      refine G.aa 18 x3.toNatClampNeg ((a0 + 1) + 23 + 2 * x3.toNatClampNeg) (hs.k (pt_0_0 hs k_a0).2) (by decide) rfl rfl g2 rfl (pa_13 hs (pt_0_0 hs k_a0).2 (inlt g2)).1 dX0_writtenOurs_18 ?_
      refine G.geti 19 ck_1 9 (hs.k (pa_13 hs (pt_0_0 hs k_a0).2 (inlt g2)).2) (by decide) (by decide +kernel) wd_222 dX0_writtenOurs_19 ?_
      refine G.if_ne 22 50 dX0_writtenOurs_22 (by decide) (fun h3 => ?_) (fun h3 => ?_)
      · replace hf := (if_neg h3).symm.trans hf
        refine G.iconst 50 (0 : Int32) dX0_writtenOurs_50 (by decide +kernel) ?_
        refine G.iadd 51 dX0_writtenOurs_51 ?_
        refine G.istore_n 52 [(2, .int (x2 + (0 : Int32))), (0, .ref (zs Z + a0)), (1, .int x1), (3, .int x3)] dX0_writtenOurs_52 rfl (Nat.le_of_ble_eq_true rfl) rfl ?_
        refine G.iinc 53 3 (x3 + 1) [(3, .int (x3 + 1)), (2, .int (x2 + (0 : Int32))), (0, .ref (zs Z + a0)), (1, .int x1)] dX0_writtenOurs_53 rfl (congrArg (fun z => x3 + z) (by decide +kernel)) (Nat.le_of_ble_eq_true rfl) rfl ?_
        refine G.goto 56 4 dX0_writtenOurs_56 (by decide) ?_
        refine G.locs [2, 3, 1, 0] rfl ?_
        exact ih a0 x1 (x2 + (0 : Int32)) (x3 + 1) hs k_a0 hf
      · replace hf := (if_pos h3).symm.trans hf
        refine G.aload_n 25 0 dX0_writtenOurs_25 rfl rfl ?_
        refine G.getp 26 ck_0 0 (a0 + 1) (hs.k k_a0) (pt_0_0 hs k_a0).1 (by decide) (by decide +kernel) wd_257 dX0_writtenOurs_26 ?_
        refine G.iload_n 29 3 dX0_writtenOurs_29 rfl rfl ?_
        refine G.aa 30 x3.toNatClampNeg ((a0 + 1) + 23 + 2 * x3.toNatClampNeg) (hs.k (pt_0_0 hs k_a0).2) (by decide) rfl rfl g2 rfl (pa_13 hs (pt_0_0 hs k_a0).2 (inlt g2)).1 dX0_writtenOurs_30 ?_
        refine G.geti 31 ck_1 4 (hs.k (pa_13 hs (pt_0_0 hs k_a0).2 (inlt g2)).2) (by decide) (by decide +kernel) wd_202 dX0_writtenOurs_31 ?_
        refine G.iload_n 34 1 dX0_writtenOurs_34 rfl rfl ?_
        refine G.icmp_ne 35 50 dX0_writtenOurs_35 (by decide) (fun h4 => ?_) (fun h4 => ?_)
        · replace hf := (if_neg h4).symm.trans hf
          refine G.iconst 50 (0 : Int32) dX0_writtenOurs_50 (by decide +kernel) ?_
          refine G.iadd 51 dX0_writtenOurs_51 ?_
          refine G.istore_n 52 [(2, .int (x2 + (0 : Int32))), (0, .ref (zs Z + a0)), (1, .int x1), (3, .int x3)] dX0_writtenOurs_52 rfl (Nat.le_of_ble_eq_true rfl) rfl ?_
          refine G.iinc 53 3 (x3 + 1) [(3, .int (x3 + 1)), (2, .int (x2 + (0 : Int32))), (0, .ref (zs Z + a0)), (1, .int x1)] dX0_writtenOurs_53 rfl (congrArg (fun z => x3 + z) (by decide +kernel)) (Nat.le_of_ble_eq_true rfl) rfl ?_
          refine G.goto 56 4 dX0_writtenOurs_56 (by decide) ?_
          refine G.locs [2, 3, 1, 0] rfl ?_
          exact ih a0 x1 (x2 + (0 : Int32)) (x3 + 1) hs k_a0 hf
        · replace hf := (if_pos h4).symm.trans hf
          refine G.aload_n 38 0 dX0_writtenOurs_38 rfl rfl ?_
          refine G.getp 39 ck_0 0 (a0 + 1) (hs.k k_a0) (pt_0_0 hs k_a0).1 (by decide) (by decide +kernel) wd_257 dX0_writtenOurs_39 ?_
          refine G.iload_n 42 3 dX0_writtenOurs_42 rfl rfl ?_
          refine G.aa 43 x3.toNatClampNeg ((a0 + 1) + 23 + 2 * x3.toNatClampNeg) (hs.k (pt_0_0 hs k_a0).2) (by decide) rfl rfl g2 rfl (pa_13 hs (pt_0_0 hs k_a0).2 (inlt g2)).1 dX0_writtenOurs_43 ?_
          refine G.geti 44 ck_1 11 (hs.k (pa_13 hs (pt_0_0 hs k_a0).2 (inlt g2)).2) (by decide) (by decide +kernel) wd_231 dX0_writtenOurs_44 ?_
          refine G.goto 47 51 dX0_writtenOurs_47 (by decide) ?_
          refine G.iadd 51 dX0_writtenOurs_51 ?_
          refine G.istore_n 52 [(2, .int (x2 + (mI M ((a0 + 1) + 23 + 2 * x3.toNatClampNeg) 11))), (0, .ref (zs Z + a0)), (1, .int x1), (3, .int x3)] dX0_writtenOurs_52 rfl (Nat.le_of_ble_eq_true rfl) rfl ?_
          refine G.iinc 53 3 (x3 + 1) [(3, .int (x3 + 1)), (2, .int (x2 + (mI M ((a0 + 1) + 23 + 2 * x3.toNatClampNeg) 11))), (0, .ref (zs Z + a0)), (1, .int x1)] dX0_writtenOurs_53 rfl (congrArg (fun z => x3 + z) (by decide +kernel)) (Nat.le_of_ble_eq_true rfl) rfl ?_
          refine G.goto 56 4 dX0_writtenOurs_56 (by decide) ?_
          refine G.locs [2, 3, 1, 0] rfl ?_
          exact ih a0 x1 (x2 + (mI M ((a0 + 1) + 23 + 2 * x3.toNatClampNeg) 11)) (x3 + 1) hs k_a0 hf
set_option maxRecDepth 100000 in
set_option maxHeartbeats 4000000 in
theorem c_X0_writtenOurs (Z : Sys) {M : Mem} (hs : St M) (a0 : Nat) (x1 : Int32) (k_a0 : K0[a0]? = some (0, 12)) {q : Int32} (hf : f_X0_writtenOurs a0 x1 M = some q) : Ct Z yX0_writtenOurs cX0_writtenOurs 4 (some .int) rm_X0_writtenOurs [.ref (zs Z + a0), .int x1] M False (PostI q M) := by
  refine Ct.of (by decide +kernel) (Nat.le_of_ble_eq_true rfl) (fun X hR hq _ => ?_)
  show G Z X Y_X0_writtenOurs False 0 0 0 [(0, .ref (zs Z + a0)), (1, .int x1)] [] M
  replace hq : RetOk Z X (some .int) False (PostI q M) 0 0 := hq
  unfold f_X0_writtenOurs at hf
  refine G.iconst 0 (0 : Int32) dX0_writtenOurs_0 (by decide +kernel) ?_
  refine G.istore_n 1 [(2, .int (0 : Int32)), (0, .ref (zs Z + a0)), (1, .int x1)] dX0_writtenOurs_1 rfl (Nat.le_of_ble_eq_true rfl) rfl ?_
  refine G.iconst 2 (0 : Int32) dX0_writtenOurs_2 (by decide +kernel) ?_
  refine G.istore_n 3 [(3, .int (0 : Int32)), (2, .int (0 : Int32)), (0, .ref (zs Z + a0)), (1, .int x1)] dX0_writtenOurs_3 rfl (Nat.le_of_ble_eq_true rfl) rfl ?_
  refine G.locs [2, 3, 1, 0] rfl ?_
  exact l_X0_writtenOurs_4 Z X hR hq FU a0 x1 (0 : Int32) (0 : Int32) hs k_a0 hf
abbrev Y_X0_allWrittenOurs : My := (cX0_allWrittenOurs, RX0, 3)
def rm_X0_allWrittenOurs : Room := { frames := 2, cells := 0, slots := 0, locals := 223 }
theorem dX0_allWrittenOurs_0 : decode cX0_allWrittenOurs 0 = .ok (.iconst 0, 1) := by decide +kernel
theorem dX0_allWrittenOurs_1 : decode cX0_allWrittenOurs 1 = .ok (.istore_n 1, 1) := by decide +kernel
theorem dX0_allWrittenOurs_2 : decode cX0_allWrittenOurs 2 = .ok (.iconst 0, 1) := by decide +kernel
theorem dX0_allWrittenOurs_3 : decode cX0_allWrittenOurs 3 = .ok (.istore_n 2, 1) := by decide +kernel
theorem dX0_allWrittenOurs_4 : decode cX0_allWrittenOurs 4 = .ok (.iload_n 2, 1) := by decide +kernel
theorem dX0_allWrittenOurs_5 : decode cX0_allWrittenOurs 5 = .ok (.iconst 4, 1) := by decide +kernel
theorem dX0_allWrittenOurs_6 : decode cX0_allWrittenOurs 6 = .ok (.if_icmp .ge 17, 3) := by decide +kernel
theorem dX0_allWrittenOurs_9 : decode cX0_allWrittenOurs 9 = .ok (.iload_n 1, 1) := by decide +kernel
theorem dX0_allWrittenOurs_10 : decode cX0_allWrittenOurs 10 = .ok (.aload_n 0, 1) := by decide +kernel
theorem dX0_allWrittenOurs_11 : decode cX0_allWrittenOurs 11 = .ok (.iload_n 2, 1) := by decide +kernel
theorem dX0_allWrittenOurs_12 : decode cX0_allWrittenOurs 12 = .ok (.invokevirtual 148, 3) := by decide +kernel
theorem dX0_allWrittenOurs_15 : decode cX0_allWrittenOurs 15 = .ok (.iadd, 1) := by decide +kernel
theorem dX0_allWrittenOurs_16 : decode cX0_allWrittenOurs 16 = .ok (.istore_n 1, 1) := by decide +kernel
theorem dX0_allWrittenOurs_17 : decode cX0_allWrittenOurs 17 = .ok (.iinc 2 1, 3) := by decide +kernel
theorem dX0_allWrittenOurs_20 : decode cX0_allWrittenOurs 20 = .ok (.goto (-16), 3) := by decide +kernel
theorem dX0_allWrittenOurs_23 : decode cX0_allWrittenOurs 23 = .ok (.iload_n 1, 1) := by decide +kernel
theorem dX0_allWrittenOurs_24 : decode cX0_allWrittenOurs 24 = .ok (.ireturn, 1) := by decide +kernel
def L_X0_allWrittenOurs_4 : Nat → Nat → Int32 → Int32 → Mem → Option Int32
  | 0, _, _, _, _ => none
  | n + 1, a0, x1, x2, M => if (4 : Int32) ≤ x2 then some x1 else (f_X0_writtenOurs a0 x2 M).bind fun q4 => L_X0_allWrittenOurs_4 n a0 (x1 + q4) (x2 + 1) M
def f_X0_allWrittenOurs (a0 : Nat) (M : Mem) : Option Int32 := L_X0_allWrittenOurs_4 FU a0 (0 : Int32) (0 : Int32) M
set_option maxRecDepth 100000 in
set_option maxHeartbeats 4000000 in
theorem l_X0_allWrittenOurs_4 (Z : Sys) (X : Cx) (hR : xR X = rm_X0_allWrittenOurs) {q : Int32} {M : Mem} (hq : RetOk Z X (some .int) False (PostI q M) 0 0) : ∀ (n : Nat) (a0 : Nat) (x1 : Int32) (x2 : Int32) (hs : St M) (k_a0 : K0[a0]? = some (0, 12)) (hf : L_X0_allWrittenOurs_4 n a0 x1 x2 M = some q), G Z X Y_X0_allWrittenOurs False 0 0 4 [(0, .ref (zs Z + a0)), (1, .int x1), (2, .int x2)] [] M := by
  intro n
  induction n with
  | zero => intro a0 x1 x2 hs k_a0 hf; cases hf
  | succ n ih =>
    intro a0 x1 x2 hs k_a0 hf
    unfold L_X0_allWrittenOurs_4 at hf
    refine G.iload_n 4 2 dX0_allWrittenOurs_4 rfl rfl ?_
    refine G.iconst 5 (4 : Int32) dX0_allWrittenOurs_5 (by decide +kernel) ?_
    refine G.icmp_ge 6 23 dX0_allWrittenOurs_6 (by decide) (fun h1 => ?_) (fun h1 => ?_)
    · replace hf := (if_pos h1).symm.trans hf
      refine G.iload_n 23 1 dX0_allWrittenOurs_23 rfl rfl ?_
      (have hf9 := Option.some.inj hf; subst hf9)
      exact G.rI 24 hq dX0_allWrittenOurs_24 hs
    · replace hf := (if_neg h1).symm.trans hf
      refine G.iload_n 9 1 dX0_allWrittenOurs_9 rfl rfl ?_
      refine G.aload_n 10 0 dX0_allWrittenOurs_10 rfl rfl ?_
      refine G.iload_n 11 2 dX0_allWrittenOurs_11 rfl rfl ?_
      obtain ⟨q4, e5, hf⟩ := bd_e hf
      refine G.cvI 12 (As := [.int x2]) ck_0 (hs.k k_a0) (c_X0_writtenOurs Z hs a0 x2 k_a0 e5) mk_X0_writtenOurs vk_X0_writtenOurs rfl wd_715 hR (by decide +kernel) ⟨rfl, rfl⟩ rfl (Nat.le_of_ble_eq_true rfl) dX0_allWrittenOurs_12 (fun hs2 => ?_)
      refine G.iadd 15 dX0_allWrittenOurs_15 ?_
      refine G.istore_n 16 [(1, .int (x1 + q4)), (0, .ref (zs Z + a0)), (2, .int x2)] dX0_allWrittenOurs_16 rfl (Nat.le_of_ble_eq_true rfl) rfl ?_
      refine G.iinc 17 2 (x2 + 1) [(2, .int (x2 + 1)), (1, .int (x1 + q4)), (0, .ref (zs Z + a0))] dX0_allWrittenOurs_17 rfl (congrArg (fun z => x2 + z) (by decide +kernel)) (Nat.le_of_ble_eq_true rfl) rfl ?_
      refine G.goto 20 4 dX0_allWrittenOurs_20 (by decide) ?_
      refine G.locs [2, 1, 0] rfl ?_
      exact ih a0 (x1 + q4) (x2 + 1) hs2 k_a0 hf
set_option maxRecDepth 100000 in
set_option maxHeartbeats 4000000 in
theorem c_X0_allWrittenOurs (Z : Sys) {M : Mem} (hs : St M) (a0 : Nat) (k_a0 : K0[a0]? = some (0, 12)) {q : Int32} (hf : f_X0_allWrittenOurs a0 M = some q) : Ct Z yX0_allWrittenOurs cX0_allWrittenOurs 3 (some .int) rm_X0_allWrittenOurs [.ref (zs Z + a0)] M False (PostI q M) := by
  refine Ct.of (by decide +kernel) (Nat.le_of_ble_eq_true rfl) (fun X hR hq _ => ?_)
  show G Z X Y_X0_allWrittenOurs False 0 0 0 [(0, .ref (zs Z + a0))] [] M
  replace hq : RetOk Z X (some .int) False (PostI q M) 0 0 := hq
  unfold f_X0_allWrittenOurs at hf
  refine G.iconst 0 (0 : Int32) dX0_allWrittenOurs_0 (by decide +kernel) ?_
  refine G.istore_n 1 [(1, .int (0 : Int32)), (0, .ref (zs Z + a0))] dX0_allWrittenOurs_1 rfl (Nat.le_of_ble_eq_true rfl) rfl ?_
  refine G.iconst 2 (0 : Int32) dX0_allWrittenOurs_2 (by decide +kernel) ?_
  refine G.istore_n 3 [(2, .int (0 : Int32)), (1, .int (0 : Int32)), (0, .ref (zs Z + a0))] dX0_allWrittenOurs_3 rfl (Nat.le_of_ble_eq_true rfl) rfl ?_
  refine G.locs [2, 1, 0] rfl ?_
  exact l_X0_allWrittenOurs_4 Z X hR hq FU a0 (0 : Int32) (0 : Int32) hs k_a0 hf
abbrev Y_X0_nextSeed : My := (cX0_nextSeed, RX0, 1)
def rm_X0_nextSeed : Room := { frames := 1, cells := 0, slots := 0, locals := 200 }
theorem dX0_nextSeed_0 : decode cX0_nextSeed 0 = .ok (.iload_n 0, 1) := by decide +kernel
theorem dX0_nextSeed_1 : decode cX0_nextSeed 1 = .ok (.ldc 206, 2) := by decide +kernel
theorem dX0_nextSeed_3 : decode cX0_nextSeed 3 = .ok (.imul, 1) := by decide +kernel
theorem dX0_nextSeed_4 : decode cX0_nextSeed 4 = .ok (.sipush 12345, 3) := by decide +kernel
theorem dX0_nextSeed_7 : decode cX0_nextSeed 7 = .ok (.iadd, 1) := by decide +kernel
theorem dX0_nextSeed_8 : decode cX0_nextSeed 8 = .ok (.ireturn, 1) := by decide +kernel
def f_X0_nextSeed (x0 : Int32) : Int32 := ((x0 * (1103515245 : Int32)) + (12345 : Int32))
set_option maxRecDepth 100000 in
set_option maxHeartbeats 4000000 in
theorem c_X0_nextSeed (Z : Sys) {M : Mem} (hs : St M) (x0 : Int32) {q : Int32} (hf : f_X0_nextSeed x0 = q) : Ct Z yX0_nextSeed cX0_nextSeed 1 (some .int) rm_X0_nextSeed [.int x0] M False (PostI q M) := by
  refine Ct.of (by decide +kernel) (Nat.le_of_ble_eq_true rfl) (fun X hR hq _ => ?_)
  show G Z X Y_X0_nextSeed False 0 0 0 [(0, .int x0)] [] M
  replace hq : RetOk Z X (some .int) False (PostI q M) 0 0 := hq
  unfold f_X0_nextSeed at hf
  refine G.iload_n 0 0 dX0_nextSeed_0 rfl rfl ?_
  refine G.ldc 1 (1103515245 : Int32) wd_853 dX0_nextSeed_1 ?_
  refine G.imul 3 dX0_nextSeed_3 ?_
  refine G.sipush 4 (12345 : Int32) dX0_nextSeed_4 (by decide +kernel) ?_
  refine G.iadd 7 dX0_nextSeed_7 ?_
  subst hf
  exact G.rI 8 hq dX0_nextSeed_8 hs
abbrev Y_X0_drawn : My := (cX0_drawn, RX0, 3)
def rm_X0_drawn : Room := { frames := 1, cells := 0, slots := 0, locals := 200 }
theorem dX0_drawn_0 : decode cX0_drawn 0 = .ok (.aload_n 0, 1) := by decide +kernel
theorem dX0_drawn_1 : decode cX0_drawn 1 = .ok (.getfield 17, 3) := by decide +kernel
theorem dX0_drawn_4 : decode cX0_drawn 4 = .ok (.iconst 3, 1) := by decide +kernel
theorem dX0_drawn_5 : decode cX0_drawn 5 = .ok (.iaload, 1) := by decide +kernel
theorem dX0_drawn_6 : decode cX0_drawn 6 = .ok (.istore_n 2, 1) := by decide +kernel
theorem dX0_drawn_7 : decode cX0_drawn 7 = .ok (.iload_n 1, 1) := by decide +kernel
theorem dX0_drawn_8 : decode cX0_drawn 8 = .ok (.ldc 207, 2) := by decide +kernel
theorem dX0_drawn_10 : decode cX0_drawn 10 = .ok (.iand, 1) := by decide +kernel
theorem dX0_drawn_11 : decode cX0_drawn 11 = .ok (.ldc 208, 2) := by decide +kernel
theorem dX0_drawn_13 : decode cX0_drawn 13 = .ok (.idiv, 1) := by decide +kernel
theorem dX0_drawn_14 : decode cX0_drawn 14 = .ok (.iconst 2, 1) := by decide +kernel
theorem dX0_drawn_15 : decode cX0_drawn 15 = .ok (.iload_n 2, 1) := by decide +kernel
theorem dX0_drawn_16 : decode cX0_drawn 16 = .ok (.imul, 1) := by decide +kernel
theorem dX0_drawn_17 : decode cX0_drawn 17 = .ok (.iconst 1, 1) := by decide +kernel
theorem dX0_drawn_18 : decode cX0_drawn 18 = .ok (.iadd, 1) := by decide +kernel
theorem dX0_drawn_19 : decode cX0_drawn 19 = .ok (.irem, 1) := by decide +kernel
theorem dX0_drawn_20 : decode cX0_drawn 20 = .ok (.iload_n 2, 1) := by decide +kernel
theorem dX0_drawn_21 : decode cX0_drawn 21 = .ok (.isub, 1) := by decide +kernel
theorem dX0_drawn_22 : decode cX0_drawn 22 = .ok (.ireturn, 1) := by decide +kernel
def f_X0_drawn (a0 : Nat) (x1 : Int32) (M : Mem) : Option Int32 := gd (¬ (((2 : Int32) * (mI M (a0 + 2) 3)) + (1 : Int32)) = 0) (some ((jrem ((x1 &&& (2147483647 : Int32)) / (65536 : Int32)) (((2 : Int32) * (mI M (a0 + 2) 3)) + (1 : Int32))) - (mI M (a0 + 2) 3)))
set_option maxRecDepth 100000 in
set_option maxHeartbeats 4000000 in
theorem c_X0_drawn (Z : Sys) {M : Mem} (hs : St M) (a0 : Nat) (x1 : Int32) (k_a0 : K0[a0]? = some (0, 12)) {q : Int32} (hf : f_X0_drawn a0 x1 M = some q) : Ct Z yX0_drawn cX0_drawn 3 (some .int) rm_X0_drawn [.ref (zs Z + a0), .int x1] M False (PostI q M) := by
  refine Ct.of (by decide +kernel) (Nat.le_of_ble_eq_true rfl) (fun X hR hq _ => ?_)
  show G Z X Y_X0_drawn False 0 0 0 [(0, .ref (zs Z + a0)), (1, .int x1)] [] M
  replace hq : RetOk Z X (some .int) False (PostI q M) 0 0 := hq
  unfold f_X0_drawn at hf
  refine G.aload_n 0 0 dX0_drawn_0 rfl rfl ?_
  refine G.getp 1 ck_0 2 (a0 + 2) (hs.k k_a0) (pt_0_2 hs k_a0).1 (by decide) (by decide +kernel) wd_265 dX0_drawn_1 ?_
  refine G.iconst 4 (3 : Int32) dX0_drawn_4 (by decide +kernel) ?_
  refine G.ia 5 3 (hs.k (pt_0_2 hs k_a0).2) (by decide +kernel) (by decide +kernel) dX0_drawn_5 ?_
  refine G.istore_n 6 [(2, .int (mI M (a0 + 2) 3)), (0, .ref (zs Z + a0)), (1, .int x1)] dX0_drawn_6 rfl (Nat.le_of_ble_eq_true rfl) rfl ?_
  refine G.iload_n 7 2 dX0_drawn_7 rfl rfl ?_
  refine G.ldc 8 (2147483647 : Int32) wd_858 dX0_drawn_8 ?_
  refine G.iand 10 dX0_drawn_10 ?_
  refine G.ldc 11 (65536 : Int32) wd_859 dX0_drawn_11 ?_
  refine G.idiv 13 dX0_drawn_13 (by decide +kernel) ?_
  refine G.iconst 14 (2 : Int32) dX0_drawn_14 (by decide +kernel) ?_
  refine G.iload_n 15 0 dX0_drawn_15 rfl rfl ?_
  refine G.imul 16 dX0_drawn_16 ?_
  refine G.iconst 17 (1 : Int32) dX0_drawn_17 (by decide +kernel) ?_
  refine G.iadd 18 dX0_drawn_18 ?_
  obtain ⟨g1, hf⟩ := gd_e hf
  refine G.iremJ 19 dX0_drawn_19 g1 ?_
  refine G.iload_n 20 0 dX0_drawn_20 rfl rfl ?_
  refine G.isub 21 dX0_drawn_21 ?_
  (have hf9 := Option.some.inj hf; subst hf9)
  exact G.rI 22 hq dX0_drawn_22 hs
abbrev Y_X8_heldTo : My := (cX8_heldTo, RX8, 3)
def rm_X8_heldTo : Room := { frames := 1, cells := 0, slots := 0, locals := 200 }
theorem dX8_heldTo_0 : decode cX8_heldTo 0 = .ok (.iload_n 1, 1) := by decide +kernel
theorem dX8_heldTo_1 : decode cX8_heldTo 1 = .ok (.iload_n 2, 1) := by decide +kernel
theorem dX8_heldTo_2 : decode cX8_heldTo 2 = .ok (.iload_n 0, 1) := by decide +kernel
theorem dX8_heldTo_3 : decode cX8_heldTo 3 = .ok (.invokestatic 358, 3) := by decide +kernel
theorem dX8_heldTo_6 : decode cX8_heldTo 6 = .ok (.invokestatic 363, 3) := by decide +kernel
theorem dX8_heldTo_9 : decode cX8_heldTo 9 = .ok (.ireturn, 1) := by decide +kernel
def f_X8_heldTo (x0 : Int32) (x1 : Int32) (x2 : Int32) : Int32 := (jmax x1 (jmin x2 x0))
set_option maxRecDepth 100000 in
set_option maxHeartbeats 4000000 in
theorem c_X8_heldTo (Z : Sys) {M : Mem} (hs : St M) (x0 : Int32) (x1 : Int32) (x2 : Int32) {q : Int32} (hf : f_X8_heldTo x0 x1 x2 = q) : Ct Z yX8_heldTo cX8_heldTo 3 (some .int) rm_X8_heldTo [.int x0, .int x1, .int x2] M False (PostI q M) := by
  refine Ct.of (by decide +kernel) (Nat.le_of_ble_eq_true rfl) (fun X hR hq _ => ?_)
  show G Z X Y_X8_heldTo False 0 0 0 [(0, .int x0), (1, .int x1), (2, .int x2)] [] M
  replace hq : RetOk Z X (some .int) False (PostI q M) 0 0 := hq
  unfold f_X8_heldTo at hf
  refine G.iload_n 0 1 dX8_heldTo_0 rfl rfl ?_
  refine G.iload_n 1 2 dX8_heldTo_1 rfl rfl ?_
  refine G.iload_n 2 0 dX8_heldTo_2 rfl rfl ?_
  refine G.mminJ 3 wd_544 wd_476 wd_87 wd_477 hR ⟨Nat.le_of_ble_eq_true rfl, Nat.le_of_ble_eq_true rfl, Nat.le_of_ble_eq_true rfl, Nat.le_of_ble_eq_true rfl⟩ dX8_heldTo_3 ?_
  refine G.mmaxJ 6 wd_545 wd_546 wd_87 wd_547 hR ⟨Nat.le_of_ble_eq_true rfl, Nat.le_of_ble_eq_true rfl, Nat.le_of_ble_eq_true rfl, Nat.le_of_ble_eq_true rfl⟩ dX8_heldTo_6 ?_
  subst hf
  exact G.rI 9 hq dX8_heldTo_9 hs
abbrev Y_X0_becomeHonest : My := (cX0_becomeHonest, RX0, 6)
def rm_X0_becomeHonest : Room := { frames := 2, cells := 0, slots := 0, locals := 222 }
theorem dX0_becomeHonest_0 : decode cX0_becomeHonest 0 = .ok (.iload_n 1, 1) := by decide +kernel
theorem dX0_becomeHonest_1 : decode cX0_becomeHonest 1 = .ok (.istore_n 2, 1) := by decide +kernel
theorem dX0_becomeHonest_2 : decode cX0_becomeHonest 2 = .ok (.iconst 0, 1) := by decide +kernel
theorem dX0_becomeHonest_3 : decode cX0_becomeHonest 3 = .ok (.istore_n 3, 1) := by decide +kernel
theorem dX0_becomeHonest_4 : decode cX0_becomeHonest 4 = .ok (.iconst 0, 1) := by decide +kernel
theorem dX0_becomeHonest_5 : decode cX0_becomeHonest 5 = .ok (.istore 4, 2) := by decide +kernel
theorem dX0_becomeHonest_7 : decode cX0_becomeHonest 7 = .ok (.iload 4, 2) := by decide +kernel
theorem dX0_becomeHonest_9 : decode cX0_becomeHonest 9 = .ok (.aload_n 0, 1) := by decide +kernel
theorem dX0_becomeHonest_10 : decode cX0_becomeHonest 10 = .ok (.getfield 53, 3) := by decide +kernel
theorem dX0_becomeHonest_13 : decode cX0_becomeHonest 13 = .ok (.if_icmp .ge 112, 3) := by decide +kernel
theorem dX0_becomeHonest_16 : decode cX0_becomeHonest 16 = .ok (.aload_n 0, 1) := by decide +kernel
theorem dX0_becomeHonest_17 : decode cX0_becomeHonest 17 = .ok (.getfield 13, 3) := by decide +kernel
theorem dX0_becomeHonest_20 : decode cX0_becomeHonest 20 = .ok (.iload 4, 2) := by decide +kernel
theorem dX0_becomeHonest_22 : decode cX0_becomeHonest 22 = .ok (.aaload, 1) := by decide +kernel
theorem dX0_becomeHonest_23 : decode cX0_becomeHonest 23 = .ok (.astore 5, 2) := by decide +kernel
theorem dX0_becomeHonest_25 : decode cX0_becomeHonest 25 = .ok (.iload_n 2, 1) := by decide +kernel
theorem dX0_becomeHonest_26 : decode cX0_becomeHonest 26 = .ok (.invokestatic 190, 3) := by decide +kernel
theorem dX0_becomeHonest_29 : decode cX0_becomeHonest 29 = .ok (.istore_n 2, 1) := by decide +kernel
theorem dX0_becomeHonest_30 : decode cX0_becomeHonest 30 = .ok (.aload 5, 2) := by decide +kernel
theorem dX0_becomeHonest_32 : decode cX0_becomeHonest 32 = .ok (.aload 5, 2) := by decide +kernel
theorem dX0_becomeHonest_34 : decode cX0_becomeHonest 34 = .ok (.getfield 89, 3) := by decide +kernel
theorem dX0_becomeHonest_37 : decode cX0_becomeHonest 37 = .ok (.aload_n 0, 1) := by decide +kernel
theorem dX0_becomeHonest_38 : decode cX0_becomeHonest 38 = .ok (.getfield 17, 3) := by decide +kernel
theorem dX0_becomeHonest_41 : decode cX0_becomeHonest 41 = .ok (.iconst 1, 1) := by decide +kernel
theorem dX0_becomeHonest_42 : decode cX0_becomeHonest 42 = .ok (.aload 5, 2) := by decide +kernel
theorem dX0_becomeHonest_44 : decode cX0_becomeHonest 44 = .ok (.getfield 131, 3) := by decide +kernel
theorem dX0_becomeHonest_47 : decode cX0_becomeHonest 47 = .ok (.iadd, 1) := by decide +kernel
theorem dX0_becomeHonest_48 : decode cX0_becomeHonest 48 = .ok (.iaload, 1) := by decide +kernel
theorem dX0_becomeHonest_49 : decode cX0_becomeHonest 49 = .ok (.aload_n 0, 1) := by decide +kernel
theorem dX0_becomeHonest_50 : decode cX0_becomeHonest 50 = .ok (.iload_n 2, 1) := by decide +kernel
theorem dX0_becomeHonest_51 : decode cX0_becomeHonest 51 = .ok (.invokevirtual 193, 3) := by decide +kernel
theorem dX0_becomeHonest_54 : decode cX0_becomeHonest 54 = .ok (.iadd, 1) := by decide +kernel
theorem dX0_becomeHonest_55 : decode cX0_becomeHonest 55 = .ok (.iconst 0, 1) := by decide +kernel
theorem dX0_becomeHonest_56 : decode cX0_becomeHonest 56 = .ok (.bipush 100, 2) := by decide +kernel
theorem dX0_becomeHonest_58 : decode cX0_becomeHonest 58 = .ok (.invokestatic 196, 3) := by decide +kernel
theorem dX0_becomeHonest_61 : decode cX0_becomeHonest 61 = .ok (.imul, 1) := by decide +kernel
theorem dX0_becomeHonest_62 : decode cX0_becomeHonest 62 = .ok (.bipush 100, 2) := by decide +kernel
theorem dX0_becomeHonest_64 : decode cX0_becomeHonest 64 = .ok (.idiv, 1) := by decide +kernel
theorem dX0_becomeHonest_65 : decode cX0_becomeHonest 65 = .ok (.putfield 200, 3) := by decide +kernel
theorem dX0_becomeHonest_68 : decode cX0_becomeHonest 68 = .ok (.iload_n 2, 1) := by decide +kernel
theorem dX0_becomeHonest_69 : decode cX0_becomeHonest 69 = .ok (.invokestatic 190, 3) := by decide +kernel
theorem dX0_becomeHonest_72 : decode cX0_becomeHonest 72 = .ok (.istore_n 2, 1) := by decide +kernel
theorem dX0_becomeHonest_73 : decode cX0_becomeHonest 73 = .ok (.aload 5, 2) := by decide +kernel
theorem dX0_becomeHonest_75 : decode cX0_becomeHonest 75 = .ok (.aload 5, 2) := by decide +kernel
theorem dX0_becomeHonest_77 : decode cX0_becomeHonest 77 = .ok (.getfield 200, 3) := by decide +kernel
theorem dX0_becomeHonest_80 : decode cX0_becomeHonest 80 = .ok (.aload_n 0, 1) := by decide +kernel
theorem dX0_becomeHonest_81 : decode cX0_becomeHonest 81 = .ok (.getfield 17, 3) := by decide +kernel
theorem dX0_becomeHonest_84 : decode cX0_becomeHonest 84 = .ok (.iconst 4, 1) := by decide +kernel
theorem dX0_becomeHonest_85 : decode cX0_becomeHonest 85 = .ok (.aload 5, 2) := by decide +kernel
theorem dX0_becomeHonest_87 : decode cX0_becomeHonest 87 = .ok (.getfield 128, 3) := by decide +kernel
theorem dX0_becomeHonest_90 : decode cX0_becomeHonest 90 = .ok (.iadd, 1) := by decide +kernel
theorem dX0_becomeHonest_91 : decode cX0_becomeHonest 91 = .ok (.iaload, 1) := by decide +kernel
theorem dX0_becomeHonest_92 : decode cX0_becomeHonest 92 = .ok (.aload_n 0, 1) := by decide +kernel
theorem dX0_becomeHonest_93 : decode cX0_becomeHonest 93 = .ok (.iload_n 2, 1) := by decide +kernel
theorem dX0_becomeHonest_94 : decode cX0_becomeHonest 94 = .ok (.invokevirtual 193, 3) := by decide +kernel
theorem dX0_becomeHonest_97 : decode cX0_becomeHonest 97 = .ok (.iadd, 1) := by decide +kernel
theorem dX0_becomeHonest_98 : decode cX0_becomeHonest 98 = .ok (.iconst 0, 1) := by decide +kernel
theorem dX0_becomeHonest_99 : decode cX0_becomeHonest 99 = .ok (.bipush 100, 2) := by decide +kernel
theorem dX0_becomeHonest_101 : decode cX0_becomeHonest 101 = .ok (.invokestatic 196, 3) := by decide +kernel
theorem dX0_becomeHonest_104 : decode cX0_becomeHonest 104 = .ok (.imul, 1) := by decide +kernel
theorem dX0_becomeHonest_105 : decode cX0_becomeHonest 105 = .ok (.bipush 100, 2) := by decide +kernel
theorem dX0_becomeHonest_107 : decode cX0_becomeHonest 107 = .ok (.idiv, 1) := by decide +kernel
theorem dX0_becomeHonest_108 : decode cX0_becomeHonest 108 = .ok (.putfield 203, 3) := by decide +kernel
theorem dX0_becomeHonest_111 : decode cX0_becomeHonest 111 = .ok (.iload_n 3, 1) := by decide +kernel
theorem dX0_becomeHonest_112 : decode cX0_becomeHonest 112 = .ok (.aload 5, 2) := by decide +kernel
theorem dX0_becomeHonest_114 : decode cX0_becomeHonest 114 = .ok (.getfield 200, 3) := by decide +kernel
theorem dX0_becomeHonest_117 : decode cX0_becomeHonest 117 = .ok (.iadd, 1) := by decide +kernel
theorem dX0_becomeHonest_118 : decode cX0_becomeHonest 118 = .ok (.istore_n 3, 1) := by decide +kernel
theorem dX0_becomeHonest_119 : decode cX0_becomeHonest 119 = .ok (.iinc 4 1, 3) := by decide +kernel
theorem dX0_becomeHonest_122 : decode cX0_becomeHonest 122 = .ok (.goto (-115), 3) := by decide +kernel
theorem dX0_becomeHonest_125 : decode cX0_becomeHonest 125 = .ok (.iload_n 3, 1) := by decide +kernel
theorem dX0_becomeHonest_126 : decode cX0_becomeHonest 126 = .ok (.ireturn, 1) := by decide +kernel
def L_X0_becomeHonest_7 : Nat → Nat → Int32 → Int32 → Int32 → Mem → Option (Int32 × Mem)
  | 0, _, _, _, _, _ => none
  | n + 1, a0, x2, x3, x4, M => if (mI M a0 1) ≤ x4 then some (x3, M) else gd (inR x4 30) (gd (inR ((1 : Int32) + (mI M ((a0 + 1) + 23 + 2 * x4.toNatClampNeg) 2)) 10) ((f_X0_drawn a0 (f_X0_nextSeed x2) M).bind fun q8 => gd (inR ((4 : Int32) + (mI (sI M ((a0 + 1) + 23 + 2 * x4.toNatClampNeg) 6 (((mI M ((a0 + 1) + 23 + 2 * x4.toNatClampNeg) 1) * (f_X8_heldTo ((mI M (a0 + 2) ((1 : Int32) + (mI M ((a0 + 1) + 23 + 2 * x4.toNatClampNeg) 2)).toNatClampNeg) + q8) (0 : Int32) (100 : Int32))) / (100 : Int32))) ((a0 + 1) + 23 + 2 * x4.toNatClampNeg) 3)) 10) ((f_X0_drawn a0 (f_X0_nextSeed (f_X0_nextSeed x2)) (sI M ((a0 + 1) + 23 + 2 * x4.toNatClampNeg) 6 (((mI M ((a0 + 1) + 23 + 2 * x4.toNatClampNeg) 1) * (f_X8_heldTo ((mI M (a0 + 2) ((1 : Int32) + (mI M ((a0 + 1) + 23 + 2 * x4.toNatClampNeg) 2)).toNatClampNeg) + q8) (0 : Int32) (100 : Int32))) / (100 : Int32)))).bind fun q17 => L_X0_becomeHonest_7 n a0 (f_X0_nextSeed (f_X0_nextSeed x2)) (x3 + (mI (sI (sI M ((a0 + 1) + 23 + 2 * x4.toNatClampNeg) 6 (((mI M ((a0 + 1) + 23 + 2 * x4.toNatClampNeg) 1) * (f_X8_heldTo ((mI M (a0 + 2) ((1 : Int32) + (mI M ((a0 + 1) + 23 + 2 * x4.toNatClampNeg) 2)).toNatClampNeg) + q8) (0 : Int32) (100 : Int32))) / (100 : Int32))) ((a0 + 1) + 23 + 2 * x4.toNatClampNeg) 7 (((mI (sI M ((a0 + 1) + 23 + 2 * x4.toNatClampNeg) 6 (((mI M ((a0 + 1) + 23 + 2 * x4.toNatClampNeg) 1) * (f_X8_heldTo ((mI M (a0 + 2) ((1 : Int32) + (mI M ((a0 + 1) + 23 + 2 * x4.toNatClampNeg) 2)).toNatClampNeg) + q8) (0 : Int32) (100 : Int32))) / (100 : Int32))) ((a0 + 1) + 23 + 2 * x4.toNatClampNeg) 6) * (f_X8_heldTo ((mI (sI M ((a0 + 1) + 23 + 2 * x4.toNatClampNeg) 6 (((mI M ((a0 + 1) + 23 + 2 * x4.toNatClampNeg) 1) * (f_X8_heldTo ((mI M (a0 + 2) ((1 : Int32) + (mI M ((a0 + 1) + 23 + 2 * x4.toNatClampNeg) 2)).toNatClampNeg) + q8) (0 : Int32) (100 : Int32))) / (100 : Int32))) (a0 + 2) ((4 : Int32) + (mI (sI M ((a0 + 1) + 23 + 2 * x4.toNatClampNeg) 6 (((mI M ((a0 + 1) + 23 + 2 * x4.toNatClampNeg) 1) * (f_X8_heldTo ((mI M (a0 + 2) ((1 : Int32) + (mI M ((a0 + 1) + 23 + 2 * x4.toNatClampNeg) 2)).toNatClampNeg) + q8) (0 : Int32) (100 : Int32))) / (100 : Int32))) ((a0 + 1) + 23 + 2 * x4.toNatClampNeg) 3)).toNatClampNeg) + q17) (0 : Int32) (100 : Int32))) / (100 : Int32))) ((a0 + 1) + 23 + 2 * x4.toNatClampNeg) 6)) (x4 + 1) (sI (sI M ((a0 + 1) + 23 + 2 * x4.toNatClampNeg) 6 (((mI M ((a0 + 1) + 23 + 2 * x4.toNatClampNeg) 1) * (f_X8_heldTo ((mI M (a0 + 2) ((1 : Int32) + (mI M ((a0 + 1) + 23 + 2 * x4.toNatClampNeg) 2)).toNatClampNeg) + q8) (0 : Int32) (100 : Int32))) / (100 : Int32))) ((a0 + 1) + 23 + 2 * x4.toNatClampNeg) 7 (((mI (sI M ((a0 + 1) + 23 + 2 * x4.toNatClampNeg) 6 (((mI M ((a0 + 1) + 23 + 2 * x4.toNatClampNeg) 1) * (f_X8_heldTo ((mI M (a0 + 2) ((1 : Int32) + (mI M ((a0 + 1) + 23 + 2 * x4.toNatClampNeg) 2)).toNatClampNeg) + q8) (0 : Int32) (100 : Int32))) / (100 : Int32))) ((a0 + 1) + 23 + 2 * x4.toNatClampNeg) 6) * (f_X8_heldTo ((mI (sI M ((a0 + 1) + 23 + 2 * x4.toNatClampNeg) 6 (((mI M ((a0 + 1) + 23 + 2 * x4.toNatClampNeg) 1) * (f_X8_heldTo ((mI M (a0 + 2) ((1 : Int32) + (mI M ((a0 + 1) + 23 + 2 * x4.toNatClampNeg) 2)).toNatClampNeg) + q8) (0 : Int32) (100 : Int32))) / (100 : Int32))) (a0 + 2) ((4 : Int32) + (mI (sI M ((a0 + 1) + 23 + 2 * x4.toNatClampNeg) 6 (((mI M ((a0 + 1) + 23 + 2 * x4.toNatClampNeg) 1) * (f_X8_heldTo ((mI M (a0 + 2) ((1 : Int32) + (mI M ((a0 + 1) + 23 + 2 * x4.toNatClampNeg) 2)).toNatClampNeg) + q8) (0 : Int32) (100 : Int32))) / (100 : Int32))) ((a0 + 1) + 23 + 2 * x4.toNatClampNeg) 3)).toNatClampNeg) + q17) (0 : Int32) (100 : Int32))) / (100 : Int32))))))
def f_X0_becomeHonest (a0 : Nat) (x1 : Int32) (M : Mem) : Option (Int32 × Mem) := L_X0_becomeHonest_7 FU a0 x1 (0 : Int32) (0 : Int32) M
set_option maxRecDepth 100000 in
set_option maxHeartbeats 4000000 in
theorem l_X0_becomeHonest_7 (Z : Sys) (X : Cx) (hR : xR X = rm_X0_becomeHonest) {q : Int32 × Mem} (hq : RetOk Z X (some .int) False (PostI q.1 q.2) 0 0) : ∀ (n : Nat) (a0 : Nat) (x2 : Int32) (x3 : Int32) (x4 : Int32) (M : Mem) (hs : St M) (k_a0 : K0[a0]? = some (0, 12)) (hf : L_X0_becomeHonest_7 n a0 x2 x3 x4 M = some q), G Z X Y_X0_becomeHonest False 0 0 7 [(0, .ref (zs Z + a0)), (2, .int x2), (3, .int x3), (4, .int x4)] [] M := by
  intro n
  induction n with
  | zero => intro a0 x2 x3 x4 M hs k_a0 hf; cases hf
  | succ n ih =>
    intro a0 x2 x3 x4 M hs k_a0 hf
    unfold L_X0_becomeHonest_7 at hf
    refine G.iload 7 3 dX0_becomeHonest_7 rfl ?_
    refine G.aload_n 9 0 dX0_becomeHonest_9 rfl rfl ?_
    refine G.geti 10 ck_0 1 (hs.k k_a0) (by decide) (by decide +kernel) wd_261 dX0_becomeHonest_10 ?_
    refine G.icmp_ge 13 125 dX0_becomeHonest_13 (by decide) (fun h1 => ?_) (fun h1 => ?_)
    · replace hf := (if_pos h1).symm.trans hf
      refine G.iload_n 125 2 dX0_becomeHonest_125 rfl rfl ?_
      (have hf9 := Option.some.inj hf; subst hf9)
      exact G.rI 126 hq dX0_becomeHonest_126 hs
    · replace hf := (if_neg h1).symm.trans hf
      refine G.aload_n 16 0 dX0_becomeHonest_16 rfl rfl ?_
      refine G.getp 17 ck_0 0 (a0 + 1) (hs.k k_a0) (pt_0_0 hs k_a0).1 (by decide) (by decide +kernel) wd_257 dX0_becomeHonest_17 ?_
      refine G.iload 20 3 dX0_becomeHonest_20 rfl ?_
      obtain ⟨g2, hf⟩ := gd_e hf
      refine G.aa 22 x4.toNatClampNeg ((a0 + 1) + 23 + 2 * x4.toNatClampNeg) (hs.k (pt_0_0 hs k_a0).2) (by decide) rfl rfl g2 rfl (pa_13 hs (pt_0_0 hs k_a0).2 (inlt g2)).1 dX0_becomeHonest_22 ?_
      refine G.astore 23 [(5, .ref (zs Z + ((a0 + 1) + 23 + 2 * x4.toNatClampNeg))), (0, .ref (zs Z + a0)), (2, .int x2), (3, .int x3), (4, .int x4)] dX0_becomeHonest_23 (Nat.le_of_ble_eq_true rfl) rfl ?_
      refine G.iload_n 25 2 dX0_becomeHonest_25 rfl rfl ?_
      refine G.csI 26 (As := [.int x2]) (c_X0_nextSeed Z hs x2 rfl) mk_X0_nextSeed wd_851 wd_850 hR (by decide +kernel) ⟨rfl, rfl⟩ rfl (Nat.le_of_ble_eq_true rfl) dX0_becomeHonest_26 (fun hs3 => ?_)
      refine G.istore_n 29 [(2, .int (f_X0_nextSeed x2)), (5, .ref (zs Z + ((a0 + 1) + 23 + 2 * x4.toNatClampNeg))), (0, .ref (zs Z + a0)), (3, .int x3), (4, .int x4)] dX0_becomeHonest_29 rfl (Nat.le_of_ble_eq_true rfl) rfl ?_
      refine G.aload 30 1 dX0_becomeHonest_30 rfl ?_
      refine G.aload 32 1 dX0_becomeHonest_32 rfl ?_
      refine G.geti 34 ck_1 1 (hs3.k (pa_13 hs (pt_0_0 hs k_a0).2 (inlt g2)).2) (by decide) (by decide +kernel) wd_192 dX0_becomeHonest_34 ?_
      refine G.aload_n 37 2 dX0_becomeHonest_37 rfl rfl ?_
      refine G.getp 38 ck_0 2 (a0 + 2) (hs3.k k_a0) (pt_0_2 hs3 k_a0).1 (by decide) (by decide +kernel) wd_265 dX0_becomeHonest_38 ?_
      refine G.iconst 41 (1 : Int32) dX0_becomeHonest_41 (by decide +kernel) ?_
      refine G.aload 42 1 dX0_becomeHonest_42 rfl ?_
      refine G.geti 44 ck_1 2 (hs3.k (pa_13 hs (pt_0_0 hs k_a0).2 (inlt g2)).2) (by decide) (by decide +kernel) wd_196 dX0_becomeHonest_44 ?_
      refine G.iadd 47 dX0_becomeHonest_47 ?_
      obtain ⟨g5, hf⟩ := gd_e hf
      refine G.ia 48 ((1 : Int32) + (mI M ((a0 + 1) + 23 + 2 * x4.toNatClampNeg) 2)).toNatClampNeg (hs3.k (pt_0_2 hs3 k_a0).2) g5 rfl dX0_becomeHonest_48 ?_
      refine G.aload_n 49 2 dX0_becomeHonest_49 rfl rfl ?_
      refine G.iload_n 50 0 dX0_becomeHonest_50 rfl rfl ?_
      obtain ⟨q8, e9, hf⟩ := bd_e hf
      refine G.cvI 51 (As := [.int (f_X0_nextSeed x2)]) ck_0 (hs3.k k_a0) (c_X0_drawn Z hs3 a0 (f_X0_nextSeed x2) k_a0 e9) mk_X0_drawn vk_X0_drawn rfl wd_854 hR (by decide +kernel) ⟨rfl, rfl⟩ rfl (Nat.le_of_ble_eq_true rfl) dX0_becomeHonest_51 (fun hs6 => ?_)
      refine G.iadd 54 dX0_becomeHonest_54 ?_
      refine G.iconst 55 (0 : Int32) dX0_becomeHonest_55 (by decide +kernel) ?_
      refine G.bipush 56 (100 : Int32) dX0_becomeHonest_56 (by decide +kernel) ?_
      refine G.cnI 58 (As := [.int ((mI M (a0 + 2) ((1 : Int32) + (mI M ((a0 + 1) + 23 + 2 * x4.toNatClampNeg) 2)).toNatClampNeg) + q8), .int (0 : Int32), .int (100 : Int32)]) (c_X8_heldTo Z hs6 ((mI M (a0 + 2) ((1 : Int32) + (mI M ((a0 + 1) + 23 + 2 * x4.toNatClampNeg) 2)).toNatClampNeg) + q8) (0 : Int32) (100 : Int32) rfl) mk_X8_heldTo wd_542 wd_860 hR (by decide +kernel) ⟨rfl, rfl⟩ rfl (Nat.le_of_ble_eq_true rfl) dX0_becomeHonest_58 (fun hs10 => ?_)
      refine G.imul 61 dX0_becomeHonest_61 ?_
      refine G.bipush 62 (100 : Int32) dX0_becomeHonest_62 (by decide +kernel) ?_
      refine G.idiv 64 dX0_becomeHonest_64 (by decide +kernel) ?_
      refine G.puti 65 ck_1 6 (hs10.k (pa_13 hs (pt_0_0 hs k_a0).2 (inlt g2)).2) (by decide) (by decide +kernel) rfl wd_209 rfl rfl dX0_becomeHonest_65 ?_
      refine G.iload_n 68 0 dX0_becomeHonest_68 rfl rfl ?_
      refine G.csI 69 (As := [.int (f_X0_nextSeed x2)]) (c_X0_nextSeed Z (St.i hs10) (f_X0_nextSeed x2) rfl) mk_X0_nextSeed wd_851 wd_850 hR (by decide +kernel) ⟨rfl, rfl⟩ rfl (Nat.le_of_ble_eq_true rfl) dX0_becomeHonest_69 (fun hs12 => ?_)
      refine G.istore_n 72 [(2, .int (f_X0_nextSeed (f_X0_nextSeed x2))), (5, .ref (zs Z + ((a0 + 1) + 23 + 2 * x4.toNatClampNeg))), (0, .ref (zs Z + a0)), (3, .int x3), (4, .int x4)] dX0_becomeHonest_72 rfl (Nat.le_of_ble_eq_true rfl) rfl ?_
      refine G.aload 73 1 dX0_becomeHonest_73 rfl ?_
      refine G.aload 75 1 dX0_becomeHonest_75 rfl ?_
      refine G.geti 77 ck_1 6 (hs12.k (pa_13 hs (pt_0_0 hs k_a0).2 (inlt g2)).2) (by decide) (by decide +kernel) wd_209 dX0_becomeHonest_77 ?_
      refine G.aload_n 80 2 dX0_becomeHonest_80 rfl rfl ?_
      refine G.getp 81 ck_0 2 (a0 + 2) (hs12.k k_a0) (pt_0_2 hs12 k_a0).1 (by decide) (by decide +kernel) wd_265 dX0_becomeHonest_81 ?_
      refine G.iconst 84 (4 : Int32) dX0_becomeHonest_84 (by decide +kernel) ?_
      refine G.aload 85 1 dX0_becomeHonest_85 rfl ?_
      refine G.geti 87 ck_1 3 (hs12.k (pa_13 hs (pt_0_0 hs k_a0).2 (inlt g2)).2) (by decide) (by decide +kernel) wd_199 dX0_becomeHonest_87 ?_
      refine G.iadd 90 dX0_becomeHonest_90 ?_
      obtain ⟨g14, hf⟩ := gd_e hf
      refine G.ia 91 ((4 : Int32) + (mI (sI M ((a0 + 1) + 23 + 2 * x4.toNatClampNeg) 6 (((mI M ((a0 + 1) + 23 + 2 * x4.toNatClampNeg) 1) * (f_X8_heldTo ((mI M (a0 + 2) ((1 : Int32) + (mI M ((a0 + 1) + 23 + 2 * x4.toNatClampNeg) 2)).toNatClampNeg) + q8) (0 : Int32) (100 : Int32))) / (100 : Int32))) ((a0 + 1) + 23 + 2 * x4.toNatClampNeg) 3)).toNatClampNeg (hs12.k (pt_0_2 hs12 k_a0).2) g14 rfl dX0_becomeHonest_91 ?_
      refine G.aload_n 92 2 dX0_becomeHonest_92 rfl rfl ?_
      refine G.iload_n 93 0 dX0_becomeHonest_93 rfl rfl ?_
      obtain ⟨q17, e18, hf⟩ := bd_e hf
      refine G.cvI 94 (As := [.int (f_X0_nextSeed (f_X0_nextSeed x2))]) ck_0 (hs12.k k_a0) (c_X0_drawn Z hs12 a0 (f_X0_nextSeed (f_X0_nextSeed x2)) k_a0 e18) mk_X0_drawn vk_X0_drawn rfl wd_854 hR (by decide +kernel) ⟨rfl, rfl⟩ rfl (Nat.le_of_ble_eq_true rfl) dX0_becomeHonest_94 (fun hs15 => ?_)
      refine G.iadd 97 dX0_becomeHonest_97 ?_
      refine G.iconst 98 (0 : Int32) dX0_becomeHonest_98 (by decide +kernel) ?_
      refine G.bipush 99 (100 : Int32) dX0_becomeHonest_99 (by decide +kernel) ?_
      refine G.cnI 101 (As := [.int ((mI (sI M ((a0 + 1) + 23 + 2 * x4.toNatClampNeg) 6 (((mI M ((a0 + 1) + 23 + 2 * x4.toNatClampNeg) 1) * (f_X8_heldTo ((mI M (a0 + 2) ((1 : Int32) + (mI M ((a0 + 1) + 23 + 2 * x4.toNatClampNeg) 2)).toNatClampNeg) + q8) (0 : Int32) (100 : Int32))) / (100 : Int32))) (a0 + 2) ((4 : Int32) + (mI (sI M ((a0 + 1) + 23 + 2 * x4.toNatClampNeg) 6 (((mI M ((a0 + 1) + 23 + 2 * x4.toNatClampNeg) 1) * (f_X8_heldTo ((mI M (a0 + 2) ((1 : Int32) + (mI M ((a0 + 1) + 23 + 2 * x4.toNatClampNeg) 2)).toNatClampNeg) + q8) (0 : Int32) (100 : Int32))) / (100 : Int32))) ((a0 + 1) + 23 + 2 * x4.toNatClampNeg) 3)).toNatClampNeg) + q17), .int (0 : Int32), .int (100 : Int32)]) (c_X8_heldTo Z hs15 ((mI (sI M ((a0 + 1) + 23 + 2 * x4.toNatClampNeg) 6 (((mI M ((a0 + 1) + 23 + 2 * x4.toNatClampNeg) 1) * (f_X8_heldTo ((mI M (a0 + 2) ((1 : Int32) + (mI M ((a0 + 1) + 23 + 2 * x4.toNatClampNeg) 2)).toNatClampNeg) + q8) (0 : Int32) (100 : Int32))) / (100 : Int32))) (a0 + 2) ((4 : Int32) + (mI (sI M ((a0 + 1) + 23 + 2 * x4.toNatClampNeg) 6 (((mI M ((a0 + 1) + 23 + 2 * x4.toNatClampNeg) 1) * (f_X8_heldTo ((mI M (a0 + 2) ((1 : Int32) + (mI M ((a0 + 1) + 23 + 2 * x4.toNatClampNeg) 2)).toNatClampNeg) + q8) (0 : Int32) (100 : Int32))) / (100 : Int32))) ((a0 + 1) + 23 + 2 * x4.toNatClampNeg) 3)).toNatClampNeg) + q17) (0 : Int32) (100 : Int32) rfl) mk_X8_heldTo wd_542 wd_860 hR (by decide +kernel) ⟨rfl, rfl⟩ rfl (Nat.le_of_ble_eq_true rfl) dX0_becomeHonest_101 (fun hs19 => ?_)
      refine G.imul 104 dX0_becomeHonest_104 ?_
      refine G.bipush 105 (100 : Int32) dX0_becomeHonest_105 (by decide +kernel) ?_
      refine G.idiv 107 dX0_becomeHonest_107 (by decide +kernel) ?_
      refine G.puti 108 ck_1 7 (hs19.k (pa_13 hs (pt_0_0 hs k_a0).2 (inlt g2)).2) (by decide) (by decide +kernel) rfl wd_212 rfl rfl dX0_becomeHonest_108 ?_
      refine G.iload_n 111 3 dX0_becomeHonest_111 rfl rfl ?_
      refine G.aload 112 1 dX0_becomeHonest_112 rfl ?_
      refine G.geti 114 ck_1 6 ((St.i hs19).k (pa_13 hs (pt_0_0 hs k_a0).2 (inlt g2)).2) (by decide) (by decide +kernel) wd_209 dX0_becomeHonest_114 ?_
      refine G.iadd 117 dX0_becomeHonest_117 ?_
      refine G.istore_n 118 [(3, .int (x3 + (mI (sI (sI M ((a0 + 1) + 23 + 2 * x4.toNatClampNeg) 6 (((mI M ((a0 + 1) + 23 + 2 * x4.toNatClampNeg) 1) * (f_X8_heldTo ((mI M (a0 + 2) ((1 : Int32) + (mI M ((a0 + 1) + 23 + 2 * x4.toNatClampNeg) 2)).toNatClampNeg) + q8) (0 : Int32) (100 : Int32))) / (100 : Int32))) ((a0 + 1) + 23 + 2 * x4.toNatClampNeg) 7 (((mI (sI M ((a0 + 1) + 23 + 2 * x4.toNatClampNeg) 6 (((mI M ((a0 + 1) + 23 + 2 * x4.toNatClampNeg) 1) * (f_X8_heldTo ((mI M (a0 + 2) ((1 : Int32) + (mI M ((a0 + 1) + 23 + 2 * x4.toNatClampNeg) 2)).toNatClampNeg) + q8) (0 : Int32) (100 : Int32))) / (100 : Int32))) ((a0 + 1) + 23 + 2 * x4.toNatClampNeg) 6) * (f_X8_heldTo ((mI (sI M ((a0 + 1) + 23 + 2 * x4.toNatClampNeg) 6 (((mI M ((a0 + 1) + 23 + 2 * x4.toNatClampNeg) 1) * (f_X8_heldTo ((mI M (a0 + 2) ((1 : Int32) + (mI M ((a0 + 1) + 23 + 2 * x4.toNatClampNeg) 2)).toNatClampNeg) + q8) (0 : Int32) (100 : Int32))) / (100 : Int32))) (a0 + 2) ((4 : Int32) + (mI (sI M ((a0 + 1) + 23 + 2 * x4.toNatClampNeg) 6 (((mI M ((a0 + 1) + 23 + 2 * x4.toNatClampNeg) 1) * (f_X8_heldTo ((mI M (a0 + 2) ((1 : Int32) + (mI M ((a0 + 1) + 23 + 2 * x4.toNatClampNeg) 2)).toNatClampNeg) + q8) (0 : Int32) (100 : Int32))) / (100 : Int32))) ((a0 + 1) + 23 + 2 * x4.toNatClampNeg) 3)).toNatClampNeg) + q17) (0 : Int32) (100 : Int32))) / (100 : Int32))) ((a0 + 1) + 23 + 2 * x4.toNatClampNeg) 6))), (2, .int (f_X0_nextSeed (f_X0_nextSeed x2))), (5, .ref (zs Z + ((a0 + 1) + 23 + 2 * x4.toNatClampNeg))), (0, .ref (zs Z + a0)), (4, .int x4)] dX0_becomeHonest_118 rfl (Nat.le_of_ble_eq_true rfl) rfl ?_
      refine G.iinc 119 4 (x4 + 1) [(4, .int (x4 + 1)), (3, .int (x3 + (mI (sI (sI M ((a0 + 1) + 23 + 2 * x4.toNatClampNeg) 6 (((mI M ((a0 + 1) + 23 + 2 * x4.toNatClampNeg) 1) * (f_X8_heldTo ((mI M (a0 + 2) ((1 : Int32) + (mI M ((a0 + 1) + 23 + 2 * x4.toNatClampNeg) 2)).toNatClampNeg) + q8) (0 : Int32) (100 : Int32))) / (100 : Int32))) ((a0 + 1) + 23 + 2 * x4.toNatClampNeg) 7 (((mI (sI M ((a0 + 1) + 23 + 2 * x4.toNatClampNeg) 6 (((mI M ((a0 + 1) + 23 + 2 * x4.toNatClampNeg) 1) * (f_X8_heldTo ((mI M (a0 + 2) ((1 : Int32) + (mI M ((a0 + 1) + 23 + 2 * x4.toNatClampNeg) 2)).toNatClampNeg) + q8) (0 : Int32) (100 : Int32))) / (100 : Int32))) ((a0 + 1) + 23 + 2 * x4.toNatClampNeg) 6) * (f_X8_heldTo ((mI (sI M ((a0 + 1) + 23 + 2 * x4.toNatClampNeg) 6 (((mI M ((a0 + 1) + 23 + 2 * x4.toNatClampNeg) 1) * (f_X8_heldTo ((mI M (a0 + 2) ((1 : Int32) + (mI M ((a0 + 1) + 23 + 2 * x4.toNatClampNeg) 2)).toNatClampNeg) + q8) (0 : Int32) (100 : Int32))) / (100 : Int32))) (a0 + 2) ((4 : Int32) + (mI (sI M ((a0 + 1) + 23 + 2 * x4.toNatClampNeg) 6 (((mI M ((a0 + 1) + 23 + 2 * x4.toNatClampNeg) 1) * (f_X8_heldTo ((mI M (a0 + 2) ((1 : Int32) + (mI M ((a0 + 1) + 23 + 2 * x4.toNatClampNeg) 2)).toNatClampNeg) + q8) (0 : Int32) (100 : Int32))) / (100 : Int32))) ((a0 + 1) + 23 + 2 * x4.toNatClampNeg) 3)).toNatClampNeg) + q17) (0 : Int32) (100 : Int32))) / (100 : Int32))) ((a0 + 1) + 23 + 2 * x4.toNatClampNeg) 6))), (2, .int (f_X0_nextSeed (f_X0_nextSeed x2))), (5, .ref (zs Z + ((a0 + 1) + 23 + 2 * x4.toNatClampNeg))), (0, .ref (zs Z + a0))] dX0_becomeHonest_119 rfl (congrArg (fun z => x4 + z) (by decide +kernel)) (Nat.le_of_ble_eq_true rfl) rfl ?_
      refine G.goto 122 7 dX0_becomeHonest_122 (by decide) ?_
      refine G.locs [4, 2, 1, 0] rfl ?_
      exact ih a0 (f_X0_nextSeed (f_X0_nextSeed x2)) (x3 + (mI (sI (sI M ((a0 + 1) + 23 + 2 * x4.toNatClampNeg) 6 (((mI M ((a0 + 1) + 23 + 2 * x4.toNatClampNeg) 1) * (f_X8_heldTo ((mI M (a0 + 2) ((1 : Int32) + (mI M ((a0 + 1) + 23 + 2 * x4.toNatClampNeg) 2)).toNatClampNeg) + q8) (0 : Int32) (100 : Int32))) / (100 : Int32))) ((a0 + 1) + 23 + 2 * x4.toNatClampNeg) 7 (((mI (sI M ((a0 + 1) + 23 + 2 * x4.toNatClampNeg) 6 (((mI M ((a0 + 1) + 23 + 2 * x4.toNatClampNeg) 1) * (f_X8_heldTo ((mI M (a0 + 2) ((1 : Int32) + (mI M ((a0 + 1) + 23 + 2 * x4.toNatClampNeg) 2)).toNatClampNeg) + q8) (0 : Int32) (100 : Int32))) / (100 : Int32))) ((a0 + 1) + 23 + 2 * x4.toNatClampNeg) 6) * (f_X8_heldTo ((mI (sI M ((a0 + 1) + 23 + 2 * x4.toNatClampNeg) 6 (((mI M ((a0 + 1) + 23 + 2 * x4.toNatClampNeg) 1) * (f_X8_heldTo ((mI M (a0 + 2) ((1 : Int32) + (mI M ((a0 + 1) + 23 + 2 * x4.toNatClampNeg) 2)).toNatClampNeg) + q8) (0 : Int32) (100 : Int32))) / (100 : Int32))) (a0 + 2) ((4 : Int32) + (mI (sI M ((a0 + 1) + 23 + 2 * x4.toNatClampNeg) 6 (((mI M ((a0 + 1) + 23 + 2 * x4.toNatClampNeg) 1) * (f_X8_heldTo ((mI M (a0 + 2) ((1 : Int32) + (mI M ((a0 + 1) + 23 + 2 * x4.toNatClampNeg) 2)).toNatClampNeg) + q8) (0 : Int32) (100 : Int32))) / (100 : Int32))) ((a0 + 1) + 23 + 2 * x4.toNatClampNeg) 3)).toNatClampNeg) + q17) (0 : Int32) (100 : Int32))) / (100 : Int32))) ((a0 + 1) + 23 + 2 * x4.toNatClampNeg) 6)) (x4 + 1) (sI (sI M ((a0 + 1) + 23 + 2 * x4.toNatClampNeg) 6 (((mI M ((a0 + 1) + 23 + 2 * x4.toNatClampNeg) 1) * (f_X8_heldTo ((mI M (a0 + 2) ((1 : Int32) + (mI M ((a0 + 1) + 23 + 2 * x4.toNatClampNeg) 2)).toNatClampNeg) + q8) (0 : Int32) (100 : Int32))) / (100 : Int32))) ((a0 + 1) + 23 + 2 * x4.toNatClampNeg) 7 (((mI (sI M ((a0 + 1) + 23 + 2 * x4.toNatClampNeg) 6 (((mI M ((a0 + 1) + 23 + 2 * x4.toNatClampNeg) 1) * (f_X8_heldTo ((mI M (a0 + 2) ((1 : Int32) + (mI M ((a0 + 1) + 23 + 2 * x4.toNatClampNeg) 2)).toNatClampNeg) + q8) (0 : Int32) (100 : Int32))) / (100 : Int32))) ((a0 + 1) + 23 + 2 * x4.toNatClampNeg) 6) * (f_X8_heldTo ((mI (sI M ((a0 + 1) + 23 + 2 * x4.toNatClampNeg) 6 (((mI M ((a0 + 1) + 23 + 2 * x4.toNatClampNeg) 1) * (f_X8_heldTo ((mI M (a0 + 2) ((1 : Int32) + (mI M ((a0 + 1) + 23 + 2 * x4.toNatClampNeg) 2)).toNatClampNeg) + q8) (0 : Int32) (100 : Int32))) / (100 : Int32))) (a0 + 2) ((4 : Int32) + (mI (sI M ((a0 + 1) + 23 + 2 * x4.toNatClampNeg) 6 (((mI M ((a0 + 1) + 23 + 2 * x4.toNatClampNeg) 1) * (f_X8_heldTo ((mI M (a0 + 2) ((1 : Int32) + (mI M ((a0 + 1) + 23 + 2 * x4.toNatClampNeg) 2)).toNatClampNeg) + q8) (0 : Int32) (100 : Int32))) / (100 : Int32))) ((a0 + 1) + 23 + 2 * x4.toNatClampNeg) 3)).toNatClampNeg) + q17) (0 : Int32) (100 : Int32))) / (100 : Int32))) (St.i hs19) k_a0 hf
set_option maxRecDepth 100000 in
set_option maxHeartbeats 4000000 in
theorem c_X0_becomeHonest (Z : Sys) {M : Mem} (hs : St M) (a0 : Nat) (x1 : Int32) (k_a0 : K0[a0]? = some (0, 12)) {q : Int32 × Mem} (hf : f_X0_becomeHonest a0 x1 M = some q) : Ct Z yX0_becomeHonest cX0_becomeHonest 6 (some .int) rm_X0_becomeHonest [.ref (zs Z + a0), .int x1] M False (PostI q.1 q.2) := by
  refine Ct.of (by decide +kernel) (Nat.le_of_ble_eq_true rfl) (fun X hR hq _ => ?_)
  show G Z X Y_X0_becomeHonest False 0 0 0 [(0, .ref (zs Z + a0)), (1, .int x1)] [] M
  replace hq : RetOk Z X (some .int) False (PostI q.1 q.2) 0 0 := hq
  unfold f_X0_becomeHonest at hf
  refine G.iload_n 0 1 dX0_becomeHonest_0 rfl rfl ?_
  refine G.istore_n 1 [(2, .int x1), (0, .ref (zs Z + a0)), (1, .int x1)] dX0_becomeHonest_1 rfl (Nat.le_of_ble_eq_true rfl) rfl ?_
  refine G.iconst 2 (0 : Int32) dX0_becomeHonest_2 (by decide +kernel) ?_
  refine G.istore_n 3 [(3, .int (0 : Int32)), (2, .int x1), (0, .ref (zs Z + a0)), (1, .int x1)] dX0_becomeHonest_3 rfl (Nat.le_of_ble_eq_true rfl) rfl ?_
  refine G.iconst 4 (0 : Int32) dX0_becomeHonest_4 (by decide +kernel) ?_
  refine G.istore 5 [(4, .int (0 : Int32)), (3, .int (0 : Int32)), (2, .int x1), (0, .ref (zs Z + a0)), (1, .int x1)] dX0_becomeHonest_5 (Nat.le_of_ble_eq_true rfl) rfl ?_
  refine G.locs [3, 2, 1, 0] rfl ?_
  exact l_X0_becomeHonest_7 Z X hR hq FU a0 x1 (0 : Int32) (0 : Int32) M hs k_a0 hf
abbrev Y_X5_copyFrom : My := (cX5_copyFrom, RX5, 2)
def rm_X5_copyFrom : Room := { frames := 1, cells := 0, slots := 0, locals := 200 }
theorem dX5_copyFrom_0 : decode cX5_copyFrom 0 = .ok (.aload_n 0, 1) := by decide +kernel
theorem dX5_copyFrom_1 : decode cX5_copyFrom 1 = .ok (.aload_n 1, 1) := by decide +kernel
theorem dX5_copyFrom_2 : decode cX5_copyFrom 2 = .ok (.getfield 9, 3) := by decide +kernel
theorem dX5_copyFrom_5 : decode cX5_copyFrom 5 = .ok (.putfield 9, 3) := by decide +kernel
theorem dX5_copyFrom_8 : decode cX5_copyFrom 8 = .ok (.aload_n 0, 1) := by decide +kernel
theorem dX5_copyFrom_9 : decode cX5_copyFrom 9 = .ok (.aload_n 1, 1) := by decide +kernel
theorem dX5_copyFrom_10 : decode cX5_copyFrom 10 = .ok (.getfield 13, 3) := by decide +kernel
theorem dX5_copyFrom_13 : decode cX5_copyFrom 13 = .ok (.putfield 13, 3) := by decide +kernel
theorem dX5_copyFrom_16 : decode cX5_copyFrom 16 = .ok (.return_, 1) := by decide +kernel
def f_X5_copyFrom (a0 : Nat) (a1 : Nat) (M : Mem) : Option Mem := some (sI (sI M a0 0 (mI M a1 0)) a0 1 (mI (sI M a0 0 (mI M a1 0)) a1 1))
set_option maxRecDepth 100000 in
set_option maxHeartbeats 4000000 in
theorem c_X5_copyFrom (Z : Sys) {M : Mem} (hs : St M) (a0 : Nat) (a1 : Nat) (k_a0 : K0[a0]? = some (5, 2)) (k_a1 : K0[a1]? = some (5, 2)) {q : Mem} (hf : f_X5_copyFrom a0 a1 M = some q) : Ct Z yX5_copyFrom cX5_copyFrom 2 none rm_X5_copyFrom [.ref (zs Z + a0), .ref (zs Z + a1)] M False (PostV q) := by
  refine Ct.of (by decide +kernel) (Nat.le_of_ble_eq_true rfl) (fun X hR hq _ => ?_)
  show G Z X Y_X5_copyFrom False 0 0 0 [(0, .ref (zs Z + a0)), (1, .ref (zs Z + a1))] [] M
  replace hq : RetOk Z X none False (PostV q) 0 0 := hq
  unfold f_X5_copyFrom at hf
  refine G.aload_n 0 0 dX5_copyFrom_0 rfl rfl ?_
  refine G.aload_n 1 1 dX5_copyFrom_1 rfl rfl ?_
  refine G.geti 2 ck_5 0 (hs.k k_a1) (by decide) (by decide +kernel) wd_174 dX5_copyFrom_2 ?_
  refine G.puti 5 ck_5 0 (hs.k k_a0) (by decide) (by decide +kernel) rfl wd_174 rfl rfl dX5_copyFrom_5 ?_
  refine G.aload_n 8 0 dX5_copyFrom_8 rfl rfl ?_
  refine G.aload_n 9 1 dX5_copyFrom_9 rfl rfl ?_
  refine G.geti 10 ck_5 1 ((St.i hs).k k_a1) (by decide) (by decide +kernel) wd_177 dX5_copyFrom_10 ?_
  refine G.puti 13 ck_5 1 ((St.i hs).k k_a0) (by decide) (by decide +kernel) rfl wd_177 rfl rfl dX5_copyFrom_13 ?_
  (have hf9 := Option.some.inj hf; subst hf9)
  exact G.rV 16 hq dX5_copyFrom_16 (St.i (St.i hs))
abbrev Y_X1_copyFrom : My := (cX1_copyFrom, RX1, 2)
def rm_X1_copyFrom : Room := { frames := 2, cells := 0, slots := 0, locals := 221 }
theorem dX1_copyFrom_0 : decode cX1_copyFrom 0 = .ok (.aload_n 0, 1) := by decide +kernel
theorem dX1_copyFrom_1 : decode cX1_copyFrom 1 = .ok (.aload_n 1, 1) := by decide +kernel
theorem dX1_copyFrom_2 : decode cX1_copyFrom 2 = .ok (.getfield 18, 3) := by decide +kernel
theorem dX1_copyFrom_5 : decode cX1_copyFrom 5 = .ok (.putfield 18, 3) := by decide +kernel
theorem dX1_copyFrom_8 : decode cX1_copyFrom 8 = .ok (.aload_n 0, 1) := by decide +kernel
theorem dX1_copyFrom_9 : decode cX1_copyFrom 9 = .ok (.aload_n 1, 1) := by decide +kernel
theorem dX1_copyFrom_10 : decode cX1_copyFrom 10 = .ok (.getfield 22, 3) := by decide +kernel
theorem dX1_copyFrom_13 : decode cX1_copyFrom 13 = .ok (.putfield 22, 3) := by decide +kernel
theorem dX1_copyFrom_16 : decode cX1_copyFrom 16 = .ok (.aload_n 0, 1) := by decide +kernel
theorem dX1_copyFrom_17 : decode cX1_copyFrom 17 = .ok (.aload_n 1, 1) := by decide +kernel
theorem dX1_copyFrom_18 : decode cX1_copyFrom 18 = .ok (.getfield 25, 3) := by decide +kernel
theorem dX1_copyFrom_21 : decode cX1_copyFrom 21 = .ok (.putfield 25, 3) := by decide +kernel
theorem dX1_copyFrom_24 : decode cX1_copyFrom 24 = .ok (.aload_n 0, 1) := by decide +kernel
theorem dX1_copyFrom_25 : decode cX1_copyFrom 25 = .ok (.aload_n 1, 1) := by decide +kernel
theorem dX1_copyFrom_26 : decode cX1_copyFrom 26 = .ok (.getfield 28, 3) := by decide +kernel
theorem dX1_copyFrom_29 : decode cX1_copyFrom 29 = .ok (.putfield 28, 3) := by decide +kernel
theorem dX1_copyFrom_32 : decode cX1_copyFrom 32 = .ok (.aload_n 0, 1) := by decide +kernel
theorem dX1_copyFrom_33 : decode cX1_copyFrom 33 = .ok (.aload_n 1, 1) := by decide +kernel
theorem dX1_copyFrom_34 : decode cX1_copyFrom 34 = .ok (.getfield 31, 3) := by decide +kernel
theorem dX1_copyFrom_37 : decode cX1_copyFrom 37 = .ok (.putfield 31, 3) := by decide +kernel
theorem dX1_copyFrom_40 : decode cX1_copyFrom 40 = .ok (.aload_n 0, 1) := by decide +kernel
theorem dX1_copyFrom_41 : decode cX1_copyFrom 41 = .ok (.aload_n 1, 1) := by decide +kernel
theorem dX1_copyFrom_42 : decode cX1_copyFrom 42 = .ok (.getfield 34, 3) := by decide +kernel
theorem dX1_copyFrom_45 : decode cX1_copyFrom 45 = .ok (.putfield 34, 3) := by decide +kernel
theorem dX1_copyFrom_48 : decode cX1_copyFrom 48 = .ok (.aload_n 0, 1) := by decide +kernel
theorem dX1_copyFrom_49 : decode cX1_copyFrom 49 = .ok (.aload_n 1, 1) := by decide +kernel
theorem dX1_copyFrom_50 : decode cX1_copyFrom 50 = .ok (.getfield 37, 3) := by decide +kernel
theorem dX1_copyFrom_53 : decode cX1_copyFrom 53 = .ok (.putfield 37, 3) := by decide +kernel
theorem dX1_copyFrom_56 : decode cX1_copyFrom 56 = .ok (.aload_n 0, 1) := by decide +kernel
theorem dX1_copyFrom_57 : decode cX1_copyFrom 57 = .ok (.getfield 12, 3) := by decide +kernel
theorem dX1_copyFrom_60 : decode cX1_copyFrom 60 = .ok (.aload_n 1, 1) := by decide +kernel
theorem dX1_copyFrom_61 : decode cX1_copyFrom 61 = .ok (.getfield 12, 3) := by decide +kernel
theorem dX1_copyFrom_64 : decode cX1_copyFrom 64 = .ok (.invokevirtual 53, 3) := by decide +kernel
theorem dX1_copyFrom_67 : decode cX1_copyFrom 67 = .ok (.aload_n 0, 1) := by decide +kernel
theorem dX1_copyFrom_68 : decode cX1_copyFrom 68 = .ok (.aload_n 1, 1) := by decide +kernel
theorem dX1_copyFrom_69 : decode cX1_copyFrom 69 = .ok (.getfield 46, 3) := by decide +kernel
theorem dX1_copyFrom_72 : decode cX1_copyFrom 72 = .ok (.putfield 46, 3) := by decide +kernel
theorem dX1_copyFrom_75 : decode cX1_copyFrom 75 = .ok (.aload_n 0, 1) := by decide +kernel
theorem dX1_copyFrom_76 : decode cX1_copyFrom 76 = .ok (.aload_n 1, 1) := by decide +kernel
theorem dX1_copyFrom_77 : decode cX1_copyFrom 77 = .ok (.getfield 50, 3) := by decide +kernel
theorem dX1_copyFrom_80 : decode cX1_copyFrom 80 = .ok (.putfield 50, 3) := by decide +kernel
theorem dX1_copyFrom_83 : decode cX1_copyFrom 83 = .ok (.aload_n 0, 1) := by decide +kernel
theorem dX1_copyFrom_84 : decode cX1_copyFrom 84 = .ok (.aload_n 1, 1) := by decide +kernel
theorem dX1_copyFrom_85 : decode cX1_copyFrom 85 = .ok (.getfield 57, 3) := by decide +kernel
theorem dX1_copyFrom_88 : decode cX1_copyFrom 88 = .ok (.putfield 57, 3) := by decide +kernel
theorem dX1_copyFrom_91 : decode cX1_copyFrom 91 = .ok (.aload_n 0, 1) := by decide +kernel
theorem dX1_copyFrom_92 : decode cX1_copyFrom 92 = .ok (.aload_n 1, 1) := by decide +kernel
theorem dX1_copyFrom_93 : decode cX1_copyFrom 93 = .ok (.getfield 60, 3) := by decide +kernel
theorem dX1_copyFrom_96 : decode cX1_copyFrom 96 = .ok (.putfield 60, 3) := by decide +kernel
theorem dX1_copyFrom_99 : decode cX1_copyFrom 99 = .ok (.return_, 1) := by decide +kernel
def f_X1_copyFrom (a0 : Nat) (a1 : Nat) (M : Mem) : Option Mem := (f_X5_copyFrom (a0 + 1) (a1 + 1) (sI (sI (sI (sI (sI (sI (sI M a0 1 (mI M a1 1)) a0 2 (mI (sI M a0 1 (mI M a1 1)) a1 2)) a0 3 (mI (sI (sI M a0 1 (mI M a1 1)) a0 2 (mI (sI M a0 1 (mI M a1 1)) a1 2)) a1 3)) a0 4 (mI (sI (sI (sI M a0 1 (mI M a1 1)) a0 2 (mI (sI M a0 1 (mI M a1 1)) a1 2)) a0 3 (mI (sI (sI M a0 1 (mI M a1 1)) a0 2 (mI (sI M a0 1 (mI M a1 1)) a1 2)) a1 3)) a1 4)) a0 5 (mI (sI (sI (sI (sI M a0 1 (mI M a1 1)) a0 2 (mI (sI M a0 1 (mI M a1 1)) a1 2)) a0 3 (mI (sI (sI M a0 1 (mI M a1 1)) a0 2 (mI (sI M a0 1 (mI M a1 1)) a1 2)) a1 3)) a0 4 (mI (sI (sI (sI M a0 1 (mI M a1 1)) a0 2 (mI (sI M a0 1 (mI M a1 1)) a1 2)) a0 3 (mI (sI (sI M a0 1 (mI M a1 1)) a0 2 (mI (sI M a0 1 (mI M a1 1)) a1 2)) a1 3)) a1 4)) a1 5)) a0 6 (mI (sI (sI (sI (sI (sI M a0 1 (mI M a1 1)) a0 2 (mI (sI M a0 1 (mI M a1 1)) a1 2)) a0 3 (mI (sI (sI M a0 1 (mI M a1 1)) a0 2 (mI (sI M a0 1 (mI M a1 1)) a1 2)) a1 3)) a0 4 (mI (sI (sI (sI M a0 1 (mI M a1 1)) a0 2 (mI (sI M a0 1 (mI M a1 1)) a1 2)) a0 3 (mI (sI (sI M a0 1 (mI M a1 1)) a0 2 (mI (sI M a0 1 (mI M a1 1)) a1 2)) a1 3)) a1 4)) a0 5 (mI (sI (sI (sI (sI M a0 1 (mI M a1 1)) a0 2 (mI (sI M a0 1 (mI M a1 1)) a1 2)) a0 3 (mI (sI (sI M a0 1 (mI M a1 1)) a0 2 (mI (sI M a0 1 (mI M a1 1)) a1 2)) a1 3)) a0 4 (mI (sI (sI (sI M a0 1 (mI M a1 1)) a0 2 (mI (sI M a0 1 (mI M a1 1)) a1 2)) a0 3 (mI (sI (sI M a0 1 (mI M a1 1)) a0 2 (mI (sI M a0 1 (mI M a1 1)) a1 2)) a1 3)) a1 4)) a1 5)) a1 6)) a0 7 (mI (sI (sI (sI (sI (sI (sI M a0 1 (mI M a1 1)) a0 2 (mI (sI M a0 1 (mI M a1 1)) a1 2)) a0 3 (mI (sI (sI M a0 1 (mI M a1 1)) a0 2 (mI (sI M a0 1 (mI M a1 1)) a1 2)) a1 3)) a0 4 (mI (sI (sI (sI M a0 1 (mI M a1 1)) a0 2 (mI (sI M a0 1 (mI M a1 1)) a1 2)) a0 3 (mI (sI (sI M a0 1 (mI M a1 1)) a0 2 (mI (sI M a0 1 (mI M a1 1)) a1 2)) a1 3)) a1 4)) a0 5 (mI (sI (sI (sI (sI M a0 1 (mI M a1 1)) a0 2 (mI (sI M a0 1 (mI M a1 1)) a1 2)) a0 3 (mI (sI (sI M a0 1 (mI M a1 1)) a0 2 (mI (sI M a0 1 (mI M a1 1)) a1 2)) a1 3)) a0 4 (mI (sI (sI (sI M a0 1 (mI M a1 1)) a0 2 (mI (sI M a0 1 (mI M a1 1)) a1 2)) a0 3 (mI (sI (sI M a0 1 (mI M a1 1)) a0 2 (mI (sI M a0 1 (mI M a1 1)) a1 2)) a1 3)) a1 4)) a1 5)) a0 6 (mI (sI (sI (sI (sI (sI M a0 1 (mI M a1 1)) a0 2 (mI (sI M a0 1 (mI M a1 1)) a1 2)) a0 3 (mI (sI (sI M a0 1 (mI M a1 1)) a0 2 (mI (sI M a0 1 (mI M a1 1)) a1 2)) a1 3)) a0 4 (mI (sI (sI (sI M a0 1 (mI M a1 1)) a0 2 (mI (sI M a0 1 (mI M a1 1)) a1 2)) a0 3 (mI (sI (sI M a0 1 (mI M a1 1)) a0 2 (mI (sI M a0 1 (mI M a1 1)) a1 2)) a1 3)) a1 4)) a0 5 (mI (sI (sI (sI (sI M a0 1 (mI M a1 1)) a0 2 (mI (sI M a0 1 (mI M a1 1)) a1 2)) a0 3 (mI (sI (sI M a0 1 (mI M a1 1)) a0 2 (mI (sI M a0 1 (mI M a1 1)) a1 2)) a1 3)) a0 4 (mI (sI (sI (sI M a0 1 (mI M a1 1)) a0 2 (mI (sI M a0 1 (mI M a1 1)) a1 2)) a0 3 (mI (sI (sI M a0 1 (mI M a1 1)) a0 2 (mI (sI M a0 1 (mI M a1 1)) a1 2)) a1 3)) a1 4)) a1 5)) a1 6)) a1 7))).bind fun q3 => gd ((mI q3 a1 8) = 0 ∨ (mI q3 a1 8) = 1) (gd ((mI (sI q3 a0 8 (mI q3 a1 8)) a1 9) = 0 ∨ (mI (sI q3 a0 8 (mI q3 a1 8)) a1 9) = 1) (some (sI (sI (sI (sI q3 a0 8 (mI q3 a1 8)) a0 9 (mI (sI q3 a0 8 (mI q3 a1 8)) a1 9)) a0 10 (mI (sI (sI q3 a0 8 (mI q3 a1 8)) a0 9 (mI (sI q3 a0 8 (mI q3 a1 8)) a1 9)) a1 10)) a0 11 (mI (sI (sI (sI q3 a0 8 (mI q3 a1 8)) a0 9 (mI (sI q3 a0 8 (mI q3 a1 8)) a1 9)) a0 10 (mI (sI (sI q3 a0 8 (mI q3 a1 8)) a0 9 (mI (sI q3 a0 8 (mI q3 a1 8)) a1 9)) a1 10)) a1 11))))
set_option maxRecDepth 100000 in
set_option maxHeartbeats 4000000 in
theorem c_X1_copyFrom (Z : Sys) {M : Mem} (hs : St M) (a0 : Nat) (a1 : Nat) (k_a0 : K0[a0]? = some (1, 12)) (k_a1 : K0[a1]? = some (1, 12)) {q : Mem} (hf : f_X1_copyFrom a0 a1 M = some q) : Ct Z yX1_copyFrom cX1_copyFrom 2 none rm_X1_copyFrom [.ref (zs Z + a0), .ref (zs Z + a1)] M False (PostV q) := by
  refine Ct.of (by decide +kernel) (Nat.le_of_ble_eq_true rfl) (fun X hR hq _ => ?_)
  show G Z X Y_X1_copyFrom False 0 0 0 [(0, .ref (zs Z + a0)), (1, .ref (zs Z + a1))] [] M
  replace hq : RetOk Z X none False (PostV q) 0 0 := hq
  unfold f_X1_copyFrom at hf
  refine G.aload_n 0 0 dX1_copyFrom_0 rfl rfl ?_
  refine G.aload_n 1 1 dX1_copyFrom_1 rfl rfl ?_
  refine G.geti 2 ck_1 1 (hs.k k_a1) (by decide) (by decide +kernel) wd_189 dX1_copyFrom_2 ?_
  refine G.puti 5 ck_1 1 (hs.k k_a0) (by decide) (by decide +kernel) rfl wd_189 rfl rfl dX1_copyFrom_5 ?_
  refine G.aload_n 8 0 dX1_copyFrom_8 rfl rfl ?_
  refine G.aload_n 9 1 dX1_copyFrom_9 rfl rfl ?_
  refine G.geti 10 ck_1 2 ((St.i hs).k k_a1) (by decide) (by decide +kernel) wd_193 dX1_copyFrom_10 ?_
  refine G.puti 13 ck_1 2 ((St.i hs).k k_a0) (by decide) (by decide +kernel) rfl wd_193 rfl rfl dX1_copyFrom_13 ?_
  refine G.aload_n 16 0 dX1_copyFrom_16 rfl rfl ?_
  refine G.aload_n 17 1 dX1_copyFrom_17 rfl rfl ?_
  refine G.geti 18 ck_1 3 ((St.i (St.i hs)).k k_a1) (by decide) (by decide +kernel) wd_197 dX1_copyFrom_18 ?_
  refine G.puti 21 ck_1 3 ((St.i (St.i hs)).k k_a0) (by decide) (by decide +kernel) rfl wd_197 rfl rfl dX1_copyFrom_21 ?_
  refine G.aload_n 24 0 dX1_copyFrom_24 rfl rfl ?_
  refine G.aload_n 25 1 dX1_copyFrom_25 rfl rfl ?_
  refine G.geti 26 ck_1 4 ((St.i (St.i (St.i hs))).k k_a1) (by decide) (by decide +kernel) wd_200 dX1_copyFrom_26 ?_
  refine G.puti 29 ck_1 4 ((St.i (St.i (St.i hs))).k k_a0) (by decide) (by decide +kernel) rfl wd_200 rfl rfl dX1_copyFrom_29 ?_
  refine G.aload_n 32 0 dX1_copyFrom_32 rfl rfl ?_
  refine G.aload_n 33 1 dX1_copyFrom_33 rfl rfl ?_
  refine G.geti 34 ck_1 5 ((St.i (St.i (St.i (St.i hs)))).k k_a1) (by decide) (by decide +kernel) wd_203 dX1_copyFrom_34 ?_
  refine G.puti 37 ck_1 5 ((St.i (St.i (St.i (St.i hs)))).k k_a0) (by decide) (by decide +kernel) rfl wd_203 rfl rfl dX1_copyFrom_37 ?_
  refine G.aload_n 40 0 dX1_copyFrom_40 rfl rfl ?_
  refine G.aload_n 41 1 dX1_copyFrom_41 rfl rfl ?_
  refine G.geti 42 ck_1 6 ((St.i (St.i (St.i (St.i (St.i hs))))).k k_a1) (by decide) (by decide +kernel) wd_207 dX1_copyFrom_42 ?_
  refine G.puti 45 ck_1 6 ((St.i (St.i (St.i (St.i (St.i hs))))).k k_a0) (by decide) (by decide +kernel) rfl wd_207 rfl rfl dX1_copyFrom_45 ?_
  refine G.aload_n 48 0 dX1_copyFrom_48 rfl rfl ?_
  refine G.aload_n 49 1 dX1_copyFrom_49 rfl rfl ?_
  refine G.geti 50 ck_1 7 ((St.i (St.i (St.i (St.i (St.i (St.i hs)))))).k k_a1) (by decide) (by decide +kernel) wd_210 dX1_copyFrom_50 ?_
  refine G.puti 53 ck_1 7 ((St.i (St.i (St.i (St.i (St.i (St.i hs)))))).k k_a0) (by decide) (by decide +kernel) rfl wd_210 rfl rfl dX1_copyFrom_53 ?_
  refine G.aload_n 56 0 dX1_copyFrom_56 rfl rfl ?_
  refine G.getp 57 ck_1 0 (a0 + 1) ((St.i (St.i (St.i (St.i (St.i (St.i (St.i hs))))))).k k_a0) (pt_1_0 (St.i (St.i (St.i (St.i (St.i (St.i (St.i hs))))))) k_a0).1 (by decide) (by decide +kernel) wd_186 dX1_copyFrom_57 ?_
  refine G.aload_n 60 1 dX1_copyFrom_60 rfl rfl ?_
  refine G.getp 61 ck_1 0 (a1 + 1) ((St.i (St.i (St.i (St.i (St.i (St.i (St.i hs))))))).k k_a1) (pt_1_0 (St.i (St.i (St.i (St.i (St.i (St.i (St.i hs))))))) k_a1).1 (by decide) (by decide +kernel) wd_186 dX1_copyFrom_61 ?_
  obtain ⟨q3, e4, hf⟩ := bd_e hf
  refine G.cvV 64 (As := [.ref (zs Z + (a1 + 1))]) ck_5 ((St.i (St.i (St.i (St.i (St.i (St.i (St.i hs))))))).k (pt_1_0 hs k_a0).2) (c_X5_copyFrom Z (St.i (St.i (St.i (St.i (St.i (St.i (St.i hs))))))) (a0 + 1) (a1 + 1) (pt_1_0 hs k_a0).2 (pt_1_0 hs k_a1).2 e4) mk_X5_copyFrom vk_X5_copyFrom rfl wd_839 hR (by decide +kernel) ⟨rfl, rfl⟩ rfl (Nat.le_of_ble_eq_true rfl) dX1_copyFrom_64 (fun hs1 => ?_)
  refine G.aload_n 67 0 dX1_copyFrom_67 rfl rfl ?_
  refine G.aload_n 68 1 dX1_copyFrom_68 rfl rfl ?_
  refine G.geti 69 ck_1 8 (hs1.k k_a1) (by decide) (by decide +kernel) wd_213 dX1_copyFrom_69 ?_
  obtain ⟨g5, hf⟩ := gd_e hf
  refine G.puti 72 ck_1 8 (hs1.k k_a0) (by decide) (by decide +kernel) rfl wd_213 (nz_ok g5) (fz_ok g5) dX1_copyFrom_72 ?_
  refine G.aload_n 75 0 dX1_copyFrom_75 rfl rfl ?_
  refine G.aload_n 76 1 dX1_copyFrom_76 rfl rfl ?_
  refine G.geti 77 ck_1 9 ((St.i hs1).k k_a1) (by decide) (by decide +kernel) wd_220 dX1_copyFrom_77 ?_
  obtain ⟨g6, hf⟩ := gd_e hf
  refine G.puti 80 ck_1 9 ((St.i hs1).k k_a0) (by decide) (by decide +kernel) rfl wd_220 (nz_ok g6) (fz_ok g6) dX1_copyFrom_80 ?_
  refine G.aload_n 83 0 dX1_copyFrom_83 rfl rfl ?_
  refine G.aload_n 84 1 dX1_copyFrom_84 rfl rfl ?_
  refine G.geti 85 ck_1 10 ((St.i (St.i hs1)).k k_a1) (by decide) (by decide +kernel) wd_224 dX1_copyFrom_85 ?_
  refine G.puti 88 ck_1 10 ((St.i (St.i hs1)).k k_a0) (by decide) (by decide +kernel) rfl wd_224 rfl rfl dX1_copyFrom_88 ?_
  refine G.aload_n 91 0 dX1_copyFrom_91 rfl rfl ?_
  refine G.aload_n 92 1 dX1_copyFrom_92 rfl rfl ?_
  refine G.geti 93 ck_1 11 ((St.i (St.i (St.i hs1))).k k_a1) (by decide) (by decide +kernel) wd_228 dX1_copyFrom_93 ?_
  refine G.puti 96 ck_1 11 ((St.i (St.i (St.i hs1))).k k_a0) (by decide) (by decide +kernel) rfl wd_228 rfl rfl dX1_copyFrom_96 ?_
  (have hf9 := Option.some.inj hf; subst hf9)
  exact G.rV 99 hq dX1_copyFrom_99 (St.i (St.i (St.i (St.i hs1))))
abbrev Y_X0_copyFrom : My := (cX0_copyFrom, RX0, 3)
def rm_X0_copyFrom : Room := { frames := 3, cells := 0, slots := 0, locals := 242 }
theorem dX0_copyFrom_0 : decode cX0_copyFrom 0 = .ok (.aload_n 0, 1) := by decide +kernel
theorem dX0_copyFrom_1 : decode cX0_copyFrom 1 = .ok (.aload_n 1, 1) := by decide +kernel
theorem dX0_copyFrom_2 : decode cX0_copyFrom 2 = .ok (.getfield 53, 3) := by decide +kernel
theorem dX0_copyFrom_5 : decode cX0_copyFrom 5 = .ok (.putfield 53, 3) := by decide +kernel
theorem dX0_copyFrom_8 : decode cX0_copyFrom 8 = .ok (.iconst 0, 1) := by decide +kernel
theorem dX0_copyFrom_9 : decode cX0_copyFrom 9 = .ok (.istore_n 2, 1) := by decide +kernel
theorem dX0_copyFrom_10 : decode cX0_copyFrom 10 = .ok (.iload_n 2, 1) := by decide +kernel
theorem dX0_copyFrom_11 : decode cX0_copyFrom 11 = .ok (.aload_n 0, 1) := by decide +kernel
theorem dX0_copyFrom_12 : decode cX0_copyFrom 12 = .ok (.getfield 53, 3) := by decide +kernel
theorem dX0_copyFrom_15 : decode cX0_copyFrom 15 = .ok (.if_icmp .ge 24, 3) := by decide +kernel
theorem dX0_copyFrom_18 : decode cX0_copyFrom 18 = .ok (.aload_n 0, 1) := by decide +kernel
theorem dX0_copyFrom_19 : decode cX0_copyFrom 19 = .ok (.getfield 13, 3) := by decide +kernel
theorem dX0_copyFrom_22 : decode cX0_copyFrom 22 = .ok (.iload_n 2, 1) := by decide +kernel
theorem dX0_copyFrom_23 : decode cX0_copyFrom 23 = .ok (.aaload, 1) := by decide +kernel
theorem dX0_copyFrom_24 : decode cX0_copyFrom 24 = .ok (.aload_n 1, 1) := by decide +kernel
theorem dX0_copyFrom_25 : decode cX0_copyFrom 25 = .ok (.getfield 13, 3) := by decide +kernel
theorem dX0_copyFrom_28 : decode cX0_copyFrom 28 = .ok (.iload_n 2, 1) := by decide +kernel
theorem dX0_copyFrom_29 : decode cX0_copyFrom 29 = .ok (.aaload, 1) := by decide +kernel
theorem dX0_copyFrom_30 : decode cX0_copyFrom 30 = .ok (.invokevirtual 57, 3) := by decide +kernel
theorem dX0_copyFrom_33 : decode cX0_copyFrom 33 = .ok (.iinc 2 1, 3) := by decide +kernel
theorem dX0_copyFrom_36 : decode cX0_copyFrom 36 = .ok (.goto (-26), 3) := by decide +kernel
theorem dX0_copyFrom_39 : decode cX0_copyFrom 39 = .ok (.aload_n 1, 1) := by decide +kernel
theorem dX0_copyFrom_40 : decode cX0_copyFrom 40 = .ok (.getfield 17, 3) := by decide +kernel
theorem dX0_copyFrom_43 : decode cX0_copyFrom 43 = .ok (.iconst 0, 1) := by decide +kernel
theorem dX0_copyFrom_44 : decode cX0_copyFrom 44 = .ok (.aload_n 0, 1) := by decide +kernel
theorem dX0_copyFrom_45 : decode cX0_copyFrom 45 = .ok (.getfield 17, 3) := by decide +kernel
theorem dX0_copyFrom_48 : decode cX0_copyFrom 48 = .ok (.iconst 0, 1) := by decide +kernel
theorem dX0_copyFrom_49 : decode cX0_copyFrom 49 = .ok (.bipush 10, 2) := by decide +kernel
theorem dX0_copyFrom_51 : decode cX0_copyFrom 51 = .ok (.invokestatic 61, 3) := by decide +kernel
theorem dX0_copyFrom_54 : decode cX0_copyFrom 54 = .ok (.iconst 0, 1) := by decide +kernel
theorem dX0_copyFrom_55 : decode cX0_copyFrom 55 = .ok (.istore_n 2, 1) := by decide +kernel
theorem dX0_copyFrom_56 : decode cX0_copyFrom 56 = .ok (.iload_n 2, 1) := by decide +kernel
theorem dX0_copyFrom_57 : decode cX0_copyFrom 57 = .ok (.iconst 4, 1) := by decide +kernel
theorem dX0_copyFrom_58 : decode cX0_copyFrom 58 = .ok (.if_icmp .ge 45, 3) := by decide +kernel
theorem dX0_copyFrom_61 : decode cX0_copyFrom 61 = .ok (.aload_n 0, 1) := by decide +kernel
theorem dX0_copyFrom_62 : decode cX0_copyFrom 62 = .ok (.getfield 21, 3) := by decide +kernel
theorem dX0_copyFrom_65 : decode cX0_copyFrom 65 = .ok (.iload_n 2, 1) := by decide +kernel
theorem dX0_copyFrom_66 : decode cX0_copyFrom 66 = .ok (.aload_n 1, 1) := by decide +kernel
theorem dX0_copyFrom_67 : decode cX0_copyFrom 67 = .ok (.getfield 21, 3) := by decide +kernel
theorem dX0_copyFrom_70 : decode cX0_copyFrom 70 = .ok (.iload_n 2, 1) := by decide +kernel
theorem dX0_copyFrom_71 : decode cX0_copyFrom 71 = .ok (.baload, 1) := by decide +kernel
theorem dX0_copyFrom_72 : decode cX0_copyFrom 72 = .ok (.bastore, 1) := by decide +kernel
theorem dX0_copyFrom_73 : decode cX0_copyFrom 73 = .ok (.aload_n 0, 1) := by decide +kernel
theorem dX0_copyFrom_74 : decode cX0_copyFrom 74 = .ok (.getfield 25, 3) := by decide +kernel
theorem dX0_copyFrom_77 : decode cX0_copyFrom 77 = .ok (.iload_n 2, 1) := by decide +kernel
theorem dX0_copyFrom_78 : decode cX0_copyFrom 78 = .ok (.aload_n 1, 1) := by decide +kernel
theorem dX0_copyFrom_79 : decode cX0_copyFrom 79 = .ok (.getfield 25, 3) := by decide +kernel
theorem dX0_copyFrom_82 : decode cX0_copyFrom 82 = .ok (.iload_n 2, 1) := by decide +kernel
theorem dX0_copyFrom_83 : decode cX0_copyFrom 83 = .ok (.iaload, 1) := by decide +kernel
theorem dX0_copyFrom_84 : decode cX0_copyFrom 84 = .ok (.iastore, 1) := by decide +kernel
theorem dX0_copyFrom_85 : decode cX0_copyFrom 85 = .ok (.aload_n 0, 1) := by decide +kernel
theorem dX0_copyFrom_86 : decode cX0_copyFrom 86 = .ok (.getfield 28, 3) := by decide +kernel
theorem dX0_copyFrom_89 : decode cX0_copyFrom 89 = .ok (.iload_n 2, 1) := by decide +kernel
theorem dX0_copyFrom_90 : decode cX0_copyFrom 90 = .ok (.aload_n 1, 1) := by decide +kernel
theorem dX0_copyFrom_91 : decode cX0_copyFrom 91 = .ok (.getfield 28, 3) := by decide +kernel
theorem dX0_copyFrom_94 : decode cX0_copyFrom 94 = .ok (.iload_n 2, 1) := by decide +kernel
theorem dX0_copyFrom_95 : decode cX0_copyFrom 95 = .ok (.iaload, 1) := by decide +kernel
theorem dX0_copyFrom_96 : decode cX0_copyFrom 96 = .ok (.iastore, 1) := by decide +kernel
theorem dX0_copyFrom_97 : decode cX0_copyFrom 97 = .ok (.iinc 2 1, 3) := by decide +kernel
theorem dX0_copyFrom_100 : decode cX0_copyFrom 100 = .ok (.goto (-44), 3) := by decide +kernel
theorem dX0_copyFrom_103 : decode cX0_copyFrom 103 = .ok (.aload_n 0, 1) := by decide +kernel
theorem dX0_copyFrom_104 : decode cX0_copyFrom 104 = .ok (.aload_n 1, 1) := by decide +kernel
theorem dX0_copyFrom_105 : decode cX0_copyFrom 105 = .ok (.getfield 67, 3) := by decide +kernel
theorem dX0_copyFrom_108 : decode cX0_copyFrom 108 = .ok (.putfield 67, 3) := by decide +kernel
theorem dX0_copyFrom_111 : decode cX0_copyFrom 111 = .ok (.iconst 0, 1) := by decide +kernel
theorem dX0_copyFrom_112 : decode cX0_copyFrom 112 = .ok (.istore_n 2, 1) := by decide +kernel
theorem dX0_copyFrom_113 : decode cX0_copyFrom 113 = .ok (.iload_n 2, 1) := by decide +kernel
theorem dX0_copyFrom_114 : decode cX0_copyFrom 114 = .ok (.aload_n 0, 1) := by decide +kernel
theorem dX0_copyFrom_115 : decode cX0_copyFrom 115 = .ok (.getfield 67, 3) := by decide +kernel
theorem dX0_copyFrom_118 : decode cX0_copyFrom 118 = .ok (.if_icmp .ge 40, 3) := by decide +kernel
theorem dX0_copyFrom_121 : decode cX0_copyFrom 121 = .ok (.aload_n 0, 1) := by decide +kernel
theorem dX0_copyFrom_122 : decode cX0_copyFrom 122 = .ok (.getfield 36, 3) := by decide +kernel
theorem dX0_copyFrom_125 : decode cX0_copyFrom 125 = .ok (.iload_n 2, 1) := by decide +kernel
theorem dX0_copyFrom_126 : decode cX0_copyFrom 126 = .ok (.aload_n 1, 1) := by decide +kernel
theorem dX0_copyFrom_127 : decode cX0_copyFrom 127 = .ok (.getfield 36, 3) := by decide +kernel
theorem dX0_copyFrom_130 : decode cX0_copyFrom 130 = .ok (.iload_n 2, 1) := by decide +kernel
theorem dX0_copyFrom_131 : decode cX0_copyFrom 131 = .ok (.iaload, 1) := by decide +kernel
theorem dX0_copyFrom_132 : decode cX0_copyFrom 132 = .ok (.iastore, 1) := by decide +kernel
theorem dX0_copyFrom_133 : decode cX0_copyFrom 133 = .ok (.aload_n 1, 1) := by decide +kernel
theorem dX0_copyFrom_134 : decode cX0_copyFrom 134 = .ok (.getfield 33, 3) := by decide +kernel
theorem dX0_copyFrom_137 : decode cX0_copyFrom 137 = .ok (.iload_n 2, 1) := by decide +kernel
theorem dX0_copyFrom_138 : decode cX0_copyFrom 138 = .ok (.aaload, 1) := by decide +kernel
theorem dX0_copyFrom_139 : decode cX0_copyFrom 139 = .ok (.iconst 0, 1) := by decide +kernel
theorem dX0_copyFrom_140 : decode cX0_copyFrom 140 = .ok (.aload_n 0, 1) := by decide +kernel
theorem dX0_copyFrom_141 : decode cX0_copyFrom 141 = .ok (.getfield 33, 3) := by decide +kernel
theorem dX0_copyFrom_144 : decode cX0_copyFrom 144 = .ok (.iload_n 2, 1) := by decide +kernel
theorem dX0_copyFrom_145 : decode cX0_copyFrom 145 = .ok (.aaload, 1) := by decide +kernel
theorem dX0_copyFrom_146 : decode cX0_copyFrom 146 = .ok (.iconst 0, 1) := by decide +kernel
theorem dX0_copyFrom_147 : decode cX0_copyFrom 147 = .ok (.bipush 80, 2) := by decide +kernel
theorem dX0_copyFrom_149 : decode cX0_copyFrom 149 = .ok (.invokestatic 61, 3) := by decide +kernel
theorem dX0_copyFrom_152 : decode cX0_copyFrom 152 = .ok (.iinc 2 1, 3) := by decide +kernel
theorem dX0_copyFrom_155 : decode cX0_copyFrom 155 = .ok (.goto (-42), 3) := by decide +kernel
theorem dX0_copyFrom_158 : decode cX0_copyFrom 158 = .ok (.return_, 1) := by decide +kernel
def L_X0_copyFrom_113 : Nat → Nat → Nat → Int32 → Mem → Option Mem
  | 0, _, _, _, _ => none
  | n + 1, a0, a1, x2, M => if (mI M a0 8) ≤ x2 then some M else gd (inR x2 10) (L_X0_copyFrom_113 n a0 a1 (x2 + 1) (cI (sI M (a0 + 17) x2.toNatClampNeg (mI M (a1 + 17) x2.toNatClampNeg)) ((a1 + 6) + 1 + 1 * x2.toNatClampNeg) (0 : Int32).toNatClampNeg ((a0 + 6) + 1 + 1 * x2.toNatClampNeg) (0 : Int32).toNatClampNeg (80 : Int32).toNatClampNeg))
def B_X0_copyFrom_103 (a0 : Nat) (a1 : Nat) (M : Mem) : Option Mem := L_X0_copyFrom_113 FU a0 a1 (0 : Int32) (sI M a0 8 (mI M a1 8))
def L_X0_copyFrom_56 : Nat → Nat → Nat → Int32 → Mem → Option Mem
  | 0, _, _, _, _ => none
  | n + 1, a0, a1, x2, M => if (4 : Int32) ≤ x2 then B_X0_copyFrom_103 a0 a1 M else gd (inR x2 4) (L_X0_copyFrom_56 n a0 a1 (x2 + 1) (sI (sI (sI M (a0 + 3) x2.toNatClampNeg (vp_nar .boolean (mI M (a1 + 3) x2.toNatClampNeg))) (a0 + 4) x2.toNatClampNeg (mI (sI M (a0 + 3) x2.toNatClampNeg (vp_nar .boolean (mI M (a1 + 3) x2.toNatClampNeg))) (a1 + 4) x2.toNatClampNeg)) (a0 + 5) x2.toNatClampNeg (mI (sI (sI M (a0 + 3) x2.toNatClampNeg (vp_nar .boolean (mI M (a1 + 3) x2.toNatClampNeg))) (a0 + 4) x2.toNatClampNeg (mI (sI M (a0 + 3) x2.toNatClampNeg (vp_nar .boolean (mI M (a1 + 3) x2.toNatClampNeg))) (a1 + 4) x2.toNatClampNeg)) (a1 + 5) x2.toNatClampNeg)))
def B_X0_copyFrom_39 (a0 : Nat) (a1 : Nat) (M : Mem) : Option Mem := L_X0_copyFrom_56 FU a0 a1 (0 : Int32) (cI M (a1 + 2) (0 : Int32).toNatClampNeg (a0 + 2) (0 : Int32).toNatClampNeg (10 : Int32).toNatClampNeg)
def L_X0_copyFrom_10 : Nat → Nat → Nat → Int32 → Mem → Option Mem
  | 0, _, _, _, _ => none
  | n + 1, a0, a1, x2, M => if (mI M a0 1) ≤ x2 then B_X0_copyFrom_39 a0 a1 M else gd (inR x2 30) ((f_X1_copyFrom ((a0 + 1) + 23 + 2 * x2.toNatClampNeg) ((a1 + 1) + 23 + 2 * x2.toNatClampNeg) M).bind fun q9 => L_X0_copyFrom_10 n a0 a1 (x2 + 1) q9)
def f_X0_copyFrom (a0 : Nat) (a1 : Nat) (M : Mem) : Option Mem := L_X0_copyFrom_10 FU a0 a1 (0 : Int32) (sI M a0 1 (mI M a1 1))
set_option maxRecDepth 100000 in
set_option maxHeartbeats 4000000 in
theorem l_X0_copyFrom_113 (Z : Sys) (X : Cx) (hR : xR X = rm_X0_copyFrom) {q : Mem} (hq : RetOk Z X none False (PostV q) 0 0) : ∀ (n : Nat) (a0 : Nat) (a1 : Nat) (x2 : Int32) (M : Mem) (hs : St M) (k_a0 : K0[a0]? = some (0, 12)) (k_a1 : K0[a1]? = some (0, 12)) (hf : L_X0_copyFrom_113 n a0 a1 x2 M = some q), G Z X Y_X0_copyFrom False 0 0 113 [(0, .ref (zs Z + a0)), (1, .ref (zs Z + a1)), (2, .int x2)] [] M := by
  intro n
  induction n with
  | zero => intro a0 a1 x2 M hs k_a0 k_a1 hf; cases hf
  | succ n ih =>
    intro a0 a1 x2 M hs k_a0 k_a1 hf
    unfold L_X0_copyFrom_113 at hf
    refine G.iload_n 113 2 dX0_copyFrom_113 rfl rfl ?_
    refine G.aload_n 114 0 dX0_copyFrom_114 rfl rfl ?_
    refine G.geti 115 ck_0 8 (hs.k k_a0) (by decide) (by decide +kernel) wd_275 dX0_copyFrom_115 ?_
    refine G.icmp_ge 118 158 dX0_copyFrom_118 (by decide) (fun h3 => ?_) (fun h3 => ?_)
    · replace hf := (if_pos h3).symm.trans hf
      (have hf9 := Option.some.inj hf; subst hf9)
      exact G.rV 158 hq dX0_copyFrom_158 hs
    · replace hf := (if_neg h3).symm.trans hf
      refine G.aload_n 121 0 dX0_copyFrom_121 rfl rfl ?_
      refine G.getp 122 ck_0 7 (a0 + 17) (hs.k k_a0) (pt_0_7 hs k_a0).1 (by decide) (by decide +kernel) wd_274 dX0_copyFrom_122 ?_
      refine G.iload_n 125 2 dX0_copyFrom_125 rfl rfl ?_
      refine G.aload_n 126 1 dX0_copyFrom_126 rfl rfl ?_
      refine G.getp 127 ck_0 7 (a1 + 17) (hs.k k_a1) (pt_0_7 hs k_a1).1 (by decide) (by decide +kernel) wd_274 dX0_copyFrom_127 ?_
      refine G.iload_n 130 2 dX0_copyFrom_130 rfl rfl ?_
      obtain ⟨g4, hf⟩ := gd_e hf
      refine G.ia 131 x2.toNatClampNeg (hs.k (pt_0_7 hs k_a1).2) g4 rfl dX0_copyFrom_131 ?_
      refine G.ist 132 x2.toNatClampNeg (hs.k (pt_0_7 hs k_a0).2) g4 rfl dX0_copyFrom_132 ?_
      refine G.aload_n 133 1 dX0_copyFrom_133 rfl rfl ?_
      refine G.getp 134 ck_0 6 (a1 + 6) ((St.i hs).k k_a1) (pt_0_6 (St.i hs) k_a1).1 (by decide) (by decide +kernel) wd_273 dX0_copyFrom_134 ?_
      refine G.iload_n 137 2 dX0_copyFrom_137 rfl rfl ?_
      refine G.aa 138 x2.toNatClampNeg ((a1 + 6) + 1 + 1 * x2.toNatClampNeg) ((St.i hs).k (pt_0_6 hs k_a1).2) (by decide) rfl rfl g4 rfl (pa_15 (St.i hs) (pt_0_6 hs k_a1).2 (inlt g4)).1 dX0_copyFrom_138 ?_
      refine G.iconst 139 (0 : Int32) dX0_copyFrom_139 (by decide +kernel) ?_
      refine G.aload_n 140 0 dX0_copyFrom_140 rfl rfl ?_
      refine G.getp 141 ck_0 6 (a0 + 6) ((St.i hs).k k_a0) (pt_0_6 (St.i hs) k_a0).1 (by decide) (by decide +kernel) wd_273 dX0_copyFrom_141 ?_
      refine G.iload_n 144 2 dX0_copyFrom_144 rfl rfl ?_
      refine G.aa 145 x2.toNatClampNeg ((a0 + 6) + 1 + 1 * x2.toNatClampNeg) ((St.i hs).k (pt_0_6 hs k_a0).2) (by decide) rfl rfl g4 rfl (pa_15 (St.i hs) (pt_0_6 hs k_a0).2 (inlt g4)).1 dX0_copyFrom_145 ?_
      refine G.iconst 146 (0 : Int32) dX0_copyFrom_146 (by decide +kernel) ?_
      refine G.bipush 147 (80 : Int32) dX0_copyFrom_147 (by decide +kernel) ?_
      refine G.copyi 149 ((St.i hs).k (pa_15 hs (pt_0_6 hs k_a1).2 (inlt g4)).2) ((St.i hs).k (pa_15 hs (pt_0_6 hs k_a0).2 (inlt g4)).2) wd_843 wd_845 wd_844 wd_90 (by decide +kernel) (by decide +kernel) (by decide +kernel) (by decide +kernel) (by decide +kernel) hR ⟨Nat.le_of_ble_eq_true rfl, Nat.le_of_ble_eq_true rfl⟩ dX0_copyFrom_149 ?_
      refine G.iinc 152 2 (x2 + 1) [(2, .int (x2 + 1)), (0, .ref (zs Z + a0)), (1, .ref (zs Z + a1))] dX0_copyFrom_152 rfl (congrArg (fun z => x2 + z) (by decide +kernel)) (Nat.le_of_ble_eq_true rfl) rfl ?_
      refine G.goto 155 113 dX0_copyFrom_155 (by decide) ?_
      refine G.locs [1, 2, 0] rfl ?_
      exact ih a0 a1 (x2 + 1) (cI (sI M (a0 + 17) x2.toNatClampNeg (mI M (a1 + 17) x2.toNatClampNeg)) ((a1 + 6) + 1 + 1 * x2.toNatClampNeg) (0 : Int32).toNatClampNeg ((a0 + 6) + 1 + 1 * x2.toNatClampNeg) (0 : Int32).toNatClampNeg (80 : Int32).toNatClampNeg) (St.c (St.i hs)) k_a0 k_a1 hf
set_option maxRecDepth 100000 in
set_option maxHeartbeats 4000000 in
theorem b_X0_copyFrom_103 (Z : Sys) (X : Cx) (hR : xR X = rm_X0_copyFrom) {q : Mem} (hq : RetOk Z X none False (PostV q) 0 0) (a0 : Nat) (a1 : Nat) {M : Mem} (hs : St M) (k_a0 : K0[a0]? = some (0, 12)) (k_a1 : K0[a1]? = some (0, 12)) (hf : B_X0_copyFrom_103 a0 a1 M = some q) : G Z X Y_X0_copyFrom False 0 0 103 [(0, .ref (zs Z + a0)), (1, .ref (zs Z + a1))] [] M := by
  unfold B_X0_copyFrom_103 at hf
  refine G.aload_n 103 0 dX0_copyFrom_103 rfl rfl ?_
  refine G.aload_n 104 1 dX0_copyFrom_104 rfl rfl ?_
  refine G.geti 105 ck_0 8 (hs.k k_a1) (by decide) (by decide +kernel) wd_275 dX0_copyFrom_105 ?_
  refine G.puti 108 ck_0 8 (hs.k k_a0) (by decide) (by decide +kernel) rfl wd_275 rfl rfl dX0_copyFrom_108 ?_
  refine G.iconst 111 (0 : Int32) dX0_copyFrom_111 (by decide +kernel) ?_
  refine G.istore_n 112 [(2, .int (0 : Int32)), (0, .ref (zs Z + a0)), (1, .ref (zs Z + a1))] dX0_copyFrom_112 rfl (Nat.le_of_ble_eq_true rfl) rfl ?_
  refine G.locs [1, 2, 0] rfl ?_
  exact l_X0_copyFrom_113 Z X hR hq FU a0 a1 (0 : Int32) (sI M a0 8 (mI M a1 8)) (St.i hs) k_a0 k_a1 hf
set_option maxRecDepth 100000 in
set_option maxHeartbeats 4000000 in
theorem l_X0_copyFrom_56 (Z : Sys) (X : Cx) (hR : xR X = rm_X0_copyFrom) {q : Mem} (hq : RetOk Z X none False (PostV q) 0 0) : ∀ (n : Nat) (a0 : Nat) (a1 : Nat) (x2 : Int32) (M : Mem) (hs : St M) (k_a0 : K0[a0]? = some (0, 12)) (k_a1 : K0[a1]? = some (0, 12)) (hf : L_X0_copyFrom_56 n a0 a1 x2 M = some q), G Z X Y_X0_copyFrom False 0 0 56 [(0, .ref (zs Z + a0)), (1, .ref (zs Z + a1)), (2, .int x2)] [] M := by
  intro n
  induction n with
  | zero => intro a0 a1 x2 M hs k_a0 k_a1 hf; cases hf
  | succ n ih =>
    intro a0 a1 x2 M hs k_a0 k_a1 hf
    unfold L_X0_copyFrom_56 at hf
    refine G.iload_n 56 2 dX0_copyFrom_56 rfl rfl ?_
    refine G.iconst 57 (4 : Int32) dX0_copyFrom_57 (by decide +kernel) ?_
    refine G.icmp_ge 58 103 dX0_copyFrom_58 (by decide) (fun h2 => ?_) (fun h2 => ?_)
    · replace hf := (if_pos h2).symm.trans hf
      refine G.locs [0, 1] rfl ?_
      exact b_X0_copyFrom_103 Z X hR hq a0 a1 hs k_a0 k_a1 hf
    · replace hf := (if_neg h2).symm.trans hf
      refine G.aload_n 61 0 dX0_copyFrom_61 rfl rfl ?_
      refine G.getp 62 ck_0 3 (a0 + 3) (hs.k k_a0) (pt_0_3 hs k_a0).1 (by decide) (by decide +kernel) wd_267 dX0_copyFrom_62 ?_
      refine G.iload_n 65 2 dX0_copyFrom_65 rfl rfl ?_
      refine G.aload_n 66 1 dX0_copyFrom_66 rfl rfl ?_
      refine G.getp 67 ck_0 3 (a1 + 3) (hs.k k_a1) (pt_0_3 hs k_a1).1 (by decide) (by decide +kernel) wd_267 dX0_copyFrom_67 ?_
      refine G.iload_n 70 2 dX0_copyFrom_70 rfl rfl ?_
      obtain ⟨g5, hf⟩ := gd_e hf
      refine G.za 71 x2.toNatClampNeg (hs.k (pt_0_3 hs k_a1).2) g5 rfl dX0_copyFrom_71 ?_
      refine G.zt 72 x2.toNatClampNeg (vp_nar .boolean (mI M (a1 + 3) x2.toNatClampNeg)) (hs.k (pt_0_3 hs k_a0).2) g5 rfl rfl dX0_copyFrom_72 ?_
      refine G.aload_n 73 0 dX0_copyFrom_73 rfl rfl ?_
      refine G.getp 74 ck_0 4 (a0 + 4) ((St.i hs).k k_a0) (pt_0_4 (St.i hs) k_a0).1 (by decide) (by decide +kernel) wd_269 dX0_copyFrom_74 ?_
      refine G.iload_n 77 2 dX0_copyFrom_77 rfl rfl ?_
      refine G.aload_n 78 1 dX0_copyFrom_78 rfl rfl ?_
      refine G.getp 79 ck_0 4 (a1 + 4) ((St.i hs).k k_a1) (pt_0_4 (St.i hs) k_a1).1 (by decide) (by decide +kernel) wd_269 dX0_copyFrom_79 ?_
      refine G.iload_n 82 2 dX0_copyFrom_82 rfl rfl ?_
      refine G.ia 83 x2.toNatClampNeg ((St.i hs).k (pt_0_4 hs k_a1).2) g5 rfl dX0_copyFrom_83 ?_
      refine G.ist 84 x2.toNatClampNeg ((St.i hs).k (pt_0_4 hs k_a0).2) g5 rfl dX0_copyFrom_84 ?_
      refine G.aload_n 85 0 dX0_copyFrom_85 rfl rfl ?_
      refine G.getp 86 ck_0 5 (a0 + 5) ((St.i (St.i hs)).k k_a0) (pt_0_5 (St.i (St.i hs)) k_a0).1 (by decide) (by decide +kernel) wd_271 dX0_copyFrom_86 ?_
      refine G.iload_n 89 2 dX0_copyFrom_89 rfl rfl ?_
      refine G.aload_n 90 1 dX0_copyFrom_90 rfl rfl ?_
      refine G.getp 91 ck_0 5 (a1 + 5) ((St.i (St.i hs)).k k_a1) (pt_0_5 (St.i (St.i hs)) k_a1).1 (by decide) (by decide +kernel) wd_271 dX0_copyFrom_91 ?_
      refine G.iload_n 94 2 dX0_copyFrom_94 rfl rfl ?_
      refine G.ia 95 x2.toNatClampNeg ((St.i (St.i hs)).k (pt_0_5 hs k_a1).2) g5 rfl dX0_copyFrom_95 ?_
      refine G.ist 96 x2.toNatClampNeg ((St.i (St.i hs)).k (pt_0_5 hs k_a0).2) g5 rfl dX0_copyFrom_96 ?_
      refine G.iinc 97 2 (x2 + 1) [(2, .int (x2 + 1)), (0, .ref (zs Z + a0)), (1, .ref (zs Z + a1))] dX0_copyFrom_97 rfl (congrArg (fun z => x2 + z) (by decide +kernel)) (Nat.le_of_ble_eq_true rfl) rfl ?_
      refine G.goto 100 56 dX0_copyFrom_100 (by decide) ?_
      refine G.locs [1, 2, 0] rfl ?_
      exact ih a0 a1 (x2 + 1) (sI (sI (sI M (a0 + 3) x2.toNatClampNeg (vp_nar .boolean (mI M (a1 + 3) x2.toNatClampNeg))) (a0 + 4) x2.toNatClampNeg (mI (sI M (a0 + 3) x2.toNatClampNeg (vp_nar .boolean (mI M (a1 + 3) x2.toNatClampNeg))) (a1 + 4) x2.toNatClampNeg)) (a0 + 5) x2.toNatClampNeg (mI (sI (sI M (a0 + 3) x2.toNatClampNeg (vp_nar .boolean (mI M (a1 + 3) x2.toNatClampNeg))) (a0 + 4) x2.toNatClampNeg (mI (sI M (a0 + 3) x2.toNatClampNeg (vp_nar .boolean (mI M (a1 + 3) x2.toNatClampNeg))) (a1 + 4) x2.toNatClampNeg)) (a1 + 5) x2.toNatClampNeg)) (St.i (St.i (St.i hs))) k_a0 k_a1 hf
set_option maxRecDepth 100000 in
set_option maxHeartbeats 4000000 in
theorem b_X0_copyFrom_39 (Z : Sys) (X : Cx) (hR : xR X = rm_X0_copyFrom) {q : Mem} (hq : RetOk Z X none False (PostV q) 0 0) (a0 : Nat) (a1 : Nat) {M : Mem} (hs : St M) (k_a0 : K0[a0]? = some (0, 12)) (k_a1 : K0[a1]? = some (0, 12)) (hf : B_X0_copyFrom_39 a0 a1 M = some q) : G Z X Y_X0_copyFrom False 0 0 39 [(0, .ref (zs Z + a0)), (1, .ref (zs Z + a1))] [] M := by
  unfold B_X0_copyFrom_39 at hf
  refine G.aload_n 39 1 dX0_copyFrom_39 rfl rfl ?_
  refine G.getp 40 ck_0 2 (a1 + 2) (hs.k k_a1) (pt_0_2 hs k_a1).1 (by decide) (by decide +kernel) wd_265 dX0_copyFrom_40 ?_
  refine G.iconst 43 (0 : Int32) dX0_copyFrom_43 (by decide +kernel) ?_
  refine G.aload_n 44 0 dX0_copyFrom_44 rfl rfl ?_
  refine G.getp 45 ck_0 2 (a0 + 2) (hs.k k_a0) (pt_0_2 hs k_a0).1 (by decide) (by decide +kernel) wd_265 dX0_copyFrom_45 ?_
  refine G.iconst 48 (0 : Int32) dX0_copyFrom_48 (by decide +kernel) ?_
  refine G.bipush 49 (10 : Int32) dX0_copyFrom_49 (by decide +kernel) ?_
  refine G.copyi 51 (hs.k (pt_0_2 hs k_a1).2) (hs.k (pt_0_2 hs k_a0).2) wd_843 wd_845 wd_844 wd_90 (by decide +kernel) (by decide +kernel) (by decide +kernel) (by decide +kernel) (by decide +kernel) hR ⟨Nat.le_of_ble_eq_true rfl, Nat.le_of_ble_eq_true rfl⟩ dX0_copyFrom_51 ?_
  refine G.iconst 54 (0 : Int32) dX0_copyFrom_54 (by decide +kernel) ?_
  refine G.istore_n 55 [(2, .int (0 : Int32)), (0, .ref (zs Z + a0)), (1, .ref (zs Z + a1))] dX0_copyFrom_55 rfl (Nat.le_of_ble_eq_true rfl) rfl ?_
  refine G.locs [1, 2, 0] rfl ?_
  exact l_X0_copyFrom_56 Z X hR hq FU a0 a1 (0 : Int32) (cI M (a1 + 2) (0 : Int32).toNatClampNeg (a0 + 2) (0 : Int32).toNatClampNeg (10 : Int32).toNatClampNeg) (St.c hs) k_a0 k_a1 hf
set_option maxRecDepth 100000 in
set_option maxHeartbeats 4000000 in
theorem l_X0_copyFrom_10 (Z : Sys) (X : Cx) (hR : xR X = rm_X0_copyFrom) {q : Mem} (hq : RetOk Z X none False (PostV q) 0 0) : ∀ (n : Nat) (a0 : Nat) (a1 : Nat) (x2 : Int32) (M : Mem) (hs : St M) (k_a0 : K0[a0]? = some (0, 12)) (k_a1 : K0[a1]? = some (0, 12)) (hf : L_X0_copyFrom_10 n a0 a1 x2 M = some q), G Z X Y_X0_copyFrom False 0 0 10 [(0, .ref (zs Z + a0)), (1, .ref (zs Z + a1)), (2, .int x2)] [] M := by
  intro n
  induction n with
  | zero => intro a0 a1 x2 M hs k_a0 k_a1 hf; cases hf
  | succ n ih =>
    intro a0 a1 x2 M hs k_a0 k_a1 hf
    unfold L_X0_copyFrom_10 at hf
    refine G.iload_n 10 2 dX0_copyFrom_10 rfl rfl ?_
    refine G.aload_n 11 0 dX0_copyFrom_11 rfl rfl ?_
    refine G.geti 12 ck_0 1 (hs.k k_a0) (by decide) (by decide +kernel) wd_261 dX0_copyFrom_12 ?_
    refine G.icmp_ge 15 39 dX0_copyFrom_15 (by decide) (fun h1 => ?_) (fun h1 => ?_)
    · replace hf := (if_pos h1).symm.trans hf
      refine G.locs [0, 1] rfl ?_
      exact b_X0_copyFrom_39 Z X hR hq a0 a1 hs k_a0 k_a1 hf
    · replace hf := (if_neg h1).symm.trans hf
      refine G.aload_n 18 0 dX0_copyFrom_18 rfl rfl ?_
      refine G.getp 19 ck_0 0 (a0 + 1) (hs.k k_a0) (pt_0_0 hs k_a0).1 (by decide) (by decide +kernel) wd_257 dX0_copyFrom_19 ?_
      refine G.iload_n 22 2 dX0_copyFrom_22 rfl rfl ?_
      obtain ⟨g6, hf⟩ := gd_e hf
      refine G.aa 23 x2.toNatClampNeg ((a0 + 1) + 23 + 2 * x2.toNatClampNeg) (hs.k (pt_0_0 hs k_a0).2) (by decide) rfl rfl g6 rfl (pa_13 hs (pt_0_0 hs k_a0).2 (inlt g6)).1 dX0_copyFrom_23 ?_
      refine G.aload_n 24 1 dX0_copyFrom_24 rfl rfl ?_
      refine G.getp 25 ck_0 0 (a1 + 1) (hs.k k_a1) (pt_0_0 hs k_a1).1 (by decide) (by decide +kernel) wd_257 dX0_copyFrom_25 ?_
      refine G.iload_n 28 2 dX0_copyFrom_28 rfl rfl ?_
      refine G.aa 29 x2.toNatClampNeg ((a1 + 1) + 23 + 2 * x2.toNatClampNeg) (hs.k (pt_0_0 hs k_a1).2) (by decide) rfl rfl g6 rfl (pa_13 hs (pt_0_0 hs k_a1).2 (inlt g6)).1 dX0_copyFrom_29 ?_
      obtain ⟨q9, e10, hf⟩ := bd_e hf
      refine G.cvV 30 (As := [.ref (zs Z + ((a1 + 1) + 23 + 2 * x2.toNatClampNeg))]) ck_1 (hs.k (pa_13 hs (pt_0_0 hs k_a0).2 (inlt g6)).2) (c_X1_copyFrom Z hs ((a0 + 1) + 23 + 2 * x2.toNatClampNeg) ((a1 + 1) + 23 + 2 * x2.toNatClampNeg) (pa_13 hs (pt_0_0 hs k_a0).2 (inlt g6)).2 (pa_13 hs (pt_0_0 hs k_a1).2 (inlt g6)).2 e10) mk_X1_copyFrom vk_X1_copyFrom rfl wd_835 hR (by decide +kernel) ⟨rfl, rfl⟩ rfl (Nat.le_of_ble_eq_true rfl) dX0_copyFrom_30 (fun hs7 => ?_)
      refine G.iinc 33 2 (x2 + 1) [(2, .int (x2 + 1)), (0, .ref (zs Z + a0)), (1, .ref (zs Z + a1))] dX0_copyFrom_33 rfl (congrArg (fun z => x2 + z) (by decide +kernel)) (Nat.le_of_ble_eq_true rfl) rfl ?_
      refine G.goto 36 10 dX0_copyFrom_36 (by decide) ?_
      refine G.locs [1, 2, 0] rfl ?_
      exact ih a0 a1 (x2 + 1) q9 hs7 k_a0 k_a1 hf
set_option maxRecDepth 100000 in
set_option maxHeartbeats 4000000 in
theorem c_X0_copyFrom (Z : Sys) {M : Mem} (hs : St M) (a0 : Nat) (a1 : Nat) (k_a0 : K0[a0]? = some (0, 12)) (k_a1 : K0[a1]? = some (0, 12)) {q : Mem} (hf : f_X0_copyFrom a0 a1 M = some q) : Ct Z yX0_copyFrom cX0_copyFrom 3 none rm_X0_copyFrom [.ref (zs Z + a0), .ref (zs Z + a1)] M False (PostV q) := by
  refine Ct.of (by decide +kernel) (Nat.le_of_ble_eq_true rfl) (fun X hR hq _ => ?_)
  show G Z X Y_X0_copyFrom False 0 0 0 [(0, .ref (zs Z + a0)), (1, .ref (zs Z + a1))] [] M
  replace hq : RetOk Z X none False (PostV q) 0 0 := hq
  unfold f_X0_copyFrom at hf
  refine G.aload_n 0 0 dX0_copyFrom_0 rfl rfl ?_
  refine G.aload_n 1 1 dX0_copyFrom_1 rfl rfl ?_
  refine G.geti 2 ck_0 1 (hs.k k_a1) (by decide) (by decide +kernel) wd_261 dX0_copyFrom_2 ?_
  refine G.puti 5 ck_0 1 (hs.k k_a0) (by decide) (by decide +kernel) rfl wd_261 rfl rfl dX0_copyFrom_5 ?_
  refine G.iconst 8 (0 : Int32) dX0_copyFrom_8 (by decide +kernel) ?_
  refine G.istore_n 9 [(2, .int (0 : Int32)), (0, .ref (zs Z + a0)), (1, .ref (zs Z + a1))] dX0_copyFrom_9 rfl (Nat.le_of_ble_eq_true rfl) rfl ?_
  refine G.locs [1, 2, 0] rfl ?_
  exact l_X0_copyFrom_10 Z X hR hq FU a0 a1 (0 : Int32) (sI M a0 1 (mI M a1 1)) (St.i hs) k_a0 k_a1 hf
