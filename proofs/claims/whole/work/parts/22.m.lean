abbrev Y_X1_firstFigure : My := (cX1_firstFigure, RX1, 3)
def rm_X1_firstFigure : Room := { frames := 1, cells := 0, slots := 0, locals := 200 }
theorem dX1_firstFigure_0 : decode cX1_firstFigure 0 = .ok (.aload_n 0, 1) := by decide +kernel
theorem dX1_firstFigure_1 : decode cX1_firstFigure 1 = .ok (.getfield 50, 3) := by decide +kernel
theorem dX1_firstFigure_4 : decode cX1_firstFigure 4 = .ok (.ifCond .ne 11, 3) := by decide +kernel
theorem dX1_firstFigure_7 : decode cX1_firstFigure 7 = .ok (.aload_n 0, 1) := by decide +kernel
theorem dX1_firstFigure_8 : decode cX1_firstFigure 8 = .ok (.getfield 60, 3) := by decide +kernel
theorem dX1_firstFigure_11 : decode cX1_firstFigure 11 = .ok (.iconst 1, 1) := by decide +kernel
theorem dX1_firstFigure_12 : decode cX1_firstFigure 12 = .ok (.if_icmp .ge 6, 3) := by decide +kernel
theorem dX1_firstFigure_15 : decode cX1_firstFigure 15 = .ok (.bipush (-4), 2) := by decide +kernel
theorem dX1_firstFigure_17 : decode cX1_firstFigure 17 = .ok (.ireturn, 1) := by decide +kernel
theorem dX1_firstFigure_18 : decode cX1_firstFigure 18 = .ok (.aload_n 0, 1) := by decide +kernel
theorem dX1_firstFigure_19 : decode cX1_firstFigure 19 = .ok (.getfield 60, 3) := by decide +kernel
theorem dX1_firstFigure_22 : decode cX1_firstFigure 22 = .ok (.istore_n 1, 1) := by decide +kernel
theorem dX1_firstFigure_23 : decode cX1_firstFigure 23 = .ok (.iconst 0, 1) := by decide +kernel
theorem dX1_firstFigure_24 : decode cX1_firstFigure 24 = .ok (.istore_n 2, 1) := by decide +kernel
theorem dX1_firstFigure_25 : decode cX1_firstFigure 25 = .ok (.iload_n 2, 1) := by decide +kernel
theorem dX1_firstFigure_26 : decode cX1_firstFigure 26 = .ok (.iconst 4, 1) := by decide +kernel
theorem dX1_firstFigure_27 : decode cX1_firstFigure 27 = .ok (.if_icmp .ge 20, 3) := by decide +kernel
theorem dX1_firstFigure_30 : decode cX1_firstFigure 30 = .ok (.iload_n 1, 1) := by decide +kernel
theorem dX1_firstFigure_31 : decode cX1_firstFigure 31 = .ok (.bipush 10, 2) := by decide +kernel
theorem dX1_firstFigure_33 : decode cX1_firstFigure 33 = .ok (.if_icmp .lt 14, 3) := by decide +kernel
theorem dX1_firstFigure_36 : decode cX1_firstFigure 36 = .ok (.iload_n 1, 1) := by decide +kernel
theorem dX1_firstFigure_37 : decode cX1_firstFigure 37 = .ok (.bipush 10, 2) := by decide +kernel
theorem dX1_firstFigure_39 : decode cX1_firstFigure 39 = .ok (.idiv, 1) := by decide +kernel
theorem dX1_firstFigure_40 : decode cX1_firstFigure 40 = .ok (.istore_n 1, 1) := by decide +kernel
theorem dX1_firstFigure_41 : decode cX1_firstFigure 41 = .ok (.iinc 2 1, 3) := by decide +kernel
theorem dX1_firstFigure_44 : decode cX1_firstFigure 44 = .ok (.goto (-19), 3) := by decide +kernel
theorem dX1_firstFigure_47 : decode cX1_firstFigure 47 = .ok (.iload_n 1, 1) := by decide +kernel
theorem dX1_firstFigure_48 : decode cX1_firstFigure 48 = .ok (.ireturn, 1) := by decide +kernel
def L_X1_firstFigure_25 : Nat → Int32 → Int32 → Mem → Option Int32
  | 0, _, _, _ => none
  | n + 1, x1, x2, M => if (4 : Int32) ≤ x2 then some x1 else if x1 < (10 : Int32) then some x1 else L_X1_firstFigure_25 n (x1 / (10 : Int32)) (x2 + 1) M
def f_X1_firstFigure (a0 : Nat) (M : Mem) : Option Int32 := if (mI M a0 9) = 0 then if (1 : Int32) ≤ (mI M a0 11) then L_X1_firstFigure_25 FU (mI M a0 11) (0 : Int32) M else some (-4 : Int32) else some (-4 : Int32)
set_option maxRecDepth 100000 in
set_option maxHeartbeats 4000000 in
theorem l_X1_firstFigure_25 (Z : Sys) (X : Cx) (hR : xR X = rm_X1_firstFigure) {q : Int32} {M : Mem} (hq : RetOk Z X (some .int) False (PostI q M) 0 0) : ∀ (n : Nat) (x1 : Int32) (x2 : Int32) (hs : St M) (hf : L_X1_firstFigure_25 n x1 x2 M = some q), G Z X Y_X1_firstFigure False 0 0 25 [(1, .int x1), (2, .int x2)] [] M := by
  intro n
  induction n with
  | zero => intro x1 x2 hs  hf; cases hf
  | succ n ih =>
    intro x1 x2 hs  hf
    unfold L_X1_firstFigure_25 at hf
    refine G.iload_n 25 1 dX1_firstFigure_25 rfl rfl ?_
    refine G.iconst 26 (4 : Int32) dX1_firstFigure_26 (by decide +kernel) ?_
    refine G.icmp_ge 27 47 dX1_firstFigure_27 (by decide) (fun h3 => ?_) (fun h3 => ?_)
    · replace hf := (if_pos h3).symm.trans hf
      refine G.iload_n 47 0 dX1_firstFigure_47 rfl rfl ?_
      (have hf9 := Option.some.inj hf; subst hf9)
      exact G.rI 48 hq dX1_firstFigure_48 hs
    · replace hf := (if_neg h3).symm.trans hf
      refine G.iload_n 30 0 dX1_firstFigure_30 rfl rfl ?_
      refine G.bipush 31 (10 : Int32) dX1_firstFigure_31 (by decide +kernel) ?_
      refine G.icmp_lt 33 47 dX1_firstFigure_33 (by decide) (fun h4 => ?_) (fun h4 => ?_)
      · replace hf := (if_pos h4).symm.trans hf
        refine G.iload_n 47 0 dX1_firstFigure_47 rfl rfl ?_
        (have hf9 := Option.some.inj hf; subst hf9)
        exact G.rI 48 hq dX1_firstFigure_48 hs
      · replace hf := (if_neg h4).symm.trans hf
        refine G.iload_n 36 0 dX1_firstFigure_36 rfl rfl ?_
        refine G.bipush 37 (10 : Int32) dX1_firstFigure_37 (by decide +kernel) ?_
        refine G.idiv 39 dX1_firstFigure_39 (by decide +kernel) ?_
        refine G.istore_n 40 [(1, .int (x1 / (10 : Int32))), (2, .int x2)] dX1_firstFigure_40 rfl (Nat.le_of_ble_eq_true rfl) rfl ?_
        refine G.iinc 41 1 (x2 + 1) [(2, .int (x2 + 1)), (1, .int (x1 / (10 : Int32)))] dX1_firstFigure_41 rfl (congrArg (fun z => x2 + z) (by decide +kernel)) (Nat.le_of_ble_eq_true rfl) rfl ?_
        refine G.goto 44 25 dX1_firstFigure_44 (by decide) ?_
        refine G.locs [1, 0] rfl ?_
        exact ih (x1 / (10 : Int32)) (x2 + 1) hs hf
set_option maxRecDepth 100000 in
set_option maxHeartbeats 4000000 in
theorem c_X1_firstFigure (Z : Sys) {M : Mem} (hs : St M) (a0 : Nat) (k_a0 : K0[a0]? = some (1, 12)) {q : Int32} (hf : f_X1_firstFigure a0 M = some q) : Ct Z yX1_firstFigure cX1_firstFigure 3 (some .int) rm_X1_firstFigure [.ref (zs Z + a0)] M False (PostI q M) := by
  refine Ct.of (by decide +kernel) (Nat.le_of_ble_eq_true rfl) (fun X hR hq _ => ?_)
  show G Z X Y_X1_firstFigure False 0 0 0 [(0, .ref (zs Z + a0))] [] M
  replace hq : RetOk Z X (some .int) False (PostI q M) 0 0 := hq
  unfold f_X1_firstFigure at hf
  refine G.aload_n 0 0 dX1_firstFigure_0 rfl rfl ?_
  refine G.geti 1 ck_1 9 (hs.k k_a0) (by decide) (by decide +kernel) wd_220 dX1_firstFigure_1 ?_
  refine G.if_ne 4 15 dX1_firstFigure_4 (by decide) (fun h1 => ?_) (fun h1 => ?_)
  · replace hf := (if_neg h1).symm.trans hf
    refine G.bipush 15 (-4 : Int32) dX1_firstFigure_15 (by decide +kernel) ?_
    (have hf9 := Option.some.inj hf; subst hf9)
    exact G.rI 17 hq dX1_firstFigure_17 hs
  · replace hf := (if_pos h1).symm.trans hf
    refine G.aload_n 7 0 dX1_firstFigure_7 rfl rfl ?_
    refine G.geti 8 ck_1 11 (hs.k k_a0) (by decide) (by decide +kernel) wd_228 dX1_firstFigure_8 ?_
    refine G.iconst 11 (1 : Int32) dX1_firstFigure_11 (by decide +kernel) ?_
    refine G.icmp_ge 12 18 dX1_firstFigure_12 (by decide) (fun h2 => ?_) (fun h2 => ?_)
    · replace hf := (if_pos h2).symm.trans hf
      refine G.aload_n 18 0 dX1_firstFigure_18 rfl rfl ?_
      refine G.geti 19 ck_1 11 (hs.k k_a0) (by decide) (by decide +kernel) wd_228 dX1_firstFigure_19 ?_
      refine G.istore_n 22 [(1, .int (mI M a0 11)), (0, .ref (zs Z + a0))] dX1_firstFigure_22 rfl (Nat.le_of_ble_eq_true rfl) rfl ?_
      refine G.iconst 23 (0 : Int32) dX1_firstFigure_23 (by decide +kernel) ?_
      refine G.istore_n 24 [(2, .int (0 : Int32)), (1, .int (mI M a0 11)), (0, .ref (zs Z + a0))] dX1_firstFigure_24 rfl (Nat.le_of_ble_eq_true rfl) rfl ?_
      refine G.locs [1, 0] rfl ?_
      exact l_X1_firstFigure_25 Z X hR hq FU (mI M a0 11) (0 : Int32) hs hf
    · replace hf := (if_neg h2).symm.trans hf
      refine G.bipush 15 (-4 : Int32) dX1_firstFigure_15 (by decide +kernel) ?_
      (have hf9 := Option.some.inj hf; subst hf9)
      exact G.rI 17 hq dX1_firstFigure_17 hs
abbrev Y_X1_lastFigure : My := (cX1_lastFigure, RX1, 1)
def rm_X1_lastFigure : Room := { frames := 1, cells := 0, slots := 0, locals := 200 }
theorem dX1_lastFigure_0 : decode cX1_lastFigure 0 = .ok (.aload_n 0, 1) := by decide +kernel
theorem dX1_lastFigure_1 : decode cX1_lastFigure 1 = .ok (.getfield 50, 3) := by decide +kernel
theorem dX1_lastFigure_4 : decode cX1_lastFigure 4 = .ok (.ifCond .ne 12, 3) := by decide +kernel
theorem dX1_lastFigure_7 : decode cX1_lastFigure 7 = .ok (.aload_n 0, 1) := by decide +kernel
theorem dX1_lastFigure_8 : decode cX1_lastFigure 8 = .ok (.getfield 60, 3) := by decide +kernel
theorem dX1_lastFigure_11 : decode cX1_lastFigure 11 = .ok (.bipush 100, 2) := by decide +kernel
theorem dX1_lastFigure_13 : decode cX1_lastFigure 13 = .ok (.if_icmp .ge 8, 3) := by decide +kernel
theorem dX1_lastFigure_16 : decode cX1_lastFigure 16 = .ok (.bipush (-4), 2) := by decide +kernel
theorem dX1_lastFigure_18 : decode cX1_lastFigure 18 = .ok (.goto 10, 3) := by decide +kernel
theorem dX1_lastFigure_21 : decode cX1_lastFigure 21 = .ok (.aload_n 0, 1) := by decide +kernel
theorem dX1_lastFigure_22 : decode cX1_lastFigure 22 = .ok (.getfield 60, 3) := by decide +kernel
theorem dX1_lastFigure_25 : decode cX1_lastFigure 25 = .ok (.bipush 10, 2) := by decide +kernel
theorem dX1_lastFigure_27 : decode cX1_lastFigure 27 = .ok (.irem, 1) := by decide +kernel
theorem dX1_lastFigure_28 : decode cX1_lastFigure 28 = .ok (.ireturn, 1) := by decide +kernel
def B_X1_lastFigure_16 (M : Mem) : Int32 := (-4 : Int32)
def f_X1_lastFigure (a0 : Nat) (M : Mem) : Int32 := if (mI M a0 9) = 0 then if (100 : Int32) ≤ (mI M a0 11) then (jrem (mI M a0 11) (10 : Int32)) else B_X1_lastFigure_16 M else B_X1_lastFigure_16 M
set_option maxRecDepth 100000 in
set_option maxHeartbeats 4000000 in
theorem b_X1_lastFigure_16 (Z : Sys) (X : Cx) (hR : xR X = rm_X1_lastFigure) {q : Int32} {M : Mem} (hq : RetOk Z X (some .int) False (PostI q M) 0 0) (hs : St M) (hf : B_X1_lastFigure_16 M = q) : G Z X Y_X1_lastFigure False 0 0 16 [] [] M := by
  unfold B_X1_lastFigure_16 at hf
  refine G.bipush 16 (-4 : Int32) dX1_lastFigure_16 (by decide +kernel) ?_
  refine G.goto 18 28 dX1_lastFigure_18 (by decide) ?_
  subst hf
  exact G.rI 28 hq dX1_lastFigure_28 hs
set_option maxRecDepth 100000 in
set_option maxHeartbeats 4000000 in
theorem c_X1_lastFigure (Z : Sys) {M : Mem} (hs : St M) (a0 : Nat) (k_a0 : K0[a0]? = some (1, 12)) {q : Int32} (hf : f_X1_lastFigure a0 M = q) : Ct Z yX1_lastFigure cX1_lastFigure 1 (some .int) rm_X1_lastFigure [.ref (zs Z + a0)] M False (PostI q M) := by
  refine Ct.of (by decide +kernel) (Nat.le_of_ble_eq_true rfl) (fun X hR hq _ => ?_)
  show G Z X Y_X1_lastFigure False 0 0 0 [(0, .ref (zs Z + a0))] [] M
  replace hq : RetOk Z X (some .int) False (PostI q M) 0 0 := hq
  unfold f_X1_lastFigure at hf
  refine G.aload_n 0 0 dX1_lastFigure_0 rfl rfl ?_
  refine G.geti 1 ck_1 9 (hs.k k_a0) (by decide) (by decide +kernel) wd_220 dX1_lastFigure_1 ?_
  refine G.if_ne 4 16 dX1_lastFigure_4 (by decide) (fun h1 => ?_) (fun h1 => ?_)
  · replace hf := (if_neg h1).symm.trans hf
    refine G.locs [] rfl ?_
    exact b_X1_lastFigure_16 Z X hR hq hs hf
  · replace hf := (if_pos h1).symm.trans hf
    refine G.aload_n 7 0 dX1_lastFigure_7 rfl rfl ?_
    refine G.geti 8 ck_1 11 (hs.k k_a0) (by decide) (by decide +kernel) wd_228 dX1_lastFigure_8 ?_
    refine G.bipush 11 (100 : Int32) dX1_lastFigure_11 (by decide +kernel) ?_
    refine G.icmp_ge 13 21 dX1_lastFigure_13 (by decide) (fun h2 => ?_) (fun h2 => ?_)
    · replace hf := (if_pos h2).symm.trans hf
      refine G.aload_n 21 0 dX1_lastFigure_21 rfl rfl ?_
      refine G.geti 22 ck_1 11 (hs.k k_a0) (by decide) (by decide +kernel) wd_228 dX1_lastFigure_22 ?_
      refine G.bipush 25 (10 : Int32) dX1_lastFigure_25 (by decide +kernel) ?_
      refine G.iremJ 27 dX1_lastFigure_27 (by decide +kernel) ?_
      subst hf
      exact G.rI 28 hq dX1_lastFigure_28 hs
    · replace hf := (if_neg h2).symm.trans hf
      refine G.locs [] rfl ?_
      exact b_X1_lastFigure_16 Z X hR hq hs hf
abbrev Y_X8_within : My := (cX8_within, RX8, 3)
def rm_X8_within : Room := { frames := 1, cells := 0, slots := 0, locals := 200 }
theorem dX8_within_0 : decode cX8_within 0 = .ok (.iload_n 0, 1) := by decide +kernel
theorem dX8_within_1 : decode cX8_within 1 = .ok (.iload_n 1, 1) := by decide +kernel
theorem dX8_within_2 : decode cX8_within 2 = .ok (.if_icmp .lt 12, 3) := by decide +kernel
theorem dX8_within_5 : decode cX8_within 5 = .ok (.iload_n 0, 1) := by decide +kernel
theorem dX8_within_6 : decode cX8_within 6 = .ok (.iload_n 2, 1) := by decide +kernel
theorem dX8_within_7 : decode cX8_within 7 = .ok (.if_icmp .gt 7, 3) := by decide +kernel
theorem dX8_within_10 : decode cX8_within 10 = .ok (.iconst 1, 1) := by decide +kernel
theorem dX8_within_11 : decode cX8_within 11 = .ok (.goto 4, 3) := by decide +kernel
theorem dX8_within_14 : decode cX8_within 14 = .ok (.iconst 0, 1) := by decide +kernel
theorem dX8_within_15 : decode cX8_within 15 = .ok (.ireturn, 1) := by decide +kernel
def f_X8_within (x0 : Int32) (x1 : Int32) (x2 : Int32) : Int32 := if x0 < x1 then (0 : Int32) else if x2 < x0 then (0 : Int32) else (1 : Int32)
set_option maxRecDepth 100000 in
set_option maxHeartbeats 4000000 in
theorem c_X8_within (Z : Sys) {M : Mem} (hs : St M) (x0 : Int32) (x1 : Int32) (x2 : Int32) {q : Int32} (hf : f_X8_within x0 x1 x2 = q) : Ct Z yX8_within cX8_within 3 (some .boolean) rm_X8_within [.int x0, .int x1, .int x2] M False (PostZ q M) := by
  refine Ct.of (by decide +kernel) (Nat.le_of_ble_eq_true rfl) (fun X hR hq _ => ?_)
  show G Z X Y_X8_within False 0 0 0 [(0, .int x0), (1, .int x1), (2, .int x2)] [] M
  replace hq : RetOk Z X (some .boolean) False (PostZ q M) 0 0 := hq
  unfold f_X8_within at hf
  refine G.iload_n 0 0 dX8_within_0 rfl rfl ?_
  refine G.iload_n 1 1 dX8_within_1 rfl rfl ?_
  refine G.icmp_lt 2 14 dX8_within_2 (by decide) (fun h1 => ?_) (fun h1 => ?_)
  · replace hf := (if_pos h1).symm.trans hf
    refine G.iconst 14 (0 : Int32) dX8_within_14 (by decide +kernel) ?_
    subst hf
    exact G.rZ 15 hq dX8_within_15 hs (Or.inl rfl)
  · replace hf := (if_neg h1).symm.trans hf
    refine G.iload_n 5 0 dX8_within_5 rfl rfl ?_
    refine G.iload_n 6 2 dX8_within_6 rfl rfl ?_
    refine G.icmp_gt 7 14 dX8_within_7 (by decide) (fun h2 => ?_) (fun h2 => ?_)
    · replace hf := (if_pos h2).symm.trans hf
      refine G.iconst 14 (0 : Int32) dX8_within_14 (by decide +kernel) ?_
      subst hf
      exact G.rZ 15 hq dX8_within_15 hs (Or.inl rfl)
    · replace hf := (if_neg h2).symm.trans hf
      refine G.iconst 10 (1 : Int32) dX8_within_10 (by decide +kernel) ?_
      refine G.goto 11 15 dX8_within_11 (by decide) ?_
      subst hf
      exact G.rZ 15 hq dX8_within_15 hs (Or.inr rfl)
abbrev Y_X0_countFigures : My := (cX0_countFigures, RX0, 5)
def rm_X0_countFigures : Room := { frames := 2, cells := 0, slots := 0, locals := 223 }
theorem dX0_countFigures_0 : decode cX0_countFigures 0 = .ok (.aload_n 0, 1) := by decide +kernel
theorem dX0_countFigures_1 : decode cX0_countFigures 1 = .ok (.getfield 46, 3) := by decide +kernel
theorem dX0_countFigures_4 : decode cX0_countFigures 4 = .ok (.iconst 0, 1) := by decide +kernel
theorem dX0_countFigures_5 : decode cX0_countFigures 5 = .ok (.invokestatic 96, 3) := by decide +kernel
theorem dX0_countFigures_8 : decode cX0_countFigures 8 = .ok (.iconst 0, 1) := by decide +kernel
theorem dX0_countFigures_9 : decode cX0_countFigures 9 = .ok (.istore_n 2, 1) := by decide +kernel
theorem dX0_countFigures_10 : decode cX0_countFigures 10 = .ok (.iconst 0, 1) := by decide +kernel
theorem dX0_countFigures_11 : decode cX0_countFigures 11 = .ok (.istore_n 3, 1) := by decide +kernel
theorem dX0_countFigures_12 : decode cX0_countFigures 12 = .ok (.iload_n 3, 1) := by decide +kernel
theorem dX0_countFigures_13 : decode cX0_countFigures 13 = .ok (.aload_n 0, 1) := by decide +kernel
theorem dX0_countFigures_14 : decode cX0_countFigures 14 = .ok (.getfield 53, 3) := by decide +kernel
theorem dX0_countFigures_17 : decode cX0_countFigures 17 = .ok (.if_icmp .ge 61, 3) := by decide +kernel
theorem dX0_countFigures_20 : decode cX0_countFigures 20 = .ok (.iload_n 1, 1) := by decide +kernel
theorem dX0_countFigures_21 : decode cX0_countFigures 21 = .ok (.ifCond .eq 15, 3) := by decide +kernel
theorem dX0_countFigures_24 : decode cX0_countFigures 24 = .ok (.aload_n 0, 1) := by decide +kernel
theorem dX0_countFigures_25 : decode cX0_countFigures 25 = .ok (.getfield 13, 3) := by decide +kernel
theorem dX0_countFigures_28 : decode cX0_countFigures 28 = .ok (.iload_n 3, 1) := by decide +kernel
theorem dX0_countFigures_29 : decode cX0_countFigures 29 = .ok (.aaload, 1) := by decide +kernel
theorem dX0_countFigures_30 : decode cX0_countFigures 30 = .ok (.invokevirtual 102, 3) := by decide +kernel
theorem dX0_countFigures_33 : decode cX0_countFigures 33 = .ok (.goto 12, 3) := by decide +kernel
theorem dX0_countFigures_36 : decode cX0_countFigures 36 = .ok (.aload_n 0, 1) := by decide +kernel
theorem dX0_countFigures_37 : decode cX0_countFigures 37 = .ok (.getfield 13, 3) := by decide +kernel
theorem dX0_countFigures_40 : decode cX0_countFigures 40 = .ok (.iload_n 3, 1) := by decide +kernel
theorem dX0_countFigures_41 : decode cX0_countFigures 41 = .ok (.aaload, 1) := by decide +kernel
theorem dX0_countFigures_42 : decode cX0_countFigures 42 = .ok (.invokevirtual 106, 3) := by decide +kernel
theorem dX0_countFigures_45 : decode cX0_countFigures 45 = .ok (.istore 4, 2) := by decide +kernel
theorem dX0_countFigures_47 : decode cX0_countFigures 47 = .ok (.iload 4, 2) := by decide +kernel
theorem dX0_countFigures_49 : decode cX0_countFigures 49 = .ok (.iconst 0, 1) := by decide +kernel
theorem dX0_countFigures_50 : decode cX0_countFigures 50 = .ok (.bipush 9, 2) := by decide +kernel
theorem dX0_countFigures_52 : decode cX0_countFigures 52 = .ok (.invokestatic 70, 3) := by decide +kernel
theorem dX0_countFigures_55 : decode cX0_countFigures 55 = .ok (.ifCond .eq 17, 3) := by decide +kernel
theorem dX0_countFigures_58 : decode cX0_countFigures 58 = .ok (.aload_n 0, 1) := by decide +kernel
theorem dX0_countFigures_59 : decode cX0_countFigures 59 = .ok (.getfield 46, 3) := by decide +kernel
theorem dX0_countFigures_62 : decode cX0_countFigures 62 = .ok (.iload 4, 2) := by decide +kernel
theorem dX0_countFigures_64 : decode cX0_countFigures 64 = .ok (.dup2, 1) := by decide +kernel
theorem dX0_countFigures_65 : decode cX0_countFigures 65 = .ok (.iaload, 1) := by decide +kernel
theorem dX0_countFigures_66 : decode cX0_countFigures 66 = .ok (.iconst 1, 1) := by decide +kernel
theorem dX0_countFigures_67 : decode cX0_countFigures 67 = .ok (.iadd, 1) := by decide +kernel
theorem dX0_countFigures_68 : decode cX0_countFigures 68 = .ok (.iastore, 1) := by decide +kernel
theorem dX0_countFigures_69 : decode cX0_countFigures 69 = .ok (.iinc 2 1, 3) := by decide +kernel
theorem dX0_countFigures_72 : decode cX0_countFigures 72 = .ok (.iinc 3 1, 3) := by decide +kernel
theorem dX0_countFigures_75 : decode cX0_countFigures 75 = .ok (.goto (-63), 3) := by decide +kernel
theorem dX0_countFigures_78 : decode cX0_countFigures 78 = .ok (.iload_n 2, 1) := by decide +kernel
theorem dX0_countFigures_79 : decode cX0_countFigures 79 = .ok (.ireturn, 1) := by decide +kernel
def B_X0_countFigures_72 (rc_12 : Nat → Int32 → Int32 → Int32 → Mem → Option (Int32 × Mem)) (a0 : Nat) (x1 : Int32) (x2 : Int32) (x3 : Int32) (M : Mem) : Option (Int32 × Mem) := rc_12 a0 x1 x2 (x3 + 1) M
def L_X0_countFigures_12 : Nat → Nat → Int32 → Int32 → Int32 → Mem → Option (Int32 × Mem)
  | 0, _, _, _, _, _ => none
  | n + 1, a0, x1, x2, x3, M => if (mI M a0 1) ≤ x3 then some (x2, M) else if x1 = 0 then gd (inR x3 30) (if (f_X8_within (f_X1_lastFigure ((a0 + 1) + 23 + 2 * x3.toNatClampNeg) M) (0 : Int32) (9 : Int32)) = 0 then B_X0_countFigures_72 (L_X0_countFigures_12 n) a0 x1 x2 x3 M else gd (inR (f_X1_lastFigure ((a0 + 1) + 23 + 2 * x3.toNatClampNeg) M) 10) (B_X0_countFigures_72 (L_X0_countFigures_12 n) a0 x1 (x2 + 1) x3 (sI M (a0 + 22) (f_X1_lastFigure ((a0 + 1) + 23 + 2 * x3.toNatClampNeg) M).toNatClampNeg ((mI M (a0 + 22) (f_X1_lastFigure ((a0 + 1) + 23 + 2 * x3.toNatClampNeg) M).toNatClampNeg) + (1 : Int32))))) else gd (inR x3 30) ((f_X1_firstFigure ((a0 + 1) + 23 + 2 * x3.toNatClampNeg) M).bind fun q17 => if (f_X8_within q17 (0 : Int32) (9 : Int32)) = 0 then B_X0_countFigures_72 (L_X0_countFigures_12 n) a0 x1 x2 x3 M else gd (inR q17 10) (B_X0_countFigures_72 (L_X0_countFigures_12 n) a0 x1 (x2 + 1) x3 (sI M (a0 + 22) q17.toNatClampNeg ((mI M (a0 + 22) q17.toNatClampNeg) + (1 : Int32)))))
def f_X0_countFigures (a0 : Nat) (x1 : Int32) (M : Mem) : Option (Int32 × Mem) := (f_J7_fill_53178 (a0 + 22) (0 : Int32) M).bind fun q3 => L_X0_countFigures_12 FU a0 x1 (0 : Int32) (0 : Int32) q3
set_option maxRecDepth 100000 in
set_option maxHeartbeats 4000000 in
theorem b_X0_countFigures_72 (Z : Sys) (X : Cx) (hR : xR X = rm_X0_countFigures) {q : Int32 × Mem} (hq : RetOk Z X (some .int) False (PostI q.1 q.2) 0 0) (rc_12 : Nat → Int32 → Int32 → Int32 → Mem → Option (Int32 × Mem)) (hrc_12 : ∀ (a0 : Nat) (x1 : Int32) (x2 : Int32) (x3 : Int32) (M : Mem), St M → K0[a0]? = some (0, 12) → rc_12 a0 x1 x2 x3 M = some q → G Z X Y_X0_countFigures False 0 0 12 [(0, .ref (zs Z + a0)), (1, .int x1), (2, .int x2), (3, .int x3)] [] M) (a0 : Nat) (x1 : Int32) (x2 : Int32) (x3 : Int32) {M : Mem} (hs : St M) (k_a0 : K0[a0]? = some (0, 12)) (hf : B_X0_countFigures_72 rc_12 a0 x1 x2 x3 M = some q) : G Z X Y_X0_countFigures False 0 0 72 [(0, .ref (zs Z + a0)), (1, .int x1), (2, .int x2), (3, .int x3)] [] M := by
  unfold B_X0_countFigures_72 at hf
  refine G.iinc 72 3 (x3 + 1) [(3, .int (x3 + 1)), (0, .ref (zs Z + a0)), (1, .int x1), (2, .int x2)] dX0_countFigures_72 rfl (congrArg (fun z => x3 + z) (by decide +kernel)) (Nat.le_of_ble_eq_true rfl) rfl ?_
  refine G.goto 75 12 dX0_countFigures_75 (by decide) ?_
  refine G.locs [1, 2, 3, 0] rfl ?_
  exact hrc_12 a0 x1 x2 (x3 + 1) M hs k_a0 hf
set_option maxRecDepth 100000 in
set_option maxHeartbeats 4000000 in
theorem l_X0_countFigures_12 (Z : Sys) (X : Cx) (hR : xR X = rm_X0_countFigures) {q : Int32 × Mem} (hq : RetOk Z X (some .int) False (PostI q.1 q.2) 0 0) : ∀ (n : Nat) (a0 : Nat) (x1 : Int32) (x2 : Int32) (x3 : Int32) (M : Mem) (hs : St M) (k_a0 : K0[a0]? = some (0, 12)) (hf : L_X0_countFigures_12 n a0 x1 x2 x3 M = some q), G Z X Y_X0_countFigures False 0 0 12 [(0, .ref (zs Z + a0)), (1, .int x1), (2, .int x2), (3, .int x3)] [] M := by
  intro n
  induction n with
  | zero => intro a0 x1 x2 x3 M hs k_a0 hf; cases hf
  | succ n ih =>
    intro a0 x1 x2 x3 M hs k_a0 hf
    unfold L_X0_countFigures_12 at hf
    refine G.iload_n 12 3 dX0_countFigures_12 rfl rfl ?_
    refine G.aload_n 13 0 dX0_countFigures_13 rfl rfl ?_
    refine G.geti 14 ck_0 1 (hs.k k_a0) (by decide) (by decide +kernel) wd_261 dX0_countFigures_14 ?_
    refine G.icmp_ge 17 78 dX0_countFigures_17 (by decide) (fun h5 => ?_) (fun h5 => ?_)
    · replace hf := (if_pos h5).symm.trans hf
      refine G.iload_n 78 2 dX0_countFigures_78 rfl rfl ?_
      (have hf9 := Option.some.inj hf; subst hf9)
      exact G.rI 79 hq dX0_countFigures_79 hs
    · replace hf := (if_neg h5).symm.trans hf
      refine G.iload_n 20 1 dX0_countFigures_20 rfl rfl ?_
      refine G.if_eq 21 36 dX0_countFigures_21 (by decide) (fun h6 => ?_) (fun h6 => ?_)
      · replace hf := (if_pos h6).symm.trans hf
        refine G.aload_n 36 0 dX0_countFigures_36 rfl rfl ?_
        refine G.getp 37 ck_0 0 (a0 + 1) (hs.k k_a0) (pt_0_0 hs k_a0).1 (by decide) (by decide +kernel) wd_257 dX0_countFigures_37 ?_
        refine G.iload_n 40 3 dX0_countFigures_40 rfl rfl ?_
        obtain ⟨g7, hf⟩ := gd_e hf
        refine G.aa 41 x3.toNatClampNeg ((a0 + 1) + 23 + 2 * x3.toNatClampNeg) (hs.k (pt_0_0 hs k_a0).2) (by decide) rfl rfl g7 rfl (pa_13 hs (pt_0_0 hs k_a0).2 (inlt g7)).1 dX0_countFigures_41 ?_
        refine G.cvI 42 (As := []) ck_1 (hs.k (pa_13 hs (pt_0_0 hs k_a0).2 (inlt g7)).2) (c_X1_lastFigure Z hs ((a0 + 1) + 23 + 2 * x3.toNatClampNeg) (pa_13 hs (pt_0_0 hs k_a0).2 (inlt g7)).2 rfl) mk_X1_lastFigure vk_X1_lastFigure rfl wd_567 hR (by decide +kernel) ⟨rfl, rfl⟩ rfl (Nat.le_of_ble_eq_true rfl) dX0_countFigures_42 (fun hs8 => ?_)
        refine G.istore 45 [(4, .int (f_X1_lastFigure ((a0 + 1) + 23 + 2 * x3.toNatClampNeg) M)), (0, .ref (zs Z + a0)), (1, .int x1), (2, .int x2), (3, .int x3)] dX0_countFigures_45 (Nat.le_of_ble_eq_true rfl) rfl ?_
        refine G.iload 47 0 dX0_countFigures_47 rfl ?_
        refine G.iconst 49 (0 : Int32) dX0_countFigures_49 (by decide +kernel) ?_
        refine G.bipush 50 (9 : Int32) dX0_countFigures_50 (by decide +kernel) ?_
        refine G.cnZ 52 (As := [.int (f_X1_lastFigure ((a0 + 1) + 23 + 2 * x3.toNatClampNeg) M), .int (0 : Int32), .int (9 : Int32)]) (c_X8_within Z hs8 (f_X1_lastFigure ((a0 + 1) + 23 + 2 * x3.toNatClampNeg) M) (0 : Int32) (9 : Int32) rfl) mk_X8_within wd_430 wd_448 hR (by decide +kernel) ⟨rfl, rfl⟩ rfl (Nat.le_of_ble_eq_true rfl) dX0_countFigures_52 (fun hs10 z11 => ?_)
        refine G.if_eq 55 72 dX0_countFigures_55 (by decide) (fun h12 => ?_) (fun h12 => ?_)
        · replace hf := (if_pos h12).symm.trans hf
          refine G.locs [1, 2, 3, 4] rfl ?_
          exact b_X0_countFigures_72 Z X hR hq (L_X0_countFigures_12 n) ih a0 x1 x2 x3 hs10 k_a0 hf
        · replace hf := (if_neg h12).symm.trans hf
          refine G.aload_n 58 1 dX0_countFigures_58 rfl rfl ?_
          refine G.getp 59 ck_0 10 (a0 + 22) (hs10.k k_a0) (pt_0_10 hs10 k_a0).1 (by decide) (by decide +kernel) wd_278 dX0_countFigures_59 ?_
          refine G.iload 62 0 dX0_countFigures_62 rfl ?_
          refine G.dup2 64 dX0_countFigures_64 rfl rfl ?_
          obtain ⟨g13, hf⟩ := gd_e hf
          refine G.ia 65 (f_X1_lastFigure ((a0 + 1) + 23 + 2 * x3.toNatClampNeg) M).toNatClampNeg (hs10.k (pt_0_10 hs10 k_a0).2) g13 rfl dX0_countFigures_65 ?_
          refine G.iconst 66 (1 : Int32) dX0_countFigures_66 (by decide +kernel) ?_
          refine G.iadd 67 dX0_countFigures_67 ?_
          refine G.ist 68 (f_X1_lastFigure ((a0 + 1) + 23 + 2 * x3.toNatClampNeg) M).toNatClampNeg (hs10.k (pt_0_10 hs10 k_a0).2) g13 rfl dX0_countFigures_68 ?_
          refine G.iinc 69 3 (x2 + 1) [(2, .int (x2 + 1)), (4, .int (f_X1_lastFigure ((a0 + 1) + 23 + 2 * x3.toNatClampNeg) M)), (0, .ref (zs Z + a0)), (1, .int x1), (3, .int x3)] dX0_countFigures_69 rfl (congrArg (fun z => x2 + z) (by decide +kernel)) (Nat.le_of_ble_eq_true rfl) rfl ?_
          refine G.locs [2, 3, 0, 4] rfl ?_
          exact b_X0_countFigures_72 Z X hR hq (L_X0_countFigures_12 n) ih a0 x1 (x2 + 1) x3 (St.i hs10) k_a0 hf
      · replace hf := (if_neg h6).symm.trans hf
        refine G.aload_n 24 0 dX0_countFigures_24 rfl rfl ?_
        refine G.getp 25 ck_0 0 (a0 + 1) (hs.k k_a0) (pt_0_0 hs k_a0).1 (by decide) (by decide +kernel) wd_257 dX0_countFigures_25 ?_
        refine G.iload_n 28 3 dX0_countFigures_28 rfl rfl ?_
        obtain ⟨g14, hf⟩ := gd_e hf
        refine G.aa 29 x3.toNatClampNeg ((a0 + 1) + 23 + 2 * x3.toNatClampNeg) (hs.k (pt_0_0 hs k_a0).2) (by decide) rfl rfl g14 rfl (pa_13 hs (pt_0_0 hs k_a0).2 (inlt g14)).1 dX0_countFigures_29 ?_
        obtain ⟨q17, e18, hf⟩ := bd_e hf
        refine G.cvI 30 (As := []) ck_1 (hs.k (pa_13 hs (pt_0_0 hs k_a0).2 (inlt g14)).2) (c_X1_firstFigure Z hs ((a0 + 1) + 23 + 2 * x3.toNatClampNeg) (pa_13 hs (pt_0_0 hs k_a0).2 (inlt g14)).2 e18) mk_X1_firstFigure vk_X1_firstFigure rfl wd_563 hR (by decide +kernel) ⟨rfl, rfl⟩ rfl (Nat.le_of_ble_eq_true rfl) dX0_countFigures_30 (fun hs15 => ?_)
        refine G.goto 33 45 dX0_countFigures_33 (by decide) ?_
        refine G.istore 45 [(4, .int q17), (0, .ref (zs Z + a0)), (1, .int x1), (2, .int x2), (3, .int x3)] dX0_countFigures_45 (Nat.le_of_ble_eq_true rfl) rfl ?_
        refine G.iload 47 0 dX0_countFigures_47 rfl ?_
        refine G.iconst 49 (0 : Int32) dX0_countFigures_49 (by decide +kernel) ?_
        refine G.bipush 50 (9 : Int32) dX0_countFigures_50 (by decide +kernel) ?_
        refine G.cnZ 52 (As := [.int q17, .int (0 : Int32), .int (9 : Int32)]) (c_X8_within Z hs15 q17 (0 : Int32) (9 : Int32) rfl) mk_X8_within wd_430 wd_448 hR (by decide +kernel) ⟨rfl, rfl⟩ rfl (Nat.le_of_ble_eq_true rfl) dX0_countFigures_52 (fun hs19 z20 => ?_)
        refine G.if_eq 55 72 dX0_countFigures_55 (by decide) (fun h21 => ?_) (fun h21 => ?_)
        · replace hf := (if_pos h21).symm.trans hf
          refine G.locs [1, 2, 3, 4] rfl ?_
          exact b_X0_countFigures_72 Z X hR hq (L_X0_countFigures_12 n) ih a0 x1 x2 x3 hs19 k_a0 hf
        · replace hf := (if_neg h21).symm.trans hf
          refine G.aload_n 58 1 dX0_countFigures_58 rfl rfl ?_
          refine G.getp 59 ck_0 10 (a0 + 22) (hs19.k k_a0) (pt_0_10 hs19 k_a0).1 (by decide) (by decide +kernel) wd_278 dX0_countFigures_59 ?_
          refine G.iload 62 0 dX0_countFigures_62 rfl ?_
          refine G.dup2 64 dX0_countFigures_64 rfl rfl ?_
          obtain ⟨g22, hf⟩ := gd_e hf
          refine G.ia 65 q17.toNatClampNeg (hs19.k (pt_0_10 hs19 k_a0).2) g22 rfl dX0_countFigures_65 ?_
          refine G.iconst 66 (1 : Int32) dX0_countFigures_66 (by decide +kernel) ?_
          refine G.iadd 67 dX0_countFigures_67 ?_
          refine G.ist 68 q17.toNatClampNeg (hs19.k (pt_0_10 hs19 k_a0).2) g22 rfl dX0_countFigures_68 ?_
          refine G.iinc 69 3 (x2 + 1) [(2, .int (x2 + 1)), (4, .int q17), (0, .ref (zs Z + a0)), (1, .int x1), (3, .int x3)] dX0_countFigures_69 rfl (congrArg (fun z => x2 + z) (by decide +kernel)) (Nat.le_of_ble_eq_true rfl) rfl ?_
          refine G.locs [2, 3, 0, 4] rfl ?_
          exact b_X0_countFigures_72 Z X hR hq (L_X0_countFigures_12 n) ih a0 x1 (x2 + 1) x3 (St.i hs19) k_a0 hf
set_option maxRecDepth 100000 in
set_option maxHeartbeats 4000000 in
theorem c_X0_countFigures (Z : Sys) {M : Mem} (hs : St M) (a0 : Nat) (x1 : Int32) (k_a0 : K0[a0]? = some (0, 12)) {q : Int32 × Mem} (hf : f_X0_countFigures a0 x1 M = some q) : Ct Z yX0_countFigures cX0_countFigures 5 (some .int) rm_X0_countFigures [.ref (zs Z + a0), .int x1] M False (PostI q.1 q.2) := by
  refine Ct.of (by decide +kernel) (Nat.le_of_ble_eq_true rfl) (fun X hR hq _ => ?_)
  show G Z X Y_X0_countFigures False 0 0 0 [(0, .ref (zs Z + a0)), (1, .int x1)] [] M
  replace hq : RetOk Z X (some .int) False (PostI q.1 q.2) 0 0 := hq
  unfold f_X0_countFigures at hf
  refine G.aload_n 0 0 dX0_countFigures_0 rfl rfl ?_
  refine G.getp 1 ck_0 10 (a0 + 22) (hs.k k_a0) (pt_0_10 hs k_a0).1 (by decide) (by decide +kernel) wd_278 dX0_countFigures_1 ?_
  refine G.iconst 4 (0 : Int32) dX0_countFigures_4 (by decide +kernel) ?_
  obtain ⟨q3, e4, hf⟩ := bd_e hf
  refine G.csV 5 (As := [.ref (zs Z + (a0 + 22)), .int (0 : Int32)]) (c_J7_fill_53178 Z hs (a0 + 22) (0 : Int32) (ln_k (pt_0_10 hs k_a0).2) e4) mk_J7_fill_53178 wd_561 wd_560 hR (by decide +kernel) ⟨rfl, rfl⟩ rfl (Nat.le_of_ble_eq_true rfl) dX0_countFigures_5 (fun hs1 => ?_)
  refine G.iconst 8 (0 : Int32) dX0_countFigures_8 (by decide +kernel) ?_
  refine G.istore_n 9 [(2, .int (0 : Int32)), (0, .ref (zs Z + a0)), (1, .int x1)] dX0_countFigures_9 rfl (Nat.le_of_ble_eq_true rfl) rfl ?_
  refine G.iconst 10 (0 : Int32) dX0_countFigures_10 (by decide +kernel) ?_
  refine G.istore_n 11 [(3, .int (0 : Int32)), (2, .int (0 : Int32)), (0, .ref (zs Z + a0)), (1, .int x1)] dX0_countFigures_11 rfl (Nat.le_of_ble_eq_true rfl) rfl ?_
  refine G.locs [2, 3, 1, 0] rfl ?_
  exact l_X0_countFigures_12 Z X hR hq FU a0 x1 (0 : Int32) (0 : Int32) q3 hs1 k_a0 hf
abbrev Y_X0_writtenMargin : My := (cX0_writtenMargin, RX0, 1)
def rm_X0_writtenMargin : Room := { frames := 3, cells := 0, slots := 0, locals := 245 }
theorem dX0_writtenMargin_0 : decode cX0_writtenMargin 0 = .ok (.iconst 2, 1) := by decide +kernel
theorem dX0_writtenMargin_1 : decode cX0_writtenMargin 1 = .ok (.aload_n 0, 1) := by decide +kernel
theorem dX0_writtenMargin_2 : decode cX0_writtenMargin 2 = .ok (.invokevirtual 157, 3) := by decide +kernel
theorem dX0_writtenMargin_5 : decode cX0_writtenMargin 5 = .ok (.imul, 1) := by decide +kernel
theorem dX0_writtenMargin_6 : decode cX0_writtenMargin 6 = .ok (.aload_n 0, 1) := by decide +kernel
theorem dX0_writtenMargin_7 : decode cX0_writtenMargin 7 = .ok (.invokevirtual 160, 3) := by decide +kernel
theorem dX0_writtenMargin_10 : decode cX0_writtenMargin 10 = .ok (.isub, 1) := by decide +kernel
theorem dX0_writtenMargin_11 : decode cX0_writtenMargin 11 = .ok (.ireturn, 1) := by decide +kernel
def f_X0_writtenMargin (a0 : Nat) (M : Mem) : Option Int32 := (f_X0_allWrittenOurs a0 M).bind fun q3 => (f_X0_allWrittenCame a0 M).bind fun q7 => some (((2 : Int32) * q3) - q7)
set_option maxRecDepth 100000 in
set_option maxHeartbeats 4000000 in
theorem c_X0_writtenMargin (Z : Sys) {M : Mem} (hs : St M) (a0 : Nat) (k_a0 : K0[a0]? = some (0, 12)) {q : Int32} (hf : f_X0_writtenMargin a0 M = some q) : Ct Z yX0_writtenMargin cX0_writtenMargin 1 (some .int) rm_X0_writtenMargin [.ref (zs Z + a0)] M False (PostI q M) := by
  refine Ct.of (by decide +kernel) (Nat.le_of_ble_eq_true rfl) (fun X hR hq _ => ?_)
  show G Z X Y_X0_writtenMargin False 0 0 0 [(0, .ref (zs Z + a0))] [] M
  replace hq : RetOk Z X (some .int) False (PostI q M) 0 0 := hq
  unfold f_X0_writtenMargin at hf
  refine G.iconst 0 (2 : Int32) dX0_writtenMargin_0 (by decide +kernel) ?_
  refine G.aload_n 1 0 dX0_writtenMargin_1 rfl rfl ?_
  obtain ⟨q3, e4, hf⟩ := bd_e hf
  refine G.cvI 2 (As := []) ck_0 (hs.k k_a0) (c_X0_allWrittenOurs Z hs a0 k_a0 e4) mk_X0_allWrittenOurs vk_X0_allWrittenOurs rfl wd_734 hR (by decide +kernel) ⟨rfl, rfl⟩ rfl (Nat.le_of_ble_eq_true rfl) dX0_writtenMargin_2 (fun hs1 => ?_)
  refine G.imul 5 dX0_writtenMargin_5 ?_
  refine G.aload_n 6 0 dX0_writtenMargin_6 rfl rfl ?_
  obtain ⟨q7, e8, hf⟩ := bd_e hf
  refine G.cvI 7 (As := []) ck_0 (hs1.k k_a0) (c_X0_allWrittenCame Z hs1 a0 k_a0 e8) mk_X0_allWrittenCame vk_X0_allWrittenCame rfl wd_738 hR (by decide +kernel) ⟨rfl, rfl⟩ rfl (Nat.le_of_ble_eq_true rfl) dX0_writtenMargin_7 (fun hs5 => ?_)
  refine G.isub 10 dX0_writtenMargin_10 ?_
  (have hf9 := Option.some.inj hf; subst hf9)
  exact G.rI 11 hq dX0_writtenMargin_11 hs5
abbrev Y_X1_margin : My := (cX1_margin, RX1, 1)
def rm_X1_margin : Room := { frames := 1, cells := 0, slots := 0, locals := 200 }
theorem dX1_margin_0 : decode cX1_margin 0 = .ok (.iconst 2, 1) := by decide +kernel
theorem dX1_margin_1 : decode cX1_margin 1 = .ok (.aload_n 0, 1) := by decide +kernel
theorem dX1_margin_2 : decode cX1_margin 2 = .ok (.getfield 60, 3) := by decide +kernel
theorem dX1_margin_5 : decode cX1_margin 5 = .ok (.imul, 1) := by decide +kernel
theorem dX1_margin_6 : decode cX1_margin 6 = .ok (.aload_n 0, 1) := by decide +kernel
theorem dX1_margin_7 : decode cX1_margin 7 = .ok (.getfield 57, 3) := by decide +kernel
theorem dX1_margin_10 : decode cX1_margin 10 = .ok (.isub, 1) := by decide +kernel
theorem dX1_margin_11 : decode cX1_margin 11 = .ok (.ireturn, 1) := by decide +kernel
def f_X1_margin (a0 : Nat) (M : Mem) : Int32 := (((2 : Int32) * (mI M a0 11)) - (mI M a0 10))
set_option maxRecDepth 100000 in
set_option maxHeartbeats 4000000 in
theorem c_X1_margin (Z : Sys) {M : Mem} (hs : St M) (a0 : Nat) (k_a0 : K0[a0]? = some (1, 12)) {q : Int32} (hf : f_X1_margin a0 M = q) : Ct Z yX1_margin cX1_margin 1 (some .int) rm_X1_margin [.ref (zs Z + a0)] M False (PostI q M) := by
  refine Ct.of (by decide +kernel) (Nat.le_of_ble_eq_true rfl) (fun X hR hq _ => ?_)
  show G Z X Y_X1_margin False 0 0 0 [(0, .ref (zs Z + a0))] [] M
  replace hq : RetOk Z X (some .int) False (PostI q M) 0 0 := hq
  unfold f_X1_margin at hf
  refine G.iconst 0 (2 : Int32) dX1_margin_0 (by decide +kernel) ?_
  refine G.aload_n 1 0 dX1_margin_1 rfl rfl ?_
  refine G.geti 2 ck_1 11 (hs.k k_a0) (by decide) (by decide +kernel) wd_228 dX1_margin_2 ?_
  refine G.imul 5 dX1_margin_5 ?_
  refine G.aload_n 6 0 dX1_margin_6 rfl rfl ?_
  refine G.geti 7 ck_1 10 (hs.k k_a0) (by decide) (by decide +kernel) wd_224 dX1_margin_7 ?_
  refine G.isub 10 dX1_margin_10 ?_
  subst hf
  exact G.rI 11 hq dX1_margin_11 hs
abbrev Y_X1_marginFall : My := (cX1_marginFall, RX1, 1)
def rm_X1_marginFall : Room := { frames := 2, cells := 0, slots := 0, locals := 220 }
theorem dX1_marginFall_0 : decode cX1_marginFall 0 = .ok (.aload_n 0, 1) := by decide +kernel
theorem dX1_marginFall_1 : decode cX1_marginFall 1 = .ok (.invokevirtual 83, 3) := by decide +kernel
theorem dX1_marginFall_4 : decode cX1_marginFall 4 = .ok (.iconst 2, 1) := by decide +kernel
theorem dX1_marginFall_5 : decode cX1_marginFall 5 = .ok (.aload_n 0, 1) := by decide +kernel
theorem dX1_marginFall_6 : decode cX1_marginFall 6 = .ok (.getfield 37, 3) := by decide +kernel
theorem dX1_marginFall_9 : decode cX1_marginFall 9 = .ok (.imul, 1) := by decide +kernel
theorem dX1_marginFall_10 : decode cX1_marginFall 10 = .ok (.aload_n 0, 1) := by decide +kernel
theorem dX1_marginFall_11 : decode cX1_marginFall 11 = .ok (.getfield 34, 3) := by decide +kernel
theorem dX1_marginFall_14 : decode cX1_marginFall 14 = .ok (.isub, 1) := by decide +kernel
theorem dX1_marginFall_15 : decode cX1_marginFall 15 = .ok (.isub, 1) := by decide +kernel
theorem dX1_marginFall_16 : decode cX1_marginFall 16 = .ok (.ireturn, 1) := by decide +kernel
def f_X1_marginFall (a0 : Nat) (M : Mem) : Int32 := ((f_X1_margin a0 M) - (((2 : Int32) * (mI M a0 7)) - (mI M a0 6)))
set_option maxRecDepth 100000 in
set_option maxHeartbeats 4000000 in
theorem c_X1_marginFall (Z : Sys) {M : Mem} (hs : St M) (a0 : Nat) (k_a0 : K0[a0]? = some (1, 12)) {q : Int32} (hf : f_X1_marginFall a0 M = q) : Ct Z yX1_marginFall cX1_marginFall 1 (some .int) rm_X1_marginFall [.ref (zs Z + a0)] M False (PostI q M) := by
  refine Ct.of (by decide +kernel) (Nat.le_of_ble_eq_true rfl) (fun X hR hq _ => ?_)
  show G Z X Y_X1_marginFall False 0 0 0 [(0, .ref (zs Z + a0))] [] M
  replace hq : RetOk Z X (some .int) False (PostI q M) 0 0 := hq
  unfold f_X1_marginFall at hf
  refine G.aload_n 0 0 dX1_marginFall_0 rfl rfl ?_
  refine G.cvI 1 (As := []) ck_1 (hs.k k_a0) (c_X1_margin Z hs a0 k_a0 rfl) mk_X1_margin vk_X1_margin rfl wd_785 hR (by decide +kernel) ⟨rfl, rfl⟩ rfl (Nat.le_of_ble_eq_true rfl) dX1_marginFall_1 (fun hs1 => ?_)
  refine G.iconst 4 (2 : Int32) dX1_marginFall_4 (by decide +kernel) ?_
  refine G.aload_n 5 0 dX1_marginFall_5 rfl rfl ?_
  refine G.geti 6 ck_1 7 (hs1.k k_a0) (by decide) (by decide +kernel) wd_210 dX1_marginFall_6 ?_
  refine G.imul 9 dX1_marginFall_9 ?_
  refine G.aload_n 10 0 dX1_marginFall_10 rfl rfl ?_
  refine G.geti 11 ck_1 6 (hs1.k k_a0) (by decide) (by decide +kernel) wd_207 dX1_marginFall_11 ?_
  refine G.isub 14 dX1_marginFall_14 ?_
  refine G.isub 15 dX1_marginFall_15 ?_
  subst hf
  exact G.rI 16 hq dX1_marginFall_16 hs1
abbrev Y_X0_mostFalling : My := (cX0_mostFalling, RX0, 5)
def rm_X0_mostFalling : Room := { frames := 3, cells := 0, slots := 0, locals := 240 }
theorem dX0_mostFalling_0 : decode cX0_mostFalling 0 = .ok (.bipush (-4), 2) := by decide +kernel
theorem dX0_mostFalling_2 : decode cX0_mostFalling 2 = .ok (.istore_n 2, 1) := by decide +kernel
theorem dX0_mostFalling_3 : decode cX0_mostFalling 3 = .ok (.iconst 0, 1) := by decide +kernel
theorem dX0_mostFalling_4 : decode cX0_mostFalling 4 = .ok (.istore_n 3, 1) := by decide +kernel
theorem dX0_mostFalling_5 : decode cX0_mostFalling 5 = .ok (.iload_n 3, 1) := by decide +kernel
theorem dX0_mostFalling_6 : decode cX0_mostFalling 6 = .ok (.aload_n 0, 1) := by decide +kernel
theorem dX0_mostFalling_7 : decode cX0_mostFalling 7 = .ok (.getfield 53, 3) := by decide +kernel
theorem dX0_mostFalling_10 : decode cX0_mostFalling 10 = .ok (.if_icmp .ge 70, 3) := by decide +kernel
theorem dX0_mostFalling_13 : decode cX0_mostFalling 13 = .ok (.aload_n 0, 1) := by decide +kernel
theorem dX0_mostFalling_14 : decode cX0_mostFalling 14 = .ok (.getfield 13, 3) := by decide +kernel
theorem dX0_mostFalling_17 : decode cX0_mostFalling 17 = .ok (.iload_n 3, 1) := by decide +kernel
theorem dX0_mostFalling_18 : decode cX0_mostFalling 18 = .ok (.aaload, 1) := by decide +kernel
theorem dX0_mostFalling_19 : decode cX0_mostFalling 19 = .ok (.getfield 78, 3) := by decide +kernel
theorem dX0_mostFalling_22 : decode cX0_mostFalling 22 = .ok (.ifCond .ne 15, 3) := by decide +kernel
theorem dX0_mostFalling_25 : decode cX0_mostFalling 25 = .ok (.iload_n 1, 1) := by decide +kernel
theorem dX0_mostFalling_26 : decode cX0_mostFalling 26 = .ok (.iload_n 3, 1) := by decide +kernel
theorem dX0_mostFalling_27 : decode cX0_mostFalling 27 = .ok (.ishr, 1) := by decide +kernel
theorem dX0_mostFalling_28 : decode cX0_mostFalling 28 = .ok (.iconst 1, 1) := by decide +kernel
theorem dX0_mostFalling_29 : decode cX0_mostFalling 29 = .ok (.iand, 1) := by decide +kernel
theorem dX0_mostFalling_30 : decode cX0_mostFalling 30 = .ok (.ifCond .ne 7, 3) := by decide +kernel
theorem dX0_mostFalling_33 : decode cX0_mostFalling 33 = .ok (.iconst 1, 1) := by decide +kernel
theorem dX0_mostFalling_34 : decode cX0_mostFalling 34 = .ok (.goto 4, 3) := by decide +kernel
theorem dX0_mostFalling_37 : decode cX0_mostFalling 37 = .ok (.iconst 0, 1) := by decide +kernel
theorem dX0_mostFalling_38 : decode cX0_mostFalling 38 = .ok (.istore 4, 2) := by decide +kernel
theorem dX0_mostFalling_40 : decode cX0_mostFalling 40 = .ok (.iload 4, 2) := by decide +kernel
theorem dX0_mostFalling_42 : decode cX0_mostFalling 42 = .ok (.ifCond .eq 32, 3) := by decide +kernel
theorem dX0_mostFalling_45 : decode cX0_mostFalling 45 = .ok (.iload_n 2, 1) := by decide +kernel
theorem dX0_mostFalling_46 : decode cX0_mostFalling 46 = .ok (.bipush (-4), 2) := by decide +kernel
theorem dX0_mostFalling_48 : decode cX0_mostFalling 48 = .ok (.if_icmp .eq 24, 3) := by decide +kernel
theorem dX0_mostFalling_51 : decode cX0_mostFalling 51 = .ok (.aload_n 0, 1) := by decide +kernel
theorem dX0_mostFalling_52 : decode cX0_mostFalling 52 = .ok (.getfield 13, 3) := by decide +kernel
theorem dX0_mostFalling_55 : decode cX0_mostFalling 55 = .ok (.iload_n 3, 1) := by decide +kernel
theorem dX0_mostFalling_56 : decode cX0_mostFalling 56 = .ok (.aaload, 1) := by decide +kernel
theorem dX0_mostFalling_57 : decode cX0_mostFalling 57 = .ok (.invokevirtual 175, 3) := by decide +kernel
theorem dX0_mostFalling_60 : decode cX0_mostFalling 60 = .ok (.aload_n 0, 1) := by decide +kernel
theorem dX0_mostFalling_61 : decode cX0_mostFalling 61 = .ok (.getfield 13, 3) := by decide +kernel
theorem dX0_mostFalling_64 : decode cX0_mostFalling 64 = .ok (.iload_n 2, 1) := by decide +kernel
theorem dX0_mostFalling_65 : decode cX0_mostFalling 65 = .ok (.aaload, 1) := by decide +kernel
theorem dX0_mostFalling_66 : decode cX0_mostFalling 66 = .ok (.invokevirtual 175, 3) := by decide +kernel
theorem dX0_mostFalling_69 : decode cX0_mostFalling 69 = .ok (.if_icmp .le 5, 3) := by decide +kernel
theorem dX0_mostFalling_72 : decode cX0_mostFalling 72 = .ok (.iload_n 3, 1) := by decide +kernel
theorem dX0_mostFalling_73 : decode cX0_mostFalling 73 = .ok (.istore_n 2, 1) := by decide +kernel
theorem dX0_mostFalling_74 : decode cX0_mostFalling 74 = .ok (.iinc 3 1, 3) := by decide +kernel
theorem dX0_mostFalling_77 : decode cX0_mostFalling 77 = .ok (.goto (-72), 3) := by decide +kernel
theorem dX0_mostFalling_80 : decode cX0_mostFalling 80 = .ok (.iload_n 2, 1) := by decide +kernel
theorem dX0_mostFalling_81 : decode cX0_mostFalling 81 = .ok (.ireturn, 1) := by decide +kernel
def B_X0_mostFalling_74 (rc_5 : Nat → Int32 → Int32 → Int32 → Mem → Option Int32) (a0 : Nat) (x1 : Int32) (x2 : Int32) (x3 : Int32) (M : Mem) : Option Int32 := rc_5 a0 x1 x2 (x3 + 1) M
def B_X0_mostFalling_72 (rc_5 : Nat → Int32 → Int32 → Int32 → Mem → Option Int32) (a0 : Nat) (x1 : Int32) (x3 : Int32) (M : Mem) : Option Int32 := B_X0_mostFalling_74 rc_5 a0 x1 x3 x3 M
def B_X0_mostFalling_37 (rc_5 : Nat → Int32 → Int32 → Int32 → Mem → Option Int32) (a0 : Nat) (x1 : Int32) (x2 : Int32) (x3 : Int32) (M : Mem) : Option Int32 := if (0 : Int32) = 0 then B_X0_mostFalling_74 rc_5 a0 x1 x2 x3 M else if x2 = (-4 : Int32) then B_X0_mostFalling_72 rc_5 a0 x1 x3 M else gd (inR x3 30) (gd (inR x2 30) (if (f_X1_marginFall ((a0 + 1) + 23 + 2 * x3.toNatClampNeg) M) ≤ (f_X1_marginFall ((a0 + 1) + 23 + 2 * x2.toNatClampNeg) M) then B_X0_mostFalling_74 rc_5 a0 x1 x2 x3 M else B_X0_mostFalling_72 rc_5 a0 x1 x3 M))
def L_X0_mostFalling_5 : Nat → Nat → Int32 → Int32 → Int32 → Mem → Option Int32
  | 0, _, _, _, _, _ => none
  | n + 1, a0, x1, x2, x3, M => if (mI M a0 1) ≤ x3 then some x2 else gd (inR x3 30) (if (mI M ((a0 + 1) + 23 + 2 * x3.toNatClampNeg) 9) = 0 then if ((x1 >>> (x3 &&& 31)) &&& (1 : Int32)) = 0 then if (1 : Int32) = 0 then B_X0_mostFalling_74 (L_X0_mostFalling_5 n) a0 x1 x2 x3 M else if x2 = (-4 : Int32) then B_X0_mostFalling_72 (L_X0_mostFalling_5 n) a0 x1 x3 M else gd (inR x2 30) (if (f_X1_marginFall ((a0 + 1) + 23 + 2 * x3.toNatClampNeg) M) ≤ (f_X1_marginFall ((a0 + 1) + 23 + 2 * x2.toNatClampNeg) M) then B_X0_mostFalling_74 (L_X0_mostFalling_5 n) a0 x1 x2 x3 M else B_X0_mostFalling_72 (L_X0_mostFalling_5 n) a0 x1 x3 M) else B_X0_mostFalling_37 (L_X0_mostFalling_5 n) a0 x1 x2 x3 M else B_X0_mostFalling_37 (L_X0_mostFalling_5 n) a0 x1 x2 x3 M)
def f_X0_mostFalling (a0 : Nat) (x1 : Int32) (M : Mem) : Option Int32 := L_X0_mostFalling_5 FU a0 x1 (-4 : Int32) (0 : Int32) M
set_option maxRecDepth 100000 in
set_option maxHeartbeats 4000000 in
theorem b_X0_mostFalling_74 (Z : Sys) (X : Cx) (hR : xR X = rm_X0_mostFalling) {q : Int32} {M : Mem} (hq : RetOk Z X (some .int) False (PostI q M) 0 0) (rc_5 : Nat → Int32 → Int32 → Int32 → Mem → Option Int32) (hrc_5 : ∀ (a0 : Nat) (x1 : Int32) (x2 : Int32) (x3 : Int32), St M → K0[a0]? = some (0, 12) → rc_5 a0 x1 x2 x3 M = some q → G Z X Y_X0_mostFalling False 0 0 5 [(0, .ref (zs Z + a0)), (1, .int x1), (2, .int x2), (3, .int x3)] [] M) (a0 : Nat) (x1 : Int32) (x2 : Int32) (x3 : Int32) (hs : St M) (k_a0 : K0[a0]? = some (0, 12)) (hf : B_X0_mostFalling_74 rc_5 a0 x1 x2 x3 M = some q) : G Z X Y_X0_mostFalling False 0 0 74 [(0, .ref (zs Z + a0)), (1, .int x1), (2, .int x2), (3, .int x3)] [] M := by
  unfold B_X0_mostFalling_74 at hf
  refine G.iinc 74 3 (x3 + 1) [(3, .int (x3 + 1)), (0, .ref (zs Z + a0)), (1, .int x1), (2, .int x2)] dX0_mostFalling_74 rfl (congrArg (fun z => x3 + z) (by decide +kernel)) (Nat.le_of_ble_eq_true rfl) rfl ?_
  refine G.goto 77 5 dX0_mostFalling_77 (by decide) ?_
  refine G.locs [1, 2, 3, 0] rfl ?_
  exact hrc_5 a0 x1 x2 (x3 + 1) hs k_a0 hf
set_option maxRecDepth 100000 in
set_option maxHeartbeats 4000000 in
theorem b_X0_mostFalling_72 (Z : Sys) (X : Cx) (hR : xR X = rm_X0_mostFalling) {q : Int32} {M : Mem} (hq : RetOk Z X (some .int) False (PostI q M) 0 0) (rc_5 : Nat → Int32 → Int32 → Int32 → Mem → Option Int32) (hrc_5 : ∀ (a0 : Nat) (x1 : Int32) (x2 : Int32) (x3 : Int32), St M → K0[a0]? = some (0, 12) → rc_5 a0 x1 x2 x3 M = some q → G Z X Y_X0_mostFalling False 0 0 5 [(0, .ref (zs Z + a0)), (1, .int x1), (2, .int x2), (3, .int x3)] [] M) (a0 : Nat) (x1 : Int32) (x3 : Int32) (hs : St M) (k_a0 : K0[a0]? = some (0, 12)) (hf : B_X0_mostFalling_72 rc_5 a0 x1 x3 M = some q) : G Z X Y_X0_mostFalling False 0 0 72 [(0, .ref (zs Z + a0)), (1, .int x1), (3, .int x3)] [] M := by
  unfold B_X0_mostFalling_72 at hf
  refine G.iload_n 72 2 dX0_mostFalling_72 rfl rfl ?_
  refine G.istore_n 73 [(2, .int x3), (0, .ref (zs Z + a0)), (1, .int x1), (3, .int x3)] dX0_mostFalling_73 rfl (Nat.le_of_ble_eq_true rfl) rfl ?_
  refine G.locs [1, 2, 0, 3] rfl ?_
  exact b_X0_mostFalling_74 Z X hR hq rc_5 hrc_5 a0 x1 x3 x3 hs k_a0 hf
set_option maxRecDepth 100000 in
set_option maxHeartbeats 4000000 in
theorem b_X0_mostFalling_37 (Z : Sys) (X : Cx) (hR : xR X = rm_X0_mostFalling) {q : Int32} {M : Mem} (hq : RetOk Z X (some .int) False (PostI q M) 0 0) (rc_5 : Nat → Int32 → Int32 → Int32 → Mem → Option Int32) (hrc_5 : ∀ (a0 : Nat) (x1 : Int32) (x2 : Int32) (x3 : Int32), St M → K0[a0]? = some (0, 12) → rc_5 a0 x1 x2 x3 M = some q → G Z X Y_X0_mostFalling False 0 0 5 [(0, .ref (zs Z + a0)), (1, .int x1), (2, .int x2), (3, .int x3)] [] M) (a0 : Nat) (x1 : Int32) (x2 : Int32) (x3 : Int32) (hs : St M) (k_a0 : K0[a0]? = some (0, 12)) (hf : B_X0_mostFalling_37 rc_5 a0 x1 x2 x3 M = some q) : G Z X Y_X0_mostFalling False 0 0 37 [(0, .ref (zs Z + a0)), (1, .int x1), (2, .int x2), (3, .int x3)] [] M := by
  unfold B_X0_mostFalling_37 at hf
  refine G.iconst 37 (0 : Int32) dX0_mostFalling_37 (by decide +kernel) ?_
  refine G.istore 38 [(4, .int (0 : Int32)), (0, .ref (zs Z + a0)), (1, .int x1), (2, .int x2), (3, .int x3)] dX0_mostFalling_38 (Nat.le_of_ble_eq_true rfl) rfl ?_
  refine G.iload 40 0 dX0_mostFalling_40 rfl ?_
  refine G.if_eq 42 74 dX0_mostFalling_42 (by decide) (fun h4 => ?_) (fun h4 => ?_)
  · replace hf := (if_pos h4).symm.trans hf
    refine G.locs [1, 2, 3, 4] rfl ?_
    exact b_X0_mostFalling_74 Z X hR hq rc_5 hrc_5 a0 x1 x2 x3 hs k_a0 hf
  · replace hf := (if_neg h4).symm.trans hf
    refine G.iload_n 45 3 dX0_mostFalling_45 rfl rfl ?_
    refine G.bipush 46 (-4 : Int32) dX0_mostFalling_46 (by decide +kernel) ?_
    refine G.icmp_eq 48 72 dX0_mostFalling_48 (by decide) (fun h5 => ?_) (fun h5 => ?_)
    · replace hf := (if_pos h5).symm.trans hf
      refine G.locs [1, 2, 4] rfl ?_
      exact b_X0_mostFalling_72 Z X hR hq rc_5 hrc_5 a0 x1 x3 hs k_a0 hf
    · replace hf := (if_neg h5).symm.trans hf
      refine G.aload_n 51 1 dX0_mostFalling_51 rfl rfl ?_
      refine G.getp 52 ck_0 0 (a0 + 1) (hs.k k_a0) (pt_0_0 hs k_a0).1 (by decide) (by decide +kernel) wd_257 dX0_mostFalling_52 ?_
      refine G.iload_n 55 4 dX0_mostFalling_55 rfl rfl ?_
      obtain ⟨g6, hf⟩ := gd_e hf
      refine G.aa 56 x3.toNatClampNeg ((a0 + 1) + 23 + 2 * x3.toNatClampNeg) (hs.k (pt_0_0 hs k_a0).2) (by decide) rfl rfl g6 rfl (pa_13 hs (pt_0_0 hs k_a0).2 (inlt g6)).1 dX0_mostFalling_56 ?_
      refine G.cvI 57 (As := []) ck_1 (hs.k (pa_13 hs (pt_0_0 hs k_a0).2 (inlt g6)).2) (c_X1_marginFall Z hs ((a0 + 1) + 23 + 2 * x3.toNatClampNeg) (pa_13 hs (pt_0_0 hs k_a0).2 (inlt g6)).2 rfl) mk_X1_marginFall vk_X1_marginFall rfl wd_781 hR (by decide +kernel) ⟨rfl, rfl⟩ rfl (Nat.le_of_ble_eq_true rfl) dX0_mostFalling_57 (fun hs7 => ?_)
      refine G.aload_n 60 1 dX0_mostFalling_60 rfl rfl ?_
      refine G.getp 61 ck_0 0 (a0 + 1) (hs7.k k_a0) (pt_0_0 hs7 k_a0).1 (by decide) (by decide +kernel) wd_257 dX0_mostFalling_61 ?_
      refine G.iload_n 64 3 dX0_mostFalling_64 rfl rfl ?_
      obtain ⟨g9, hf⟩ := gd_e hf
      refine G.aa 65 x2.toNatClampNeg ((a0 + 1) + 23 + 2 * x2.toNatClampNeg) (hs7.k (pt_0_0 hs7 k_a0).2) (by decide) rfl rfl g9 rfl (pa_13 hs7 (pt_0_0 hs7 k_a0).2 (inlt g9)).1 dX0_mostFalling_65 ?_
      refine G.cvI 66 (As := []) ck_1 (hs7.k (pa_13 hs7 (pt_0_0 hs7 k_a0).2 (inlt g9)).2) (c_X1_marginFall Z hs7 ((a0 + 1) + 23 + 2 * x2.toNatClampNeg) (pa_13 hs7 (pt_0_0 hs7 k_a0).2 (inlt g9)).2 rfl) mk_X1_marginFall vk_X1_marginFall rfl wd_781 hR (by decide +kernel) ⟨rfl, rfl⟩ rfl (Nat.le_of_ble_eq_true rfl) dX0_mostFalling_66 (fun hs10 => ?_)
      refine G.icmp_le 69 74 dX0_mostFalling_69 (by decide) (fun h12 => ?_) (fun h12 => ?_)
      · replace hf := (if_pos h12).symm.trans hf
        refine G.locs [1, 2, 3, 4] rfl ?_
        exact b_X0_mostFalling_74 Z X hR hq rc_5 hrc_5 a0 x1 x2 x3 hs10 k_a0 hf
      · replace hf := (if_neg h12).symm.trans hf
        refine G.locs [1, 2, 4] rfl ?_
        exact b_X0_mostFalling_72 Z X hR hq rc_5 hrc_5 a0 x1 x3 hs10 k_a0 hf
set_option maxRecDepth 100000 in
set_option maxHeartbeats 4000000 in
theorem l_X0_mostFalling_5 (Z : Sys) (X : Cx) (hR : xR X = rm_X0_mostFalling) {q : Int32} {M : Mem} (hq : RetOk Z X (some .int) False (PostI q M) 0 0) : ∀ (n : Nat) (a0 : Nat) (x1 : Int32) (x2 : Int32) (x3 : Int32) (hs : St M) (k_a0 : K0[a0]? = some (0, 12)) (hf : L_X0_mostFalling_5 n a0 x1 x2 x3 M = some q), G Z X Y_X0_mostFalling False 0 0 5 [(0, .ref (zs Z + a0)), (1, .int x1), (2, .int x2), (3, .int x3)] [] M := by
  intro n
  induction n with
  | zero => intro a0 x1 x2 x3 hs k_a0 hf; cases hf
  | succ n ih =>
    intro a0 x1 x2 x3 hs k_a0 hf
    unfold L_X0_mostFalling_5 at hf
    refine G.iload_n 5 3 dX0_mostFalling_5 rfl rfl ?_
    refine G.aload_n 6 0 dX0_mostFalling_6 rfl rfl ?_
    refine G.geti 7 ck_0 1 (hs.k k_a0) (by decide) (by decide +kernel) wd_261 dX0_mostFalling_7 ?_
    refine G.icmp_ge 10 80 dX0_mostFalling_10 (by decide) (fun h1 => ?_) (fun h1 => ?_)
    · replace hf := (if_pos h1).symm.trans hf
      refine G.iload_n 80 2 dX0_mostFalling_80 rfl rfl ?_
      (have hf9 := Option.some.inj hf; subst hf9)
      exact G.rI 81 hq dX0_mostFalling_81 hs
    · replace hf := (if_neg h1).symm.trans hf
      refine G.aload_n 13 0 dX0_mostFalling_13 rfl rfl ?_
      refine G.getp 14 ck_0 0 (a0 + 1) (hs.k k_a0) (pt_0_0 hs k_a0).1 (by decide) (by decide +kernel) wd_257 dX0_mostFalling_14 ?_
      refine G.iload_n 17 3 dX0_mostFalling_17 rfl rfl ?_
      obtain ⟨g2, hf⟩ := gd_e hf
      refine G.aa 18 x3.toNatClampNeg ((a0 + 1) + 23 + 2 * x3.toNatClampNeg) (hs.k (pt_0_0 hs k_a0).2) (by decide) rfl rfl g2 rfl (pa_13 hs (pt_0_0 hs k_a0).2 (inlt g2)).1 dX0_mostFalling_18 ?_
      refine G.geti 19 ck_1 9 (hs.k (pa_13 hs (pt_0_0 hs k_a0).2 (inlt g2)).2) (by decide) (by decide +kernel) wd_222 dX0_mostFalling_19 ?_
      refine G.if_ne 22 37 dX0_mostFalling_22 (by decide) (fun h3 => ?_) (fun h3 => ?_)
      · replace hf := (if_neg h3).symm.trans hf
        exact b_X0_mostFalling_37 Z X hR hq (L_X0_mostFalling_5 n) ih a0 x1 x2 x3 hs k_a0 hf
      · replace hf := (if_pos h3).symm.trans hf
        refine G.iload_n 25 1 dX0_mostFalling_25 rfl rfl ?_
        refine G.iload_n 26 3 dX0_mostFalling_26 rfl rfl ?_
        refine G.ishr 27 dX0_mostFalling_27 ?_
        refine G.iconst 28 (1 : Int32) dX0_mostFalling_28 (by decide +kernel) ?_
        refine G.iand 29 dX0_mostFalling_29 ?_
        refine G.if_ne 30 37 dX0_mostFalling_30 (by decide) (fun h13 => ?_) (fun h13 => ?_)
        · replace hf := (if_neg h13).symm.trans hf
          exact b_X0_mostFalling_37 Z X hR hq (L_X0_mostFalling_5 n) ih a0 x1 x2 x3 hs k_a0 hf
        · replace hf := (if_pos h13).symm.trans hf
          refine G.iconst 33 (1 : Int32) dX0_mostFalling_33 (by decide +kernel) ?_
          refine G.goto 34 38 dX0_mostFalling_34 (by decide) ?_
          refine G.istore 38 [(4, .int (1 : Int32)), (0, .ref (zs Z + a0)), (1, .int x1), (2, .int x2), (3, .int x3)] dX0_mostFalling_38 (Nat.le_of_ble_eq_true rfl) rfl ?_
          refine G.iload 40 0 dX0_mostFalling_40 rfl ?_
          refine G.if_eq 42 74 dX0_mostFalling_42 (by decide) (fun h14 => ?_) (fun h14 => ?_)
          · replace hf := (if_pos h14).symm.trans hf
            refine G.locs [1, 2, 3, 4] rfl ?_
            exact b_X0_mostFalling_74 Z X hR hq (L_X0_mostFalling_5 n) ih a0 x1 x2 x3 hs k_a0 hf
          · replace hf := (if_neg h14).symm.trans hf
            refine G.iload_n 45 3 dX0_mostFalling_45 rfl rfl ?_
            refine G.bipush 46 (-4 : Int32) dX0_mostFalling_46 (by decide +kernel) ?_
            refine G.icmp_eq 48 72 dX0_mostFalling_48 (by decide) (fun h15 => ?_) (fun h15 => ?_)
            · replace hf := (if_pos h15).symm.trans hf
              refine G.locs [1, 2, 4] rfl ?_
              exact b_X0_mostFalling_72 Z X hR hq (L_X0_mostFalling_5 n) ih a0 x1 x3 hs k_a0 hf
            · replace hf := (if_neg h15).symm.trans hf
              refine G.aload_n 51 1 dX0_mostFalling_51 rfl rfl ?_
              refine G.getp 52 ck_0 0 (a0 + 1) (hs.k k_a0) (pt_0_0 hs k_a0).1 (by decide) (by decide +kernel) wd_257 dX0_mostFalling_52 ?_
              refine G.iload_n 55 4 dX0_mostFalling_55 rfl rfl ?_
              refine G.aa 56 x3.toNatClampNeg ((a0 + 1) + 23 + 2 * x3.toNatClampNeg) (hs.k (pt_0_0 hs k_a0).2) (by decide) rfl rfl g2 rfl (pa_13 hs (pt_0_0 hs k_a0).2 (inlt g2)).1 dX0_mostFalling_56 ?_
              refine G.cvI 57 (As := []) ck_1 (hs.k (pa_13 hs (pt_0_0 hs k_a0).2 (inlt g2)).2) (c_X1_marginFall Z hs ((a0 + 1) + 23 + 2 * x3.toNatClampNeg) (pa_13 hs (pt_0_0 hs k_a0).2 (inlt g2)).2 rfl) mk_X1_marginFall vk_X1_marginFall rfl wd_781 hR (by decide +kernel) ⟨rfl, rfl⟩ rfl (Nat.le_of_ble_eq_true rfl) dX0_mostFalling_57 (fun hs16 => ?_)
              refine G.aload_n 60 1 dX0_mostFalling_60 rfl rfl ?_
              refine G.getp 61 ck_0 0 (a0 + 1) (hs16.k k_a0) (pt_0_0 hs16 k_a0).1 (by decide) (by decide +kernel) wd_257 dX0_mostFalling_61 ?_
              refine G.iload_n 64 3 dX0_mostFalling_64 rfl rfl ?_
              obtain ⟨g18, hf⟩ := gd_e hf
              refine G.aa 65 x2.toNatClampNeg ((a0 + 1) + 23 + 2 * x2.toNatClampNeg) (hs16.k (pt_0_0 hs16 k_a0).2) (by decide) rfl rfl g18 rfl (pa_13 hs16 (pt_0_0 hs16 k_a0).2 (inlt g18)).1 dX0_mostFalling_65 ?_
              refine G.cvI 66 (As := []) ck_1 (hs16.k (pa_13 hs16 (pt_0_0 hs16 k_a0).2 (inlt g18)).2) (c_X1_marginFall Z hs16 ((a0 + 1) + 23 + 2 * x2.toNatClampNeg) (pa_13 hs16 (pt_0_0 hs16 k_a0).2 (inlt g18)).2 rfl) mk_X1_marginFall vk_X1_marginFall rfl wd_781 hR (by decide +kernel) ⟨rfl, rfl⟩ rfl (Nat.le_of_ble_eq_true rfl) dX0_mostFalling_66 (fun hs19 => ?_)
              refine G.icmp_le 69 74 dX0_mostFalling_69 (by decide) (fun h21 => ?_) (fun h21 => ?_)
              · replace hf := (if_pos h21).symm.trans hf
                refine G.locs [1, 2, 3, 4] rfl ?_
                exact b_X0_mostFalling_74 Z X hR hq (L_X0_mostFalling_5 n) ih a0 x1 x2 x3 hs19 k_a0 hf
              · replace hf := (if_neg h21).symm.trans hf
                refine G.locs [1, 2, 4] rfl ?_
                exact b_X0_mostFalling_72 Z X hR hq (L_X0_mostFalling_5 n) ih a0 x1 x3 hs19 k_a0 hf
set_option maxRecDepth 100000 in
set_option maxHeartbeats 4000000 in
theorem c_X0_mostFalling (Z : Sys) {M : Mem} (hs : St M) (a0 : Nat) (x1 : Int32) (k_a0 : K0[a0]? = some (0, 12)) {q : Int32} (hf : f_X0_mostFalling a0 x1 M = some q) : Ct Z yX0_mostFalling cX0_mostFalling 5 (some .int) rm_X0_mostFalling [.ref (zs Z + a0), .int x1] M False (PostI q M) := by
  refine Ct.of (by decide +kernel) (Nat.le_of_ble_eq_true rfl) (fun X hR hq _ => ?_)
  show G Z X Y_X0_mostFalling False 0 0 0 [(0, .ref (zs Z + a0)), (1, .int x1)] [] M
  replace hq : RetOk Z X (some .int) False (PostI q M) 0 0 := hq
  unfold f_X0_mostFalling at hf
  refine G.bipush 0 (-4 : Int32) dX0_mostFalling_0 (by decide +kernel) ?_
  refine G.istore_n 2 [(2, .int (-4 : Int32)), (0, .ref (zs Z + a0)), (1, .int x1)] dX0_mostFalling_2 rfl (Nat.le_of_ble_eq_true rfl) rfl ?_
  refine G.iconst 3 (0 : Int32) dX0_mostFalling_3 (by decide +kernel) ?_
  refine G.istore_n 4 [(3, .int (0 : Int32)), (2, .int (-4 : Int32)), (0, .ref (zs Z + a0)), (1, .int x1)] dX0_mostFalling_4 rfl (Nat.le_of_ble_eq_true rfl) rfl ?_
  refine G.locs [2, 3, 1, 0] rfl ?_
  exact l_X0_mostFalling_5 Z X hR hq FU a0 x1 (-4 : Int32) (0 : Int32) hs k_a0 hf
abbrev Y_X0_fewestTurns : My := (cX0_fewestTurns, RX0, 5)
def rm_X0_fewestTurns : Room := { frames := 4, cells := 0, slots := 0, locals := 265 }
theorem dX0_fewestTurns_0 : decode cX0_fewestTurns 0 = .ok (.aload_n 0, 1) := by decide +kernel
theorem dX0_fewestTurns_1 : decode cX0_fewestTurns 1 = .ok (.invokevirtual 169, 3) := by decide +kernel
theorem dX0_fewestTurns_4 : decode cX0_fewestTurns 4 = .ok (.istore_n 1, 1) := by decide +kernel
theorem dX0_fewestTurns_5 : decode cX0_fewestTurns 5 = .ok (.iconst 0, 1) := by decide +kernel
theorem dX0_fewestTurns_6 : decode cX0_fewestTurns 6 = .ok (.istore_n 2, 1) := by decide +kernel
theorem dX0_fewestTurns_7 : decode cX0_fewestTurns 7 = .ok (.iconst 0, 1) := by decide +kernel
theorem dX0_fewestTurns_8 : decode cX0_fewestTurns 8 = .ok (.istore_n 3, 1) := by decide +kernel
theorem dX0_fewestTurns_9 : decode cX0_fewestTurns 9 = .ok (.iload_n 3, 1) := by decide +kernel
theorem dX0_fewestTurns_10 : decode cX0_fewestTurns 10 = .ok (.aload_n 0, 1) := by decide +kernel
theorem dX0_fewestTurns_11 : decode cX0_fewestTurns 11 = .ok (.getfield 53, 3) := by decide +kernel
theorem dX0_fewestTurns_14 : decode cX0_fewestTurns 14 = .ok (.if_icmp .gt 52, 3) := by decide +kernel
theorem dX0_fewestTurns_17 : decode cX0_fewestTurns 17 = .ok (.iload_n 1, 1) := by decide +kernel
theorem dX0_fewestTurns_18 : decode cX0_fewestTurns 18 = .ok (.ifCond .gt 5, 3) := by decide +kernel
theorem dX0_fewestTurns_21 : decode cX0_fewestTurns 21 = .ok (.iload_n 3, 1) := by decide +kernel
theorem dX0_fewestTurns_22 : decode cX0_fewestTurns 22 = .ok (.ireturn, 1) := by decide +kernel
theorem dX0_fewestTurns_23 : decode cX0_fewestTurns 23 = .ok (.aload_n 0, 1) := by decide +kernel
theorem dX0_fewestTurns_24 : decode cX0_fewestTurns 24 = .ok (.iload_n 2, 1) := by decide +kernel
theorem dX0_fewestTurns_25 : decode cX0_fewestTurns 25 = .ok (.invokevirtual 172, 3) := by decide +kernel
theorem dX0_fewestTurns_28 : decode cX0_fewestTurns 28 = .ok (.istore 4, 2) := by decide +kernel
theorem dX0_fewestTurns_30 : decode cX0_fewestTurns 30 = .ok (.iload 4, 2) := by decide +kernel
theorem dX0_fewestTurns_32 : decode cX0_fewestTurns 32 = .ok (.bipush (-4), 2) := by decide +kernel
theorem dX0_fewestTurns_34 : decode cX0_fewestTurns 34 = .ok (.if_icmp .ne 6, 3) := by decide +kernel
theorem dX0_fewestTurns_37 : decode cX0_fewestTurns 37 = .ok (.bipush (-4), 2) := by decide +kernel
theorem dX0_fewestTurns_39 : decode cX0_fewestTurns 39 = .ok (.ireturn, 1) := by decide +kernel
theorem dX0_fewestTurns_40 : decode cX0_fewestTurns 40 = .ok (.iload_n 2, 1) := by decide +kernel
theorem dX0_fewestTurns_41 : decode cX0_fewestTurns 41 = .ok (.iconst 1, 1) := by decide +kernel
theorem dX0_fewestTurns_42 : decode cX0_fewestTurns 42 = .ok (.iload 4, 2) := by decide +kernel
theorem dX0_fewestTurns_44 : decode cX0_fewestTurns 44 = .ok (.ishl, 1) := by decide +kernel
theorem dX0_fewestTurns_45 : decode cX0_fewestTurns 45 = .ok (.ior, 1) := by decide +kernel
theorem dX0_fewestTurns_46 : decode cX0_fewestTurns 46 = .ok (.istore_n 2, 1) := by decide +kernel
theorem dX0_fewestTurns_47 : decode cX0_fewestTurns 47 = .ok (.iload_n 1, 1) := by decide +kernel
theorem dX0_fewestTurns_48 : decode cX0_fewestTurns 48 = .ok (.aload_n 0, 1) := by decide +kernel
theorem dX0_fewestTurns_49 : decode cX0_fewestTurns 49 = .ok (.getfield 13, 3) := by decide +kernel
theorem dX0_fewestTurns_52 : decode cX0_fewestTurns 52 = .ok (.iload 4, 2) := by decide +kernel
theorem dX0_fewestTurns_54 : decode cX0_fewestTurns 54 = .ok (.aaload, 1) := by decide +kernel
theorem dX0_fewestTurns_55 : decode cX0_fewestTurns 55 = .ok (.invokevirtual 175, 3) := by decide +kernel
theorem dX0_fewestTurns_58 : decode cX0_fewestTurns 58 = .ok (.isub, 1) := by decide +kernel
theorem dX0_fewestTurns_59 : decode cX0_fewestTurns 59 = .ok (.istore_n 1, 1) := by decide +kernel
theorem dX0_fewestTurns_60 : decode cX0_fewestTurns 60 = .ok (.iinc 3 1, 3) := by decide +kernel
theorem dX0_fewestTurns_63 : decode cX0_fewestTurns 63 = .ok (.goto (-54), 3) := by decide +kernel
theorem dX0_fewestTurns_66 : decode cX0_fewestTurns 66 = .ok (.bipush (-4), 2) := by decide +kernel
theorem dX0_fewestTurns_68 : decode cX0_fewestTurns 68 = .ok (.ireturn, 1) := by decide +kernel
def L_X0_fewestTurns_9 : Nat → Nat → Int32 → Int32 → Int32 → Mem → Option Int32
  | 0, _, _, _, _, _ => none
  | n + 1, a0, x1, x2, x3, M => if (mI M a0 1) < x3 then some (-4 : Int32) else if 0 < x1 then (f_X0_mostFalling a0 x2 M).bind fun q9 => if q9 = (-4 : Int32) then some (-4 : Int32) else gd (inR q9 30) (L_X0_fewestTurns_9 n a0 (x1 - (f_X1_marginFall ((a0 + 1) + 23 + 2 * q9.toNatClampNeg) M)) (x2 ||| ((1 : Int32) <<< (q9 &&& 31))) (x3 + 1) M) else some x3
def f_X0_fewestTurns (a0 : Nat) (M : Mem) : Option Int32 := (f_X0_writtenMargin a0 M).bind fun q3 => L_X0_fewestTurns_9 FU a0 q3 (0 : Int32) (0 : Int32) M
set_option maxRecDepth 100000 in
set_option maxHeartbeats 4000000 in
theorem l_X0_fewestTurns_9 (Z : Sys) (X : Cx) (hR : xR X = rm_X0_fewestTurns) {q : Int32} {M : Mem} (hq : RetOk Z X (some .int) False (PostI q M) 0 0) : ∀ (n : Nat) (a0 : Nat) (x1 : Int32) (x2 : Int32) (x3 : Int32) (hs : St M) (k_a0 : K0[a0]? = some (0, 12)) (hf : L_X0_fewestTurns_9 n a0 x1 x2 x3 M = some q), G Z X Y_X0_fewestTurns False 0 0 9 [(0, .ref (zs Z + a0)), (1, .int x1), (2, .int x2), (3, .int x3)] [] M := by
  intro n
  induction n with
  | zero => intro a0 x1 x2 x3 hs k_a0 hf; cases hf
  | succ n ih =>
    intro a0 x1 x2 x3 hs k_a0 hf
    unfold L_X0_fewestTurns_9 at hf
    refine G.iload_n 9 3 dX0_fewestTurns_9 rfl rfl ?_
    refine G.aload_n 10 0 dX0_fewestTurns_10 rfl rfl ?_
    refine G.geti 11 ck_0 1 (hs.k k_a0) (by decide) (by decide +kernel) wd_261 dX0_fewestTurns_11 ?_
    refine G.icmp_gt 14 66 dX0_fewestTurns_14 (by decide) (fun h5 => ?_) (fun h5 => ?_)
    · replace hf := (if_pos h5).symm.trans hf
      refine G.bipush 66 (-4 : Int32) dX0_fewestTurns_66 (by decide +kernel) ?_
      (have hf9 := Option.some.inj hf; subst hf9)
      exact G.rI 68 hq dX0_fewestTurns_68 hs
    · replace hf := (if_neg h5).symm.trans hf
      refine G.iload_n 17 1 dX0_fewestTurns_17 rfl rfl ?_
      refine G.if_gt 18 23 dX0_fewestTurns_18 (by decide) (fun h6 => ?_) (fun h6 => ?_)
      · replace hf := (if_pos h6).symm.trans hf
        refine G.aload_n 23 0 dX0_fewestTurns_23 rfl rfl ?_
        refine G.iload_n 24 2 dX0_fewestTurns_24 rfl rfl ?_
        obtain ⟨q9, e10, hf⟩ := bd_e hf
        refine G.cvI 25 (As := [.int x2]) ck_0 (hs.k k_a0) (c_X0_mostFalling Z hs a0 x2 k_a0 e10) mk_X0_mostFalling vk_X0_mostFalling rfl wd_777 hR (by decide +kernel) ⟨rfl, rfl⟩ rfl (Nat.le_of_ble_eq_true rfl) dX0_fewestTurns_25 (fun hs7 => ?_)
        refine G.istore 28 [(4, .int q9), (0, .ref (zs Z + a0)), (1, .int x1), (2, .int x2), (3, .int x3)] dX0_fewestTurns_28 (Nat.le_of_ble_eq_true rfl) rfl ?_
        refine G.iload 30 0 dX0_fewestTurns_30 rfl ?_
        refine G.bipush 32 (-4 : Int32) dX0_fewestTurns_32 (by decide +kernel) ?_
        refine G.icmp_ne 34 40 dX0_fewestTurns_34 (by decide) (fun h11 => ?_) (fun h11 => ?_)
        · replace hf := (if_neg h11).symm.trans hf
          refine G.iload_n 40 3 dX0_fewestTurns_40 rfl rfl ?_
          refine G.iconst 41 (1 : Int32) dX0_fewestTurns_41 (by decide +kernel) ?_
          refine G.iload 42 0 dX0_fewestTurns_42 rfl ?_
          refine G.ishl 44 dX0_fewestTurns_44 ?_
          refine G.ior 45 dX0_fewestTurns_45 ?_
          refine G.istore_n 46 [(2, .int (x2 ||| ((1 : Int32) <<< (q9 &&& 31)))), (4, .int q9), (0, .ref (zs Z + a0)), (1, .int x1), (3, .int x3)] dX0_fewestTurns_46 rfl (Nat.le_of_ble_eq_true rfl) rfl ?_
          refine G.iload_n 47 3 dX0_fewestTurns_47 rfl rfl ?_
          refine G.aload_n 48 2 dX0_fewestTurns_48 rfl rfl ?_
          refine G.getp 49 ck_0 0 (a0 + 1) (hs7.k k_a0) (pt_0_0 hs7 k_a0).1 (by decide) (by decide +kernel) wd_257 dX0_fewestTurns_49 ?_
          refine G.iload 52 1 dX0_fewestTurns_52 rfl ?_
          obtain ⟨g12, hf⟩ := gd_e hf
          refine G.aa 54 q9.toNatClampNeg ((a0 + 1) + 23 + 2 * q9.toNatClampNeg) (hs7.k (pt_0_0 hs7 k_a0).2) (by decide) rfl rfl g12 rfl (pa_13 hs7 (pt_0_0 hs7 k_a0).2 (inlt g12)).1 dX0_fewestTurns_54 ?_
          refine G.cvI 55 (As := []) ck_1 (hs7.k (pa_13 hs7 (pt_0_0 hs7 k_a0).2 (inlt g12)).2) (c_X1_marginFall Z hs7 ((a0 + 1) + 23 + 2 * q9.toNatClampNeg) (pa_13 hs7 (pt_0_0 hs7 k_a0).2 (inlt g12)).2 rfl) mk_X1_marginFall vk_X1_marginFall rfl wd_781 hR (by decide +kernel) ⟨rfl, rfl⟩ rfl (Nat.le_of_ble_eq_true rfl) dX0_fewestTurns_55 (fun hs13 => ?_)
          refine G.isub 58 dX0_fewestTurns_58 ?_
          refine G.istore_n 59 [(1, .int (x1 - (f_X1_marginFall ((a0 + 1) + 23 + 2 * q9.toNatClampNeg) M))), (2, .int (x2 ||| ((1 : Int32) <<< (q9 &&& 31)))), (4, .int q9), (0, .ref (zs Z + a0)), (3, .int x3)] dX0_fewestTurns_59 rfl (Nat.le_of_ble_eq_true rfl) rfl ?_
          refine G.iinc 60 4 (x3 + 1) [(3, .int (x3 + 1)), (1, .int (x1 - (f_X1_marginFall ((a0 + 1) + 23 + 2 * q9.toNatClampNeg) M))), (2, .int (x2 ||| ((1 : Int32) <<< (q9 &&& 31)))), (4, .int q9), (0, .ref (zs Z + a0))] dX0_fewestTurns_60 rfl (congrArg (fun z => x3 + z) (by decide +kernel)) (Nat.le_of_ble_eq_true rfl) rfl ?_
          refine G.goto 63 9 dX0_fewestTurns_63 (by decide) ?_
          refine G.locs [4, 1, 2, 0] rfl ?_
          exact ih a0 (x1 - (f_X1_marginFall ((a0 + 1) + 23 + 2 * q9.toNatClampNeg) M)) (x2 ||| ((1 : Int32) <<< (q9 &&& 31))) (x3 + 1) hs13 k_a0 hf
        · replace hf := (if_pos h11).symm.trans hf
          refine G.bipush 37 (-4 : Int32) dX0_fewestTurns_37 (by decide +kernel) ?_
          (have hf9 := Option.some.inj hf; subst hf9)
          exact G.rI 39 hq dX0_fewestTurns_39 hs7
      · replace hf := (if_neg h6).symm.trans hf
        refine G.iload_n 21 3 dX0_fewestTurns_21 rfl rfl ?_
        (have hf9 := Option.some.inj hf; subst hf9)
        exact G.rI 22 hq dX0_fewestTurns_22 hs
set_option maxRecDepth 100000 in
set_option maxHeartbeats 4000000 in
theorem c_X0_fewestTurns (Z : Sys) {M : Mem} (hs : St M) (a0 : Nat) (k_a0 : K0[a0]? = some (0, 12)) {q : Int32} (hf : f_X0_fewestTurns a0 M = some q) : Ct Z yX0_fewestTurns cX0_fewestTurns 5 (some .int) rm_X0_fewestTurns [.ref (zs Z + a0)] M False (PostI q M) := by
  refine Ct.of (by decide +kernel) (Nat.le_of_ble_eq_true rfl) (fun X hR hq _ => ?_)
  show G Z X Y_X0_fewestTurns False 0 0 0 [(0, .ref (zs Z + a0))] [] M
  replace hq : RetOk Z X (some .int) False (PostI q M) 0 0 := hq
  unfold f_X0_fewestTurns at hf
  refine G.aload_n 0 0 dX0_fewestTurns_0 rfl rfl ?_
  obtain ⟨q3, e4, hf⟩ := bd_e hf
  refine G.cvI 1 (As := []) ck_0 (hs.k k_a0) (c_X0_writtenMargin Z hs a0 k_a0 e4) mk_X0_writtenMargin vk_X0_writtenMargin rfl wd_776 hR (by decide +kernel) ⟨rfl, rfl⟩ rfl (Nat.le_of_ble_eq_true rfl) dX0_fewestTurns_1 (fun hs1 => ?_)
  refine G.istore_n 4 [(1, .int q3), (0, .ref (zs Z + a0))] dX0_fewestTurns_4 rfl (Nat.le_of_ble_eq_true rfl) rfl ?_
  refine G.iconst 5 (0 : Int32) dX0_fewestTurns_5 (by decide +kernel) ?_
  refine G.istore_n 6 [(2, .int (0 : Int32)), (1, .int q3), (0, .ref (zs Z + a0))] dX0_fewestTurns_6 rfl (Nat.le_of_ble_eq_true rfl) rfl ?_
  refine G.iconst 7 (0 : Int32) dX0_fewestTurns_7 (by decide +kernel) ?_
  refine G.istore_n 8 [(3, .int (0 : Int32)), (2, .int (0 : Int32)), (1, .int q3), (0, .ref (zs Z + a0))] dX0_fewestTurns_8 rfl (Nat.le_of_ble_eq_true rfl) rfl ?_
  refine G.locs [3, 2, 1, 0] rfl ?_
  exact l_X0_fewestTurns_9 Z X hR hq FU a0 q3 (0 : Int32) (0 : Int32) hs1 k_a0 hf
abbrev Y_X0_figureCount : My := (cX0_figureCount, RX0, 3)
def rm_X0_figureCount : Room := { frames := 3, cells := 0, slots := 0, locals := 247 }
theorem dX0_figureCount_0 : decode cX0_figureCount 0 = .ok (.aload_n 0, 1) := by decide +kernel
theorem dX0_figureCount_1 : decode cX0_figureCount 1 = .ok (.iload_n 2, 1) := by decide +kernel
theorem dX0_figureCount_2 : decode cX0_figureCount 2 = .ok (.invokevirtual 92, 3) := by decide +kernel
theorem dX0_figureCount_5 : decode cX0_figureCount 5 = .ok (.pop, 1) := by decide +kernel
theorem dX0_figureCount_6 : decode cX0_figureCount 6 = .ok (.aload_n 0, 1) := by decide +kernel
theorem dX0_figureCount_7 : decode cX0_figureCount 7 = .ok (.getfield 46, 3) := by decide +kernel
theorem dX0_figureCount_10 : decode cX0_figureCount 10 = .ok (.iload_n 1, 1) := by decide +kernel
theorem dX0_figureCount_11 : decode cX0_figureCount 11 = .ok (.iaload, 1) := by decide +kernel
theorem dX0_figureCount_12 : decode cX0_figureCount 12 = .ok (.ireturn, 1) := by decide +kernel
def f_X0_figureCount (a0 : Nat) (x1 : Int32) (x2 : Int32) (M : Mem) : Option (Int32 × Mem) := (f_X0_countFigures a0 x2 M).bind fun q3 => gd (inR x1 10) (some ((mI q3.2 (a0 + 22) x1.toNatClampNeg), q3.2))
set_option maxRecDepth 100000 in
set_option maxHeartbeats 4000000 in
theorem c_X0_figureCount (Z : Sys) {M : Mem} (hs : St M) (a0 : Nat) (x1 : Int32) (x2 : Int32) (k_a0 : K0[a0]? = some (0, 12)) {q : Int32 × Mem} (hf : f_X0_figureCount a0 x1 x2 M = some q) : Ct Z yX0_figureCount cX0_figureCount 3 (some .int) rm_X0_figureCount [.ref (zs Z + a0), .int x1, .int x2] M False (PostI q.1 q.2) := by
  refine Ct.of (by decide +kernel) (Nat.le_of_ble_eq_true rfl) (fun X hR hq _ => ?_)
  show G Z X Y_X0_figureCount False 0 0 0 [(0, .ref (zs Z + a0)), (1, .int x1), (2, .int x2)] [] M
  replace hq : RetOk Z X (some .int) False (PostI q.1 q.2) 0 0 := hq
  unfold f_X0_figureCount at hf
  refine G.aload_n 0 0 dX0_figureCount_0 rfl rfl ?_
  refine G.iload_n 1 2 dX0_figureCount_1 rfl rfl ?_
  obtain ⟨q3, e4, hf⟩ := bd_e hf
  refine G.cvI 2 (As := [.int x2]) ck_0 (hs.k k_a0) (c_X0_countFigures Z hs a0 x2 k_a0 e4) mk_X0_countFigures vk_X0_countFigures rfl wd_556 hR (by decide +kernel) ⟨rfl, rfl⟩ rfl (Nat.le_of_ble_eq_true rfl) dX0_figureCount_2 (fun hs1 => ?_)
  refine G.pop 5 dX0_figureCount_5 rfl ?_
  refine G.aload_n 6 0 dX0_figureCount_6 rfl rfl ?_
  refine G.getp 7 ck_0 10 (a0 + 22) (hs1.k k_a0) (pt_0_10 hs1 k_a0).1 (by decide) (by decide +kernel) wd_278 dX0_figureCount_7 ?_
  refine G.iload_n 10 1 dX0_figureCount_10 rfl rfl ?_
  obtain ⟨g5, hf⟩ := gd_e hf
  refine G.ia 11 x1.toNatClampNeg (hs1.k (pt_0_10 hs1 k_a0).2) g5 rfl dX0_figureCount_11 ?_
  (have hf9 := Option.some.inj hf; subst hf9)
  exact G.rI 12 hq dX0_figureCount_12 hs1
abbrev Y_X8_shareOf : My := (cX8_shareOf, RX8, 2)
def rm_X8_shareOf : Room := { frames := 1, cells := 0, slots := 0, locals := 200 }
theorem dX8_shareOf_0 : decode cX8_shareOf 0 = .ok (.iload_n 0, 1) := by decide +kernel
theorem dX8_shareOf_1 : decode cX8_shareOf 1 = .ok (.ifCond .ne 7, 3) := by decide +kernel
theorem dX8_shareOf_4 : decode cX8_shareOf 4 = .ok (.iconst 0, 1) := by decide +kernel
theorem dX8_shareOf_5 : decode cX8_shareOf 5 = .ok (.goto 9, 3) := by decide +kernel
theorem dX8_shareOf_8 : decode cX8_shareOf 8 = .ok (.iload_n 1, 1) := by decide +kernel
theorem dX8_shareOf_9 : decode cX8_shareOf 9 = .ok (.bipush 100, 2) := by decide +kernel
theorem dX8_shareOf_11 : decode cX8_shareOf 11 = .ok (.imul, 1) := by decide +kernel
theorem dX8_shareOf_12 : decode cX8_shareOf 12 = .ok (.iload_n 0, 1) := by decide +kernel
theorem dX8_shareOf_13 : decode cX8_shareOf 13 = .ok (.idiv, 1) := by decide +kernel
theorem dX8_shareOf_14 : decode cX8_shareOf 14 = .ok (.ireturn, 1) := by decide +kernel
def f_X8_shareOf (x0 : Int32) (x1 : Int32) : Option Int32 := if x0 = 0 then some (0 : Int32) else gd (¬ x0 = 0) (some ((x1 * (100 : Int32)) / x0))
set_option maxRecDepth 100000 in
set_option maxHeartbeats 4000000 in
theorem c_X8_shareOf (Z : Sys) {M : Mem} (hs : St M) (x0 : Int32) (x1 : Int32) {q : Int32} (hf : f_X8_shareOf x0 x1 = some q) : Ct Z yX8_shareOf cX8_shareOf 2 (some .int) rm_X8_shareOf [.int x0, .int x1] M False (PostI q M) := by
  refine Ct.of (by decide +kernel) (Nat.le_of_ble_eq_true rfl) (fun X hR hq _ => ?_)
  show G Z X Y_X8_shareOf False 0 0 0 [(0, .int x0), (1, .int x1)] [] M
  replace hq : RetOk Z X (some .int) False (PostI q M) 0 0 := hq
  unfold f_X8_shareOf at hf
  refine G.iload_n 0 0 dX8_shareOf_0 rfl rfl ?_
  refine G.if_ne 1 8 dX8_shareOf_1 (by decide) (fun h1 => ?_) (fun h1 => ?_)
  · replace hf := (if_neg h1).symm.trans hf
    refine G.iload_n 8 1 dX8_shareOf_8 rfl rfl ?_
    refine G.bipush 9 (100 : Int32) dX8_shareOf_9 (by decide +kernel) ?_
    refine G.imul 11 dX8_shareOf_11 ?_
    refine G.iload_n 12 0 dX8_shareOf_12 rfl rfl ?_
    obtain ⟨g2, hf⟩ := gd_e hf
    refine G.idiv 13 dX8_shareOf_13 g2 ?_
    (have hf9 := Option.some.inj hf; subst hf9)
    exact G.rI 14 hq dX8_shareOf_14 hs
  · replace hf := (if_pos h1).symm.trans hf
    refine G.iconst 4 (0 : Int32) dX8_shareOf_4 (by decide +kernel) ?_
    refine G.goto 5 14 dX8_shareOf_5 (by decide) ?_
    (have hf9 := Option.some.inj hf; subst hf9)
    exact G.rI 14 hq dX8_shareOf_14 hs
abbrev Y_X1_share : My := (cX1_share, RX1, 1)
def rm_X1_share : Room := { frames := 2, cells := 0, slots := 0, locals := 221 }
theorem dX1_share_0 : decode cX1_share 0 = .ok (.aload_n 0, 1) := by decide +kernel
theorem dX1_share_1 : decode cX1_share 1 = .ok (.getfield 57, 3) := by decide +kernel
theorem dX1_share_4 : decode cX1_share 4 = .ok (.aload_n 0, 1) := by decide +kernel
theorem dX1_share_5 : decode cX1_share 5 = .ok (.getfield 60, 3) := by decide +kernel
theorem dX1_share_8 : decode cX1_share 8 = .ok (.invokestatic 71, 3) := by decide +kernel
theorem dX1_share_11 : decode cX1_share 11 = .ok (.ireturn, 1) := by decide +kernel
def f_X1_share (a0 : Nat) (M : Mem) : Option Int32 := (f_X8_shareOf (mI M a0 10) (mI M a0 11)).bind fun q3 => some q3
set_option maxRecDepth 100000 in
set_option maxHeartbeats 4000000 in
theorem c_X1_share (Z : Sys) {M : Mem} (hs : St M) (a0 : Nat) (k_a0 : K0[a0]? = some (1, 12)) {q : Int32} (hf : f_X1_share a0 M = some q) : Ct Z yX1_share cX1_share 1 (some .int) rm_X1_share [.ref (zs Z + a0)] M False (PostI q M) := by
  refine Ct.of (by decide +kernel) (Nat.le_of_ble_eq_true rfl) (fun X hR hq _ => ?_)
  show G Z X Y_X1_share False 0 0 0 [(0, .ref (zs Z + a0))] [] M
  replace hq : RetOk Z X (some .int) False (PostI q M) 0 0 := hq
  unfold f_X1_share at hf
  refine G.aload_n 0 0 dX1_share_0 rfl rfl ?_
  refine G.geti 1 ck_1 10 (hs.k k_a0) (by decide) (by decide +kernel) wd_224 dX1_share_1 ?_
  refine G.aload_n 4 0 dX1_share_4 rfl rfl ?_
  refine G.geti 5 ck_1 11 (hs.k k_a0) (by decide) (by decide +kernel) wd_228 dX1_share_5 ?_
  obtain ⟨q3, e4, hf⟩ := bd_e hf
  refine G.cnI 8 (As := [.int (mI M a0 10), .int (mI M a0 11)]) (c_X8_shareOf Z hs (mI M a0 10) (mI M a0 11) e4) mk_X8_shareOf wd_499 wd_498 hR (by decide +kernel) ⟨rfl, rfl⟩ rfl (Nat.le_of_ble_eq_true rfl) dX1_share_8 (fun hs1 => ?_)
  (have hf9 := Option.some.inj hf; subst hf9)
  exact G.rI 11 hq dX1_share_11 hs1
abbrev Y_X0_hasHighKin : My := (cX0_hasHighKin, RX0, 4)
def rm_X0_hasHighKin : Room := { frames := 3, cells := 0, slots := 0, locals := 241 }
theorem dX0_hasHighKin_0 : decode cX0_hasHighKin 0 = .ok (.iconst 0, 1) := by decide +kernel
theorem dX0_hasHighKin_1 : decode cX0_hasHighKin 1 = .ok (.istore_n 2, 1) := by decide +kernel
theorem dX0_hasHighKin_2 : decode cX0_hasHighKin 2 = .ok (.iload_n 2, 1) := by decide +kernel
theorem dX0_hasHighKin_3 : decode cX0_hasHighKin 3 = .ok (.aload_n 0, 1) := by decide +kernel
theorem dX0_hasHighKin_4 : decode cX0_hasHighKin 4 = .ok (.getfield 53, 3) := by decide +kernel
theorem dX0_hasHighKin_7 : decode cX0_hasHighKin 7 = .ok (.if_icmp .ge 55, 3) := by decide +kernel
theorem dX0_hasHighKin_10 : decode cX0_hasHighKin 10 = .ok (.aload_n 0, 1) := by decide +kernel
theorem dX0_hasHighKin_11 : decode cX0_hasHighKin 11 = .ok (.getfield 13, 3) := by decide +kernel
theorem dX0_hasHighKin_14 : decode cX0_hasHighKin 14 = .ok (.iload_n 2, 1) := by decide +kernel
theorem dX0_hasHighKin_15 : decode cX0_hasHighKin 15 = .ok (.aaload, 1) := by decide +kernel
theorem dX0_hasHighKin_16 : decode cX0_hasHighKin 16 = .ok (.astore_n 3, 1) := by decide +kernel
theorem dX0_hasHighKin_17 : decode cX0_hasHighKin 17 = .ok (.iload_n 2, 1) := by decide +kernel
theorem dX0_hasHighKin_18 : decode cX0_hasHighKin 18 = .ok (.iload_n 1, 1) := by decide +kernel
theorem dX0_hasHighKin_19 : decode cX0_hasHighKin 19 = .ok (.if_icmp .eq 37, 3) := by decide +kernel
theorem dX0_hasHighKin_22 : decode cX0_hasHighKin 22 = .ok (.aload_n 3, 1) := by decide +kernel
theorem dX0_hasHighKin_23 : decode cX0_hasHighKin 23 = .ok (.getfield 78, 3) := by decide +kernel
theorem dX0_hasHighKin_26 : decode cX0_hasHighKin 26 = .ok (.ifCond .ne 30, 3) := by decide +kernel
theorem dX0_hasHighKin_29 : decode cX0_hasHighKin 29 = .ok (.aload_n 3, 1) := by decide +kernel
theorem dX0_hasHighKin_30 : decode cX0_hasHighKin 30 = .ok (.getfield 128, 3) := by decide +kernel
theorem dX0_hasHighKin_33 : decode cX0_hasHighKin 33 = .ok (.aload_n 0, 1) := by decide +kernel
theorem dX0_hasHighKin_34 : decode cX0_hasHighKin 34 = .ok (.getfield 13, 3) := by decide +kernel
theorem dX0_hasHighKin_37 : decode cX0_hasHighKin 37 = .ok (.iload_n 1, 1) := by decide +kernel
theorem dX0_hasHighKin_38 : decode cX0_hasHighKin 38 = .ok (.aaload, 1) := by decide +kernel
theorem dX0_hasHighKin_39 : decode cX0_hasHighKin 39 = .ok (.getfield 128, 3) := by decide +kernel
theorem dX0_hasHighKin_42 : decode cX0_hasHighKin 42 = .ok (.if_icmp .ne 14, 3) := by decide +kernel
theorem dX0_hasHighKin_45 : decode cX0_hasHighKin 45 = .ok (.aload_n 3, 1) := by decide +kernel
theorem dX0_hasHighKin_46 : decode cX0_hasHighKin 46 = .ok (.invokevirtual 125, 3) := by decide +kernel
theorem dX0_hasHighKin_49 : decode cX0_hasHighKin 49 = .ok (.bipush 95, 2) := by decide +kernel
theorem dX0_hasHighKin_51 : decode cX0_hasHighKin 51 = .ok (.if_icmp .lt 5, 3) := by decide +kernel
theorem dX0_hasHighKin_54 : decode cX0_hasHighKin 54 = .ok (.iconst 1, 1) := by decide +kernel
theorem dX0_hasHighKin_55 : decode cX0_hasHighKin 55 = .ok (.ireturn, 1) := by decide +kernel
theorem dX0_hasHighKin_56 : decode cX0_hasHighKin 56 = .ok (.iinc 2 1, 3) := by decide +kernel
theorem dX0_hasHighKin_59 : decode cX0_hasHighKin 59 = .ok (.goto (-57), 3) := by decide +kernel
theorem dX0_hasHighKin_62 : decode cX0_hasHighKin 62 = .ok (.iconst 0, 1) := by decide +kernel
theorem dX0_hasHighKin_63 : decode cX0_hasHighKin 63 = .ok (.ireturn, 1) := by decide +kernel
def B_X0_hasHighKin_56 (rc_2 : Nat → Int32 → Int32 → Mem → Option Int32) (a0 : Nat) (x1 : Int32) (x2 : Int32) (M : Mem) : Option Int32 := rc_2 a0 x1 (x2 + 1) M
def L_X0_hasHighKin_2 : Nat → Nat → Int32 → Int32 → Mem → Option Int32
  | 0, _, _, _, _ => none
  | n + 1, a0, x1, x2, M => if (mI M a0 1) ≤ x2 then some (0 : Int32) else gd (inR x2 30) (if x2 = x1 then B_X0_hasHighKin_56 (L_X0_hasHighKin_2 n) a0 x1 x2 M else if (mI M ((a0 + 1) + 23 + 2 * x2.toNatClampNeg) 9) = 0 then gd (inR x1 30) (if (mI M ((a0 + 1) + 23 + 2 * x2.toNatClampNeg) 3) = (mI M ((a0 + 1) + 23 + 2 * x1.toNatClampNeg) 3) then (f_X1_share ((a0 + 1) + 23 + 2 * x2.toNatClampNeg) M).bind fun q9 => if q9 < (95 : Int32) then B_X0_hasHighKin_56 (L_X0_hasHighKin_2 n) a0 x1 x2 M else some (1 : Int32) else B_X0_hasHighKin_56 (L_X0_hasHighKin_2 n) a0 x1 x2 M) else B_X0_hasHighKin_56 (L_X0_hasHighKin_2 n) a0 x1 x2 M)
def f_X0_hasHighKin (a0 : Nat) (x1 : Int32) (M : Mem) : Option Int32 := L_X0_hasHighKin_2 FU a0 x1 (0 : Int32) M
set_option maxRecDepth 100000 in
set_option maxHeartbeats 4000000 in
theorem b_X0_hasHighKin_56 (Z : Sys) (X : Cx) (hR : xR X = rm_X0_hasHighKin) {q : Int32} {M : Mem} (hq : RetOk Z X (some .boolean) False (PostZ q M) 0 0) (rc_2 : Nat → Int32 → Int32 → Mem → Option Int32) (hrc_2 : ∀ (a0 : Nat) (x1 : Int32) (x2 : Int32), St M → K0[a0]? = some (0, 12) → rc_2 a0 x1 x2 M = some q → G Z X Y_X0_hasHighKin False 0 0 2 [(0, .ref (zs Z + a0)), (1, .int x1), (2, .int x2)] [] M) (a0 : Nat) (x1 : Int32) (x2 : Int32) (hs : St M) (k_a0 : K0[a0]? = some (0, 12)) (hf : B_X0_hasHighKin_56 rc_2 a0 x1 x2 M = some q) : G Z X Y_X0_hasHighKin False 0 0 56 [(0, .ref (zs Z + a0)), (1, .int x1), (2, .int x2)] [] M := by
  unfold B_X0_hasHighKin_56 at hf
  refine G.iinc 56 2 (x2 + 1) [(2, .int (x2 + 1)), (0, .ref (zs Z + a0)), (1, .int x1)] dX0_hasHighKin_56 rfl (congrArg (fun z => x2 + z) (by decide +kernel)) (Nat.le_of_ble_eq_true rfl) rfl ?_
  refine G.goto 59 2 dX0_hasHighKin_59 (by decide) ?_
  refine G.locs [1, 2, 0] rfl ?_
  exact hrc_2 a0 x1 (x2 + 1) hs k_a0 hf
set_option maxRecDepth 100000 in
set_option maxHeartbeats 4000000 in
theorem l_X0_hasHighKin_2 (Z : Sys) (X : Cx) (hR : xR X = rm_X0_hasHighKin) {q : Int32} {M : Mem} (hq : RetOk Z X (some .boolean) False (PostZ q M) 0 0) : ∀ (n : Nat) (a0 : Nat) (x1 : Int32) (x2 : Int32) (hs : St M) (k_a0 : K0[a0]? = some (0, 12)) (hf : L_X0_hasHighKin_2 n a0 x1 x2 M = some q), G Z X Y_X0_hasHighKin False 0 0 2 [(0, .ref (zs Z + a0)), (1, .int x1), (2, .int x2)] [] M := by
  intro n
  induction n with
  | zero => intro a0 x1 x2 hs k_a0 hf; cases hf
  | succ n ih =>
    intro a0 x1 x2 hs k_a0 hf
    unfold L_X0_hasHighKin_2 at hf
    refine G.iload_n 2 2 dX0_hasHighKin_2 rfl rfl ?_
    refine G.aload_n 3 0 dX0_hasHighKin_3 rfl rfl ?_
    refine G.geti 4 ck_0 1 (hs.k k_a0) (by decide) (by decide +kernel) wd_261 dX0_hasHighKin_4 ?_
    refine G.icmp_ge 7 62 dX0_hasHighKin_7 (by decide) (fun h1 => ?_) (fun h1 => ?_)
    · replace hf := (if_pos h1).symm.trans hf
      refine G.iconst 62 (0 : Int32) dX0_hasHighKin_62 (by decide +kernel) ?_
      (have hf9 := Option.some.inj hf; subst hf9)
      exact G.rZ 63 hq dX0_hasHighKin_63 hs (Or.inl rfl)
    · replace hf := (if_neg h1).symm.trans hf
      refine G.aload_n 10 0 dX0_hasHighKin_10 rfl rfl ?_
      refine G.getp 11 ck_0 0 (a0 + 1) (hs.k k_a0) (pt_0_0 hs k_a0).1 (by decide) (by decide +kernel) wd_257 dX0_hasHighKin_11 ?_
      refine G.iload_n 14 2 dX0_hasHighKin_14 rfl rfl ?_
      obtain ⟨g2, hf⟩ := gd_e hf
      refine G.aa 15 x2.toNatClampNeg ((a0 + 1) + 23 + 2 * x2.toNatClampNeg) (hs.k (pt_0_0 hs k_a0).2) (by decide) rfl rfl g2 rfl (pa_13 hs (pt_0_0 hs k_a0).2 (inlt g2)).1 dX0_hasHighKin_15 ?_
      refine G.astore_n 16 [(3, .ref (zs Z + ((a0 + 1) + 23 + 2 * x2.toNatClampNeg))), (0, .ref (zs Z + a0)), (1, .int x1), (2, .int x2)] dX0_hasHighKin_16 rfl (Nat.le_of_ble_eq_true rfl) rfl ?_
      refine G.iload_n 17 3 dX0_hasHighKin_17 rfl rfl ?_
      refine G.iload_n 18 2 dX0_hasHighKin_18 rfl rfl ?_
      refine G.icmp_eq 19 56 dX0_hasHighKin_19 (by decide) (fun h3 => ?_) (fun h3 => ?_)
      · replace hf := (if_pos h3).symm.trans hf
        refine G.locs [1, 2, 3] rfl ?_
        exact b_X0_hasHighKin_56 Z X hR hq (L_X0_hasHighKin_2 n) ih a0 x1 x2 hs k_a0 hf
      · replace hf := (if_neg h3).symm.trans hf
        refine G.aload_n 22 0 dX0_hasHighKin_22 rfl rfl ?_
        refine G.geti 23 ck_1 9 (hs.k (pa_13 hs (pt_0_0 hs k_a0).2 (inlt g2)).2) (by decide) (by decide +kernel) wd_222 dX0_hasHighKin_23 ?_
        refine G.if_ne 26 56 dX0_hasHighKin_26 (by decide) (fun h4 => ?_) (fun h4 => ?_)
        · replace hf := (if_neg h4).symm.trans hf
          refine G.locs [1, 2, 3] rfl ?_
          exact b_X0_hasHighKin_56 Z X hR hq (L_X0_hasHighKin_2 n) ih a0 x1 x2 hs k_a0 hf
        · replace hf := (if_pos h4).symm.trans hf
          refine G.aload_n 29 0 dX0_hasHighKin_29 rfl rfl ?_
          refine G.geti 30 ck_1 3 (hs.k (pa_13 hs (pt_0_0 hs k_a0).2 (inlt g2)).2) (by decide) (by decide +kernel) wd_199 dX0_hasHighKin_30 ?_
          refine G.aload_n 33 1 dX0_hasHighKin_33 rfl rfl ?_
          refine G.getp 34 ck_0 0 (a0 + 1) (hs.k k_a0) (pt_0_0 hs k_a0).1 (by decide) (by decide +kernel) wd_257 dX0_hasHighKin_34 ?_
          refine G.iload_n 37 2 dX0_hasHighKin_37 rfl rfl ?_
          obtain ⟨g5, hf⟩ := gd_e hf
          refine G.aa 38 x1.toNatClampNeg ((a0 + 1) + 23 + 2 * x1.toNatClampNeg) (hs.k (pt_0_0 hs k_a0).2) (by decide) rfl rfl g5 rfl (pa_13 hs (pt_0_0 hs k_a0).2 (inlt g5)).1 dX0_hasHighKin_38 ?_
          refine G.geti 39 ck_1 3 (hs.k (pa_13 hs (pt_0_0 hs k_a0).2 (inlt g5)).2) (by decide) (by decide +kernel) wd_199 dX0_hasHighKin_39 ?_
          refine G.icmp_ne 42 56 dX0_hasHighKin_42 (by decide) (fun h6 => ?_) (fun h6 => ?_)
          · replace hf := (if_neg h6).symm.trans hf
            refine G.locs [1, 2, 3] rfl ?_
            exact b_X0_hasHighKin_56 Z X hR hq (L_X0_hasHighKin_2 n) ih a0 x1 x2 hs k_a0 hf
          · replace hf := (if_pos h6).symm.trans hf
            refine G.aload_n 45 0 dX0_hasHighKin_45 rfl rfl ?_
            obtain ⟨q9, e10, hf⟩ := bd_e hf
            refine G.cvI 46 (As := []) ck_1 (hs.k (pa_13 hs (pt_0_0 hs k_a0).2 (inlt g2)).2) (c_X1_share Z hs ((a0 + 1) + 23 + 2 * x2.toNatClampNeg) (pa_13 hs (pt_0_0 hs k_a0).2 (inlt g2)).2 e10) mk_X1_share vk_X1_share rfl wd_595 hR (by decide +kernel) ⟨rfl, rfl⟩ rfl (Nat.le_of_ble_eq_true rfl) dX0_hasHighKin_46 (fun hs7 => ?_)
            refine G.bipush 49 (95 : Int32) dX0_hasHighKin_49 (by decide +kernel) ?_
            refine G.icmp_lt 51 56 dX0_hasHighKin_51 (by decide) (fun h11 => ?_) (fun h11 => ?_)
            · replace hf := (if_pos h11).symm.trans hf
              refine G.locs [1, 2, 3] rfl ?_
              exact b_X0_hasHighKin_56 Z X hR hq (L_X0_hasHighKin_2 n) ih a0 x1 x2 hs7 k_a0 hf
            · replace hf := (if_neg h11).symm.trans hf
              refine G.iconst 54 (1 : Int32) dX0_hasHighKin_54 (by decide +kernel) ?_
              (have hf9 := Option.some.inj hf; subst hf9)
              exact G.rZ 55 hq dX0_hasHighKin_55 hs7 (Or.inr rfl)
set_option maxRecDepth 100000 in
set_option maxHeartbeats 4000000 in
theorem c_X0_hasHighKin (Z : Sys) {M : Mem} (hs : St M) (a0 : Nat) (x1 : Int32) (k_a0 : K0[a0]? = some (0, 12)) {q : Int32} (hf : f_X0_hasHighKin a0 x1 M = some q) : Ct Z yX0_hasHighKin cX0_hasHighKin 4 (some .boolean) rm_X0_hasHighKin [.ref (zs Z + a0), .int x1] M False (PostZ q M) := by
  refine Ct.of (by decide +kernel) (Nat.le_of_ble_eq_true rfl) (fun X hR hq _ => ?_)
  show G Z X Y_X0_hasHighKin False 0 0 0 [(0, .ref (zs Z + a0)), (1, .int x1)] [] M
  replace hq : RetOk Z X (some .boolean) False (PostZ q M) 0 0 := hq
  unfold f_X0_hasHighKin at hf
  refine G.iconst 0 (0 : Int32) dX0_hasHighKin_0 (by decide +kernel) ?_
  refine G.istore_n 1 [(2, .int (0 : Int32)), (0, .ref (zs Z + a0)), (1, .int x1)] dX0_hasHighKin_1 rfl (Nat.le_of_ble_eq_true rfl) rfl ?_
  refine G.locs [1, 2, 0] rfl ?_
  exact l_X0_hasHighKin_2 Z X hR hq FU a0 x1 (0 : Int32) hs k_a0 hf
abbrev Y_X0_highCount : My := (cX0_highCount, RX0, 3)
def rm_X0_highCount : Room := { frames := 3, cells := 0, slots := 0, locals := 241 }
theorem dX0_highCount_0 : decode cX0_highCount 0 = .ok (.iconst 0, 1) := by decide +kernel
theorem dX0_highCount_1 : decode cX0_highCount 1 = .ok (.istore_n 1, 1) := by decide +kernel
theorem dX0_highCount_2 : decode cX0_highCount 2 = .ok (.iconst 0, 1) := by decide +kernel
theorem dX0_highCount_3 : decode cX0_highCount 3 = .ok (.istore_n 2, 1) := by decide +kernel
theorem dX0_highCount_4 : decode cX0_highCount 4 = .ok (.iload_n 2, 1) := by decide +kernel
theorem dX0_highCount_5 : decode cX0_highCount 5 = .ok (.aload_n 0, 1) := by decide +kernel
theorem dX0_highCount_6 : decode cX0_highCount 6 = .ok (.getfield 53, 3) := by decide +kernel
theorem dX0_highCount_9 : decode cX0_highCount 9 = .ok (.if_icmp .ge 38, 3) := by decide +kernel
theorem dX0_highCount_12 : decode cX0_highCount 12 = .ok (.aload_n 0, 1) := by decide +kernel
theorem dX0_highCount_13 : decode cX0_highCount 13 = .ok (.getfield 13, 3) := by decide +kernel
theorem dX0_highCount_16 : decode cX0_highCount 16 = .ok (.iload_n 2, 1) := by decide +kernel
theorem dX0_highCount_17 : decode cX0_highCount 17 = .ok (.aaload, 1) := by decide +kernel
theorem dX0_highCount_18 : decode cX0_highCount 18 = .ok (.getfield 78, 3) := by decide +kernel
theorem dX0_highCount_21 : decode cX0_highCount 21 = .ok (.ifCond .ne 20, 3) := by decide +kernel
theorem dX0_highCount_24 : decode cX0_highCount 24 = .ok (.aload_n 0, 1) := by decide +kernel
theorem dX0_highCount_25 : decode cX0_highCount 25 = .ok (.getfield 13, 3) := by decide +kernel
theorem dX0_highCount_28 : decode cX0_highCount 28 = .ok (.iload_n 2, 1) := by decide +kernel
theorem dX0_highCount_29 : decode cX0_highCount 29 = .ok (.aaload, 1) := by decide +kernel
theorem dX0_highCount_30 : decode cX0_highCount 30 = .ok (.invokevirtual 125, 3) := by decide +kernel
theorem dX0_highCount_33 : decode cX0_highCount 33 = .ok (.bipush 95, 2) := by decide +kernel
theorem dX0_highCount_35 : decode cX0_highCount 35 = .ok (.if_icmp .lt 6, 3) := by decide +kernel
theorem dX0_highCount_38 : decode cX0_highCount 38 = .ok (.iinc 1 1, 3) := by decide +kernel
theorem dX0_highCount_41 : decode cX0_highCount 41 = .ok (.iinc 2 1, 3) := by decide +kernel
theorem dX0_highCount_44 : decode cX0_highCount 44 = .ok (.goto (-40), 3) := by decide +kernel
theorem dX0_highCount_47 : decode cX0_highCount 47 = .ok (.iload_n 1, 1) := by decide +kernel
theorem dX0_highCount_48 : decode cX0_highCount 48 = .ok (.ireturn, 1) := by decide +kernel
def B_X0_highCount_41 (rc_4 : Nat → Int32 → Int32 → Mem → Option Int32) (a0 : Nat) (x1 : Int32) (x2 : Int32) (M : Mem) : Option Int32 := rc_4 a0 x1 (x2 + 1) M
def L_X0_highCount_4 : Nat → Nat → Int32 → Int32 → Mem → Option Int32
  | 0, _, _, _, _ => none
  | n + 1, a0, x1, x2, M => if (mI M a0 1) ≤ x2 then some x1 else gd (inR x2 30) (if (mI M ((a0 + 1) + 23 + 2 * x2.toNatClampNeg) 9) = 0 then (f_X1_share ((a0 + 1) + 23 + 2 * x2.toNatClampNeg) M).bind fun q6 => if q6 < (95 : Int32) then B_X0_highCount_41 (L_X0_highCount_4 n) a0 x1 x2 M else B_X0_highCount_41 (L_X0_highCount_4 n) a0 (x1 + 1) x2 M else B_X0_highCount_41 (L_X0_highCount_4 n) a0 x1 x2 M)
def f_X0_highCount (a0 : Nat) (M : Mem) : Option Int32 := L_X0_highCount_4 FU a0 (0 : Int32) (0 : Int32) M
set_option maxRecDepth 100000 in
set_option maxHeartbeats 4000000 in
theorem b_X0_highCount_41 (Z : Sys) (X : Cx) (hR : xR X = rm_X0_highCount) {q : Int32} {M : Mem} (hq : RetOk Z X (some .int) False (PostI q M) 0 0) (rc_4 : Nat → Int32 → Int32 → Mem → Option Int32) (hrc_4 : ∀ (a0 : Nat) (x1 : Int32) (x2 : Int32), St M → K0[a0]? = some (0, 12) → rc_4 a0 x1 x2 M = some q → G Z X Y_X0_highCount False 0 0 4 [(0, .ref (zs Z + a0)), (1, .int x1), (2, .int x2)] [] M) (a0 : Nat) (x1 : Int32) (x2 : Int32) (hs : St M) (k_a0 : K0[a0]? = some (0, 12)) (hf : B_X0_highCount_41 rc_4 a0 x1 x2 M = some q) : G Z X Y_X0_highCount False 0 0 41 [(0, .ref (zs Z + a0)), (1, .int x1), (2, .int x2)] [] M := by
  unfold B_X0_highCount_41 at hf
  refine G.iinc 41 2 (x2 + 1) [(2, .int (x2 + 1)), (0, .ref (zs Z + a0)), (1, .int x1)] dX0_highCount_41 rfl (congrArg (fun z => x2 + z) (by decide +kernel)) (Nat.le_of_ble_eq_true rfl) rfl ?_
  refine G.goto 44 4 dX0_highCount_44 (by decide) ?_
  refine G.locs [1, 2, 0] rfl ?_
  exact hrc_4 a0 x1 (x2 + 1) hs k_a0 hf
set_option maxRecDepth 100000 in
set_option maxHeartbeats 4000000 in
theorem l_X0_highCount_4 (Z : Sys) (X : Cx) (hR : xR X = rm_X0_highCount) {q : Int32} {M : Mem} (hq : RetOk Z X (some .int) False (PostI q M) 0 0) : ∀ (n : Nat) (a0 : Nat) (x1 : Int32) (x2 : Int32) (hs : St M) (k_a0 : K0[a0]? = some (0, 12)) (hf : L_X0_highCount_4 n a0 x1 x2 M = some q), G Z X Y_X0_highCount False 0 0 4 [(0, .ref (zs Z + a0)), (1, .int x1), (2, .int x2)] [] M := by
  intro n
  induction n with
  | zero => intro a0 x1 x2 hs k_a0 hf; cases hf
  | succ n ih =>
    intro a0 x1 x2 hs k_a0 hf
    unfold L_X0_highCount_4 at hf
    refine G.iload_n 4 2 dX0_highCount_4 rfl rfl ?_
    refine G.aload_n 5 0 dX0_highCount_5 rfl rfl ?_
    refine G.geti 6 ck_0 1 (hs.k k_a0) (by decide) (by decide +kernel) wd_261 dX0_highCount_6 ?_
    refine G.icmp_ge 9 47 dX0_highCount_9 (by decide) (fun h1 => ?_) (fun h1 => ?_)
    · replace hf := (if_pos h1).symm.trans hf
      refine G.iload_n 47 1 dX0_highCount_47 rfl rfl ?_
      (have hf9 := Option.some.inj hf; subst hf9)
      exact G.rI 48 hq dX0_highCount_48 hs
    · replace hf := (if_neg h1).symm.trans hf
      refine G.aload_n 12 0 dX0_highCount_12 rfl rfl ?_
      refine G.getp 13 ck_0 0 (a0 + 1) (hs.k k_a0) (pt_0_0 hs k_a0).1 (by decide) (by decide +kernel) wd_257 dX0_highCount_13 ?_
      refine G.iload_n 16 2 dX0_highCount_16 rfl rfl ?_
      obtain ⟨g2, hf⟩ := gd_e hf
      refine G.aa 17 x2.toNatClampNeg ((a0 + 1) + 23 + 2 * x2.toNatClampNeg) (hs.k (pt_0_0 hs k_a0).2) (by decide) rfl rfl g2 rfl (pa_13 hs (pt_0_0 hs k_a0).2 (inlt g2)).1 dX0_highCount_17 ?_
      refine G.geti 18 ck_1 9 (hs.k (pa_13 hs (pt_0_0 hs k_a0).2 (inlt g2)).2) (by decide) (by decide +kernel) wd_222 dX0_highCount_18 ?_
      refine G.if_ne 21 41 dX0_highCount_21 (by decide) (fun h3 => ?_) (fun h3 => ?_)
      · replace hf := (if_neg h3).symm.trans hf
        exact b_X0_highCount_41 Z X hR hq (L_X0_highCount_4 n) ih a0 x1 x2 hs k_a0 hf
      · replace hf := (if_pos h3).symm.trans hf
        refine G.aload_n 24 0 dX0_highCount_24 rfl rfl ?_
        refine G.getp 25 ck_0 0 (a0 + 1) (hs.k k_a0) (pt_0_0 hs k_a0).1 (by decide) (by decide +kernel) wd_257 dX0_highCount_25 ?_
        refine G.iload_n 28 2 dX0_highCount_28 rfl rfl ?_
        refine G.aa 29 x2.toNatClampNeg ((a0 + 1) + 23 + 2 * x2.toNatClampNeg) (hs.k (pt_0_0 hs k_a0).2) (by decide) rfl rfl g2 rfl (pa_13 hs (pt_0_0 hs k_a0).2 (inlt g2)).1 dX0_highCount_29 ?_
        obtain ⟨q6, e7, hf⟩ := bd_e hf
        refine G.cvI 30 (As := []) ck_1 (hs.k (pa_13 hs (pt_0_0 hs k_a0).2 (inlt g2)).2) (c_X1_share Z hs ((a0 + 1) + 23 + 2 * x2.toNatClampNeg) (pa_13 hs (pt_0_0 hs k_a0).2 (inlt g2)).2 e7) mk_X1_share vk_X1_share rfl wd_595 hR (by decide +kernel) ⟨rfl, rfl⟩ rfl (Nat.le_of_ble_eq_true rfl) dX0_highCount_30 (fun hs4 => ?_)
        refine G.bipush 33 (95 : Int32) dX0_highCount_33 (by decide +kernel) ?_
        refine G.icmp_lt 35 41 dX0_highCount_35 (by decide) (fun h8 => ?_) (fun h8 => ?_)
        · replace hf := (if_pos h8).symm.trans hf
          exact b_X0_highCount_41 Z X hR hq (L_X0_highCount_4 n) ih a0 x1 x2 hs4 k_a0 hf
        · replace hf := (if_neg h8).symm.trans hf
          refine G.iinc 38 1 (x1 + 1) [(1, .int (x1 + 1)), (0, .ref (zs Z + a0)), (2, .int x2)] dX0_highCount_38 rfl (congrArg (fun z => x1 + z) (by decide +kernel)) (Nat.le_of_ble_eq_true rfl) rfl ?_
          refine G.locs [1, 0, 2] rfl ?_
          exact b_X0_highCount_41 Z X hR hq (L_X0_highCount_4 n) ih a0 (x1 + 1) x2 hs4 k_a0 hf
set_option maxRecDepth 100000 in
set_option maxHeartbeats 4000000 in
theorem c_X0_highCount (Z : Sys) {M : Mem} (hs : St M) (a0 : Nat) (k_a0 : K0[a0]? = some (0, 12)) {q : Int32} (hf : f_X0_highCount a0 M = some q) : Ct Z yX0_highCount cX0_highCount 3 (some .int) rm_X0_highCount [.ref (zs Z + a0)] M False (PostI q M) := by
  refine Ct.of (by decide +kernel) (Nat.le_of_ble_eq_true rfl) (fun X hR hq _ => ?_)
  show G Z X Y_X0_highCount False 0 0 0 [(0, .ref (zs Z + a0))] [] M
  replace hq : RetOk Z X (some .int) False (PostI q M) 0 0 := hq
  unfold f_X0_highCount at hf
  refine G.iconst 0 (0 : Int32) dX0_highCount_0 (by decide +kernel) ?_
  refine G.istore_n 1 [(1, .int (0 : Int32)), (0, .ref (zs Z + a0))] dX0_highCount_1 rfl (Nat.le_of_ble_eq_true rfl) rfl ?_
  refine G.iconst 2 (0 : Int32) dX0_highCount_2 (by decide +kernel) ?_
  refine G.istore_n 3 [(2, .int (0 : Int32)), (1, .int (0 : Int32)), (0, .ref (zs Z + a0))] dX0_highCount_3 rfl (Nat.le_of_ble_eq_true rfl) rfl ?_
  refine G.locs [2, 1, 0] rfl ?_
  exact l_X0_highCount_4 Z X hR hq FU a0 (0 : Int32) (0 : Int32) hs k_a0 hf
abbrev Y_X0_isHall : My := (cX0_isHall, RX0, 2)
def rm_X0_isHall : Room := { frames := 2, cells := 0, slots := 0, locals := 222 }
theorem dX0_isHall_0 : decode cX0_isHall 0 = .ok (.iload_n 1, 1) := by decide +kernel
theorem dX0_isHall_1 : decode cX0_isHall 1 = .ok (.iconst 0, 1) := by decide +kernel
theorem dX0_isHall_2 : decode cX0_isHall 2 = .ok (.aload_n 0, 1) := by decide +kernel
theorem dX0_isHall_3 : decode cX0_isHall 3 = .ok (.getfield 53, 3) := by decide +kernel
theorem dX0_isHall_6 : decode cX0_isHall 6 = .ok (.iconst 1, 1) := by decide +kernel
theorem dX0_isHall_7 : decode cX0_isHall 7 = .ok (.isub, 1) := by decide +kernel
theorem dX0_isHall_8 : decode cX0_isHall 8 = .ok (.invokestatic 70, 3) := by decide +kernel
theorem dX0_isHall_11 : decode cX0_isHall 11 = .ok (.ireturn, 1) := by decide +kernel
def f_X0_isHall (a0 : Nat) (x1 : Int32) (M : Mem) : Int32 := (f_X8_within x1 (0 : Int32) ((mI M a0 1) - (1 : Int32)))
set_option maxRecDepth 100000 in
set_option maxHeartbeats 4000000 in
theorem c_X0_isHall (Z : Sys) {M : Mem} (hs : St M) (a0 : Nat) (x1 : Int32) (k_a0 : K0[a0]? = some (0, 12)) {q : Int32} (hf : f_X0_isHall a0 x1 M = q) : Ct Z yX0_isHall cX0_isHall 2 (some .boolean) rm_X0_isHall [.ref (zs Z + a0), .int x1] M False (PostZ q M) := by
  refine Ct.of (by decide +kernel) (Nat.le_of_ble_eq_true rfl) (fun X hR hq _ => ?_)
  show G Z X Y_X0_isHall False 0 0 0 [(0, .ref (zs Z + a0)), (1, .int x1)] [] M
  replace hq : RetOk Z X (some .boolean) False (PostZ q M) 0 0 := hq
  unfold f_X0_isHall at hf
  refine G.iload_n 0 1 dX0_isHall_0 rfl rfl ?_
  refine G.iconst 1 (0 : Int32) dX0_isHall_1 (by decide +kernel) ?_
  refine G.aload_n 2 0 dX0_isHall_2 rfl rfl ?_
  refine G.geti 3 ck_0 1 (hs.k k_a0) (by decide) (by decide +kernel) wd_261 dX0_isHall_3 ?_
  refine G.iconst 6 (1 : Int32) dX0_isHall_6 (by decide +kernel) ?_
  refine G.isub 7 dX0_isHall_7 ?_
  refine G.cnZ 8 (As := [.int x1, .int (0 : Int32), .int ((mI M a0 1) - (1 : Int32))]) (c_X8_within Z hs x1 (0 : Int32) ((mI M a0 1) - (1 : Int32)) rfl) mk_X8_within wd_430 wd_448 hR (by decide +kernel) ⟨rfl, rfl⟩ rfl (Nat.le_of_ble_eq_true rfl) dX0_isHall_8 (fun hs1 z2 => ?_)
  subst hf
  exact G.rZ 11 hq dX0_isHall_11 hs1 z2
abbrev Y_X0_unevenness : My := (cX0_unevenness, RX0, 7)
def rm_X0_unevenness : Room := { frames := 3, cells := 0, slots := 0, locals := 247 }
theorem dX0_unevenness_0 : decode cX0_unevenness 0 = .ok (.aload_n 0, 1) := by decide +kernel
theorem dX0_unevenness_1 : decode cX0_unevenness 1 = .ok (.iload_n 1, 1) := by decide +kernel
theorem dX0_unevenness_2 : decode cX0_unevenness 2 = .ok (.invokevirtual 92, 3) := by decide +kernel
theorem dX0_unevenness_5 : decode cX0_unevenness 5 = .ok (.istore_n 2, 1) := by decide +kernel
theorem dX0_unevenness_6 : decode cX0_unevenness 6 = .ok (.iload_n 1, 1) := by decide +kernel
theorem dX0_unevenness_7 : decode cX0_unevenness 7 = .ok (.ifCond .eq 7, 3) := by decide +kernel
theorem dX0_unevenness_10 : decode cX0_unevenness 10 = .ok (.iconst 1, 1) := by decide +kernel
theorem dX0_unevenness_11 : decode cX0_unevenness 11 = .ok (.goto 4, 3) := by decide +kernel
theorem dX0_unevenness_14 : decode cX0_unevenness 14 = .ok (.iconst 0, 1) := by decide +kernel
theorem dX0_unevenness_15 : decode cX0_unevenness 15 = .ok (.istore_n 3, 1) := by decide +kernel
theorem dX0_unevenness_16 : decode cX0_unevenness 16 = .ok (.iconst 0, 1) := by decide +kernel
theorem dX0_unevenness_17 : decode cX0_unevenness 17 = .ok (.istore 4, 2) := by decide +kernel
theorem dX0_unevenness_19 : decode cX0_unevenness 19 = .ok (.iload_n 3, 1) := by decide +kernel
theorem dX0_unevenness_20 : decode cX0_unevenness 20 = .ok (.istore 5, 2) := by decide +kernel
theorem dX0_unevenness_22 : decode cX0_unevenness 22 = .ok (.iload 5, 2) := by decide +kernel
theorem dX0_unevenness_24 : decode cX0_unevenness 24 = .ok (.bipush 9, 2) := by decide +kernel
theorem dX0_unevenness_26 : decode cX0_unevenness 26 = .ok (.if_icmp .gt 35, 3) := by decide +kernel
theorem dX0_unevenness_29 : decode cX0_unevenness 29 = .ok (.bipush 10, 2) := by decide +kernel
theorem dX0_unevenness_31 : decode cX0_unevenness 31 = .ok (.iload_n 3, 1) := by decide +kernel
theorem dX0_unevenness_32 : decode cX0_unevenness 32 = .ok (.isub, 1) := by decide +kernel
theorem dX0_unevenness_33 : decode cX0_unevenness 33 = .ok (.aload_n 0, 1) := by decide +kernel
theorem dX0_unevenness_34 : decode cX0_unevenness 34 = .ok (.getfield 46, 3) := by decide +kernel
theorem dX0_unevenness_37 : decode cX0_unevenness 37 = .ok (.iload 5, 2) := by decide +kernel
theorem dX0_unevenness_39 : decode cX0_unevenness 39 = .ok (.iaload, 1) := by decide +kernel
theorem dX0_unevenness_40 : decode cX0_unevenness 40 = .ok (.imul, 1) := by decide +kernel
theorem dX0_unevenness_41 : decode cX0_unevenness 41 = .ok (.iload_n 2, 1) := by decide +kernel
theorem dX0_unevenness_42 : decode cX0_unevenness 42 = .ok (.isub, 1) := by decide +kernel
theorem dX0_unevenness_43 : decode cX0_unevenness 43 = .ok (.istore 6, 2) := by decide +kernel
theorem dX0_unevenness_45 : decode cX0_unevenness 45 = .ok (.iload 4, 2) := by decide +kernel
theorem dX0_unevenness_47 : decode cX0_unevenness 47 = .ok (.iload 6, 2) := by decide +kernel
theorem dX0_unevenness_49 : decode cX0_unevenness 49 = .ok (.iload 6, 2) := by decide +kernel
theorem dX0_unevenness_51 : decode cX0_unevenness 51 = .ok (.imul, 1) := by decide +kernel
theorem dX0_unevenness_52 : decode cX0_unevenness 52 = .ok (.iadd, 1) := by decide +kernel
theorem dX0_unevenness_53 : decode cX0_unevenness 53 = .ok (.istore 4, 2) := by decide +kernel
theorem dX0_unevenness_55 : decode cX0_unevenness 55 = .ok (.iinc 5 1, 3) := by decide +kernel
theorem dX0_unevenness_58 : decode cX0_unevenness 58 = .ok (.goto (-36), 3) := by decide +kernel
theorem dX0_unevenness_61 : decode cX0_unevenness 61 = .ok (.iload 4, 2) := by decide +kernel
theorem dX0_unevenness_63 : decode cX0_unevenness 63 = .ok (.ireturn, 1) := by decide +kernel
def L_X0_unevenness_22 : Nat → Nat → Int32 → Int32 → Int32 → Int32 → Mem → Option (Int32 × Mem)
  | 0, _, _, _, _, _, _ => none
  | n + 1, a0, x2, x3, x4, x5, M => if (9 : Int32) < x5 then some (x4, M) else gd (inR x5 10) (L_X0_unevenness_22 n a0 x2 x3 (x4 + (((((10 : Int32) - x3) * (mI M (a0 + 22) x5.toNatClampNeg)) - x2) * ((((10 : Int32) - x3) * (mI M (a0 + 22) x5.toNatClampNeg)) - x2))) (x5 + 1) M)
def f_X0_unevenness (a0 : Nat) (x1 : Int32) (M : Mem) : Option (Int32 × Mem) := (f_X0_countFigures a0 x1 M).bind fun q3 => if x1 = 0 then L_X0_unevenness_22 FU a0 q3.1 (0 : Int32) (0 : Int32) (0 : Int32) q3.2 else L_X0_unevenness_22 FU a0 q3.1 (1 : Int32) (0 : Int32) (1 : Int32) q3.2
set_option maxRecDepth 100000 in
set_option maxHeartbeats 4000000 in
theorem l_X0_unevenness_22 (Z : Sys) (X : Cx) (hR : xR X = rm_X0_unevenness) {q : Int32 × Mem} (hq : RetOk Z X (some .int) False (PostI q.1 q.2) 0 0) : ∀ (n : Nat) (a0 : Nat) (x2 : Int32) (x3 : Int32) (x4 : Int32) (x5 : Int32) (M : Mem) (hs : St M) (k_a0 : K0[a0]? = some (0, 12)) (hf : L_X0_unevenness_22 n a0 x2 x3 x4 x5 M = some q), G Z X Y_X0_unevenness False 0 0 22 [(0, .ref (zs Z + a0)), (2, .int x2), (3, .int x3), (4, .int x4), (5, .int x5)] [] M := by
  intro n
  induction n with
  | zero => intro a0 x2 x3 x4 x5 M hs k_a0 hf; cases hf
  | succ n ih =>
    intro a0 x2 x3 x4 x5 M hs k_a0 hf
    unfold L_X0_unevenness_22 at hf
    refine G.iload 22 4 dX0_unevenness_22 rfl ?_
    refine G.bipush 24 (9 : Int32) dX0_unevenness_24 (by decide +kernel) ?_
    refine G.icmp_gt 26 61 dX0_unevenness_26 (by decide) (fun h6 => ?_) (fun h6 => ?_)
    · replace hf := (if_pos h6).symm.trans hf
      refine G.iload 61 3 dX0_unevenness_61 rfl ?_
      (have hf9 := Option.some.inj hf; subst hf9)
      exact G.rI 63 hq dX0_unevenness_63 hs
    · replace hf := (if_neg h6).symm.trans hf
      refine G.bipush 29 (10 : Int32) dX0_unevenness_29 (by decide +kernel) ?_
      refine G.iload_n 31 2 dX0_unevenness_31 rfl rfl ?_
      refine G.isub 32 dX0_unevenness_32 ?_
      refine G.aload_n 33 0 dX0_unevenness_33 rfl rfl ?_
      refine G.getp 34 ck_0 10 (a0 + 22) (hs.k k_a0) (pt_0_10 hs k_a0).1 (by decide) (by decide +kernel) wd_278 dX0_unevenness_34 ?_
      refine G.iload 37 4 dX0_unevenness_37 rfl ?_
      obtain ⟨g7, hf⟩ := gd_e hf
      refine G.ia 39 x5.toNatClampNeg (hs.k (pt_0_10 hs k_a0).2) g7 rfl dX0_unevenness_39 ?_
      refine G.imul 40 dX0_unevenness_40 ?_
      refine G.iload_n 41 1 dX0_unevenness_41 rfl rfl ?_
      refine G.isub 42 dX0_unevenness_42 ?_
      refine G.istore 43 [(6, .int ((((10 : Int32) - x3) * (mI M (a0 + 22) x5.toNatClampNeg)) - x2)), (0, .ref (zs Z + a0)), (2, .int x2), (3, .int x3), (4, .int x4), (5, .int x5)] dX0_unevenness_43 (Nat.le_of_ble_eq_true rfl) rfl ?_
      refine G.iload 45 4 dX0_unevenness_45 rfl ?_
      refine G.iload 47 0 dX0_unevenness_47 rfl ?_
      refine G.iload 49 0 dX0_unevenness_49 rfl ?_
      refine G.imul 51 dX0_unevenness_51 ?_
      refine G.iadd 52 dX0_unevenness_52 ?_
      refine G.istore 53 [(4, .int (x4 + (((((10 : Int32) - x3) * (mI M (a0 + 22) x5.toNatClampNeg)) - x2) * ((((10 : Int32) - x3) * (mI M (a0 + 22) x5.toNatClampNeg)) - x2)))), (6, .int ((((10 : Int32) - x3) * (mI M (a0 + 22) x5.toNatClampNeg)) - x2)), (0, .ref (zs Z + a0)), (2, .int x2), (3, .int x3), (5, .int x5)] dX0_unevenness_53 (Nat.le_of_ble_eq_true rfl) rfl ?_
      refine G.iinc 55 5 (x5 + 1) [(5, .int (x5 + 1)), (4, .int (x4 + (((((10 : Int32) - x3) * (mI M (a0 + 22) x5.toNatClampNeg)) - x2) * ((((10 : Int32) - x3) * (mI M (a0 + 22) x5.toNatClampNeg)) - x2)))), (6, .int ((((10 : Int32) - x3) * (mI M (a0 + 22) x5.toNatClampNeg)) - x2)), (0, .ref (zs Z + a0)), (2, .int x2), (3, .int x3)] dX0_unevenness_55 rfl (congrArg (fun z => x5 + z) (by decide +kernel)) (Nat.le_of_ble_eq_true rfl) rfl ?_
      refine G.goto 58 22 dX0_unevenness_58 (by decide) ?_
      refine G.locs [3, 4, 5, 1, 0] rfl ?_
      exact ih a0 x2 x3 (x4 + (((((10 : Int32) - x3) * (mI M (a0 + 22) x5.toNatClampNeg)) - x2) * ((((10 : Int32) - x3) * (mI M (a0 + 22) x5.toNatClampNeg)) - x2))) (x5 + 1) M hs k_a0 hf
set_option maxRecDepth 100000 in
set_option maxHeartbeats 4000000 in
theorem c_X0_unevenness (Z : Sys) {M : Mem} (hs : St M) (a0 : Nat) (x1 : Int32) (k_a0 : K0[a0]? = some (0, 12)) {q : Int32 × Mem} (hf : f_X0_unevenness a0 x1 M = some q) : Ct Z yX0_unevenness cX0_unevenness 7 (some .int) rm_X0_unevenness [.ref (zs Z + a0), .int x1] M False (PostI q.1 q.2) := by
  refine Ct.of (by decide +kernel) (Nat.le_of_ble_eq_true rfl) (fun X hR hq _ => ?_)
  show G Z X Y_X0_unevenness False 0 0 0 [(0, .ref (zs Z + a0)), (1, .int x1)] [] M
  replace hq : RetOk Z X (some .int) False (PostI q.1 q.2) 0 0 := hq
  unfold f_X0_unevenness at hf
  refine G.aload_n 0 0 dX0_unevenness_0 rfl rfl ?_
  refine G.iload_n 1 1 dX0_unevenness_1 rfl rfl ?_
  obtain ⟨q3, e4, hf⟩ := bd_e hf
  refine G.cvI 2 (As := [.int x1]) ck_0 (hs.k k_a0) (c_X0_countFigures Z hs a0 x1 k_a0 e4) mk_X0_countFigures vk_X0_countFigures rfl wd_556 hR (by decide +kernel) ⟨rfl, rfl⟩ rfl (Nat.le_of_ble_eq_true rfl) dX0_unevenness_2 (fun hs1 => ?_)
  refine G.istore_n 5 [(2, .int q3.1), (0, .ref (zs Z + a0)), (1, .int x1)] dX0_unevenness_5 rfl (Nat.le_of_ble_eq_true rfl) rfl ?_
  refine G.iload_n 6 2 dX0_unevenness_6 rfl rfl ?_
  refine G.if_eq 7 14 dX0_unevenness_7 (by decide) (fun h5 => ?_) (fun h5 => ?_)
  · replace hf := (if_pos h5).symm.trans hf
    refine G.iconst 14 (0 : Int32) dX0_unevenness_14 (by decide +kernel) ?_
    refine G.istore_n 15 [(3, .int (0 : Int32)), (2, .int q3.1), (0, .ref (zs Z + a0)), (1, .int x1)] dX0_unevenness_15 rfl (Nat.le_of_ble_eq_true rfl) rfl ?_
    refine G.iconst 16 (0 : Int32) dX0_unevenness_16 (by decide +kernel) ?_
    refine G.istore 17 [(4, .int (0 : Int32)), (3, .int (0 : Int32)), (2, .int q3.1), (0, .ref (zs Z + a0)), (1, .int x1)] dX0_unevenness_17 (Nat.le_of_ble_eq_true rfl) rfl ?_
    refine G.iload_n 19 1 dX0_unevenness_19 rfl rfl ?_
    refine G.istore 20 [(5, .int (0 : Int32)), (4, .int (0 : Int32)), (3, .int (0 : Int32)), (2, .int q3.1), (0, .ref (zs Z + a0)), (1, .int x1)] dX0_unevenness_20 (Nat.le_of_ble_eq_true rfl) rfl ?_
    refine G.locs [4, 3, 2, 1, 0] rfl ?_
    exact l_X0_unevenness_22 Z X hR hq FU a0 q3.1 (0 : Int32) (0 : Int32) (0 : Int32) q3.2 hs1 k_a0 hf
  · replace hf := (if_neg h5).symm.trans hf
    refine G.iconst 10 (1 : Int32) dX0_unevenness_10 (by decide +kernel) ?_
    refine G.goto 11 15 dX0_unevenness_11 (by decide) ?_
    refine G.istore_n 15 [(3, .int (1 : Int32)), (2, .int q3.1), (0, .ref (zs Z + a0)), (1, .int x1)] dX0_unevenness_15 rfl (Nat.le_of_ble_eq_true rfl) rfl ?_
    refine G.iconst 16 (0 : Int32) dX0_unevenness_16 (by decide +kernel) ?_
    refine G.istore 17 [(4, .int (0 : Int32)), (3, .int (1 : Int32)), (2, .int q3.1), (0, .ref (zs Z + a0)), (1, .int x1)] dX0_unevenness_17 (Nat.le_of_ble_eq_true rfl) rfl ?_
    refine G.iload_n 19 1 dX0_unevenness_19 rfl rfl ?_
    refine G.istore 20 [(5, .int (1 : Int32)), (4, .int (0 : Int32)), (3, .int (1 : Int32)), (2, .int q3.1), (0, .ref (zs Z + a0)), (1, .int x1)] dX0_unevenness_20 (Nat.le_of_ble_eq_true rfl) rfl ?_
    refine G.locs [4, 3, 2, 1, 0] rfl ?_
    exact l_X0_unevenness_22 Z X hR hq FU a0 q3.1 (1 : Int32) (0 : Int32) (1 : Int32) q3.2 hs1 k_a0 hf
