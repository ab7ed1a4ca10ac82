abbrev Y_X6_hasPlace : My := (cX6_hasPlace, RX6, 2)
def rm_X6_hasPlace : Room := { frames := 2, cells := 0, slots := 0, locals := 222 }
theorem dX6_hasPlace_0 : decode cX6_hasPlace 0 = .ok (.iload_n 1, 1) := by decide +kernel
theorem dX6_hasPlace_1 : decode cX6_hasPlace 1 = .ok (.iconst 0, 1) := by decide +kernel
theorem dX6_hasPlace_2 : decode cX6_hasPlace 2 = .ok (.aload_n 0, 1) := by decide +kernel
theorem dX6_hasPlace_3 : decode cX6_hasPlace 3 = .ok (.getfield 43, 3) := by decide +kernel
theorem dX6_hasPlace_6 : decode cX6_hasPlace 6 = .ok (.iconst 1, 1) := by decide +kernel
theorem dX6_hasPlace_7 : decode cX6_hasPlace 7 = .ok (.isub, 1) := by decide +kernel
theorem dX6_hasPlace_8 : decode cX6_hasPlace 8 = .ok (.invokestatic 52, 3) := by decide +kernel
theorem dX6_hasPlace_11 : decode cX6_hasPlace 11 = .ok (.ireturn, 1) := by decide +kernel
def f_X6_hasPlace (a0 : Nat) (x1 : Int32) (M : Mem) : Int32 := (f_X8_within x1 (0 : Int32) ((mI M a0 5) - (1 : Int32)))
set_option maxRecDepth 100000 in
set_option maxHeartbeats 4000000 in
theorem c_X6_hasPlace (Z : Sys) {M : Mem} (hs : St M) (a0 : Nat) (x1 : Int32) (k_a0 : K0[a0]? = some (6, 7)) {q : Int32} (hf : f_X6_hasPlace a0 x1 M = q) : Ct Z yX6_hasPlace cX6_hasPlace 2 (some .boolean) rm_X6_hasPlace [.ref (zs Z + a0), .int x1] M False (PostZ q M) := by
  refine Ct.of (by decide +kernel) (Nat.le_of_ble_eq_true rfl) (fun X hR hq _ => ?_)
  show G Z X Y_X6_hasPlace False 0 0 0 [(0, .ref (zs Z + a0)), (1, .int x1)] [] M
  replace hq : RetOk Z X (some .boolean) False (PostZ q M) 0 0 := hq
  unfold f_X6_hasPlace at hf
  refine G.iload_n 0 1 dX6_hasPlace_0 rfl rfl ?_
  refine G.iconst 1 (0 : Int32) dX6_hasPlace_1 (by decide +kernel) ?_
  refine G.aload_n 2 0 dX6_hasPlace_2 rfl rfl ?_
  refine G.geti 3 ck_6 5 (hs.k k_a0) (by decide) (by decide +kernel) wd_381 dX6_hasPlace_3 ?_
  refine G.iconst 6 (1 : Int32) dX6_hasPlace_6 (by decide +kernel) ?_
  refine G.isub 7 dX6_hasPlace_7 ?_
  refine G.cnZ 8 (As := [.int x1, .int (0 : Int32), .int ((mI M a0 5) - (1 : Int32))]) (c_X8_within Z hs x1 (0 : Int32) ((mI M a0 5) - (1 : Int32)) rfl) mk_X8_within wd_430 wd_535 hR (by decide +kernel) ⟨rfl, rfl⟩ rfl (Nat.le_of_ble_eq_true rfl) dX6_hasPlace_8 (fun hs1 z2 => ?_)
  subst hf
  exact G.rZ 11 hq dX6_hasPlace_11 hs1 z2
abbrev Y_X6_hasPlaces : My := (cX6_hasPlaces, RX6, 3)
def rm_X6_hasPlaces : Room := { frames := 1, cells := 0, slots := 0, locals := 200 }
theorem dX6_hasPlaces_0 : decode cX6_hasPlaces 0 = .ok (.iload_n 1, 1) := by decide +kernel
theorem dX6_hasPlaces_1 : decode cX6_hasPlaces 1 = .ok (.ifCond .lt 29, 3) := by decide +kernel
theorem dX6_hasPlaces_4 : decode cX6_hasPlaces 4 = .ok (.iload_n 2, 1) := by decide +kernel
theorem dX6_hasPlaces_5 : decode cX6_hasPlaces 5 = .ok (.ifCond .lt 25, 3) := by decide +kernel
theorem dX6_hasPlaces_8 : decode cX6_hasPlaces 8 = .ok (.iload_n 2, 1) := by decide +kernel
theorem dX6_hasPlaces_9 : decode cX6_hasPlaces 9 = .ok (.aload_n 0, 1) := by decide +kernel
theorem dX6_hasPlaces_10 : decode cX6_hasPlaces 10 = .ok (.getfield 43, 3) := by decide +kernel
theorem dX6_hasPlaces_13 : decode cX6_hasPlaces 13 = .ok (.if_icmp .gt 17, 3) := by decide +kernel
theorem dX6_hasPlaces_16 : decode cX6_hasPlaces 16 = .ok (.iload_n 1, 1) := by decide +kernel
theorem dX6_hasPlaces_17 : decode cX6_hasPlaces 17 = .ok (.aload_n 0, 1) := by decide +kernel
theorem dX6_hasPlaces_18 : decode cX6_hasPlaces 18 = .ok (.getfield 43, 3) := by decide +kernel
theorem dX6_hasPlaces_21 : decode cX6_hasPlaces 21 = .ok (.iload_n 2, 1) := by decide +kernel
theorem dX6_hasPlaces_22 : decode cX6_hasPlaces 22 = .ok (.isub, 1) := by decide +kernel
theorem dX6_hasPlaces_23 : decode cX6_hasPlaces 23 = .ok (.if_icmp .gt 7, 3) := by decide +kernel
theorem dX6_hasPlaces_26 : decode cX6_hasPlaces 26 = .ok (.iconst 1, 1) := by decide +kernel
theorem dX6_hasPlaces_27 : decode cX6_hasPlaces 27 = .ok (.goto 4, 3) := by decide +kernel
theorem dX6_hasPlaces_30 : decode cX6_hasPlaces 30 = .ok (.iconst 0, 1) := by decide +kernel
theorem dX6_hasPlaces_31 : decode cX6_hasPlaces 31 = .ok (.ireturn, 1) := by decide +kernel
def f_X6_hasPlaces (a0 : Nat) (x1 : Int32) (x2 : Int32) (M : Mem) : Int32 := if x1 < 0 then (0 : Int32) else if x2 < 0 then (0 : Int32) else if (mI M a0 5) < x2 then (0 : Int32) else if ((mI M a0 5) - x2) < x1 then (0 : Int32) else (1 : Int32)
set_option maxRecDepth 100000 in
set_option maxHeartbeats 4000000 in
theorem c_X6_hasPlaces (Z : Sys) {M : Mem} (hs : St M) (a0 : Nat) (x1 : Int32) (x2 : Int32) (k_a0 : K0[a0]? = some (6, 7)) {q : Int32} (hf : f_X6_hasPlaces a0 x1 x2 M = q) : Ct Z yX6_hasPlaces cX6_hasPlaces 3 (some .boolean) rm_X6_hasPlaces [.ref (zs Z + a0), .int x1, .int x2] M False (PostZ q M) := by
  refine Ct.of (by decide +kernel) (Nat.le_of_ble_eq_true rfl) (fun X hR hq _ => ?_)
  show G Z X Y_X6_hasPlaces False 0 0 0 [(0, .ref (zs Z + a0)), (1, .int x1), (2, .int x2)] [] M
  replace hq : RetOk Z X (some .boolean) False (PostZ q M) 0 0 := hq
  unfold f_X6_hasPlaces at hf
  refine G.iload_n 0 1 dX6_hasPlaces_0 rfl rfl ?_
  refine G.if_lt 1 30 dX6_hasPlaces_1 (by decide) (fun h1 => ?_) (fun h1 => ?_)
  · replace hf := (if_pos h1).symm.trans hf
    refine G.iconst 30 (0 : Int32) dX6_hasPlaces_30 (by decide +kernel) ?_
    subst hf
    exact G.rZ 31 hq dX6_hasPlaces_31 hs (Or.inl rfl)
  · replace hf := (if_neg h1).symm.trans hf
    refine G.iload_n 4 2 dX6_hasPlaces_4 rfl rfl ?_
    refine G.if_lt 5 30 dX6_hasPlaces_5 (by decide) (fun h2 => ?_) (fun h2 => ?_)
    · replace hf := (if_pos h2).symm.trans hf
      refine G.iconst 30 (0 : Int32) dX6_hasPlaces_30 (by decide +kernel) ?_
      subst hf
      exact G.rZ 31 hq dX6_hasPlaces_31 hs (Or.inl rfl)
    · replace hf := (if_neg h2).symm.trans hf
      refine G.iload_n 8 2 dX6_hasPlaces_8 rfl rfl ?_
      refine G.aload_n 9 0 dX6_hasPlaces_9 rfl rfl ?_
      refine G.geti 10 ck_6 5 (hs.k k_a0) (by decide) (by decide +kernel) wd_381 dX6_hasPlaces_10 ?_
      refine G.icmp_gt 13 30 dX6_hasPlaces_13 (by decide) (fun h3 => ?_) (fun h3 => ?_)
      · replace hf := (if_pos h3).symm.trans hf
        refine G.iconst 30 (0 : Int32) dX6_hasPlaces_30 (by decide +kernel) ?_
        subst hf
        exact G.rZ 31 hq dX6_hasPlaces_31 hs (Or.inl rfl)
      · replace hf := (if_neg h3).symm.trans hf
        refine G.iload_n 16 1 dX6_hasPlaces_16 rfl rfl ?_
        refine G.aload_n 17 0 dX6_hasPlaces_17 rfl rfl ?_
        refine G.geti 18 ck_6 5 (hs.k k_a0) (by decide) (by decide +kernel) wd_381 dX6_hasPlaces_18 ?_
        refine G.iload_n 21 2 dX6_hasPlaces_21 rfl rfl ?_
        refine G.isub 22 dX6_hasPlaces_22 ?_
        refine G.icmp_gt 23 30 dX6_hasPlaces_23 (by decide) (fun h4 => ?_) (fun h4 => ?_)
        · replace hf := (if_pos h4).symm.trans hf
          refine G.iconst 30 (0 : Int32) dX6_hasPlaces_30 (by decide +kernel) ?_
          subst hf
          exact G.rZ 31 hq dX6_hasPlaces_31 hs (Or.inl rfl)
        · replace hf := (if_neg h4).symm.trans hf
          refine G.iconst 26 (1 : Int32) dX6_hasPlaces_26 (by decide +kernel) ?_
          refine G.goto 27 31 dX6_hasPlaces_27 (by decide) ?_
          subst hf
          exact G.rZ 31 hq dX6_hasPlaces_31 hs (Or.inr rfl)
abbrev Y_X6_holdRow : My := (cX6_holdRow, RX6, 3)
def rm_X6_holdRow : Room := { frames := 2, cells := 0, slots := 0, locals := 223 }
theorem dX6_holdRow_0 : decode cX6_holdRow 0 = .ok (.aload_n 0, 1) := by decide +kernel
theorem dX6_holdRow_1 : decode cX6_holdRow 1 = .ok (.iconst 2, 1) := by decide +kernel
theorem dX6_holdRow_2 : decode cX6_holdRow 2 = .ok (.putfield 11, 3) := by decide +kernel
theorem dX6_holdRow_5 : decode cX6_holdRow 5 = .ok (.aload_n 0, 1) := by decide +kernel
theorem dX6_holdRow_6 : decode cX6_holdRow 6 = .ok (.iload_n 1, 1) := by decide +kernel
theorem dX6_holdRow_7 : decode cX6_holdRow 7 = .ok (.putfield 40, 3) := by decide +kernel
theorem dX6_holdRow_10 : decode cX6_holdRow 10 = .ok (.aload_n 0, 1) := by decide +kernel
theorem dX6_holdRow_11 : decode cX6_holdRow 11 = .ok (.iload_n 2, 1) := by decide +kernel
theorem dX6_holdRow_12 : decode cX6_holdRow 12 = .ok (.putfield 43, 3) := by decide +kernel
theorem dX6_holdRow_15 : decode cX6_holdRow 15 = .ok (.aload_n 0, 1) := by decide +kernel
theorem dX6_holdRow_16 : decode cX6_holdRow 16 = .ok (.getfield 22, 3) := by decide +kernel
theorem dX6_holdRow_19 : decode cX6_holdRow 19 = .ok (.iconst 0, 1) := by decide +kernel
theorem dX6_holdRow_20 : decode cX6_holdRow 20 = .ok (.invokestatic 46, 3) := by decide +kernel
theorem dX6_holdRow_23 : decode cX6_holdRow 23 = .ok (.return_, 1) := by decide +kernel
def f_X6_holdRow (a0 : Nat) (x1 : Int32) (x2 : Int32) (M : Mem) : Option Mem := (f_J7_fill_53178 (a0 + 2) (0 : Int32) (sI (sI (sI M a0 0 (2 : Int32)) a0 4 x1) a0 5 x2)).bind fun q3 => some q3
set_option maxRecDepth 100000 in
set_option maxHeartbeats 4000000 in
theorem c_X6_holdRow (Z : Sys) {M : Mem} (hs : St M) (a0 : Nat) (x1 : Int32) (x2 : Int32) (k_a0 : K0[a0]? = some (6, 7)) {q : Mem} (hf : f_X6_holdRow a0 x1 x2 M = some q) : Ct Z yX6_holdRow cX6_holdRow 3 none rm_X6_holdRow [.ref (zs Z + a0), .int x1, .int x2] M False (PostV q) := by
  refine Ct.of (by decide +kernel) (Nat.le_of_ble_eq_true rfl) (fun X hR hq _ => ?_)
  show G Z X Y_X6_holdRow False 0 0 0 [(0, .ref (zs Z + a0)), (1, .int x1), (2, .int x2)] [] M
  replace hq : RetOk Z X none False (PostV q) 0 0 := hq
  unfold f_X6_holdRow at hf
  refine G.aload_n 0 0 dX6_holdRow_0 rfl rfl ?_
  refine G.iconst 1 (2 : Int32) dX6_holdRow_1 (by decide +kernel) ?_
  refine G.puti 2 ck_6 0 (hs.k k_a0) (by decide) (by decide +kernel) rfl wd_373 rfl rfl dX6_holdRow_2 ?_
  refine G.aload_n 5 0 dX6_holdRow_5 rfl rfl ?_
  refine G.iload_n 6 1 dX6_holdRow_6 rfl rfl ?_
  refine G.puti 7 ck_6 4 ((St.i hs).k k_a0) (by decide) (by decide +kernel) rfl wd_379 rfl rfl dX6_holdRow_7 ?_
  refine G.aload_n 10 0 dX6_holdRow_10 rfl rfl ?_
  refine G.iload_n 11 2 dX6_holdRow_11 rfl rfl ?_
  refine G.puti 12 ck_6 5 ((St.i (St.i hs)).k k_a0) (by decide) (by decide +kernel) rfl wd_381 rfl rfl dX6_holdRow_12 ?_
  refine G.aload_n 15 0 dX6_holdRow_15 rfl rfl ?_
  refine G.getp 16 ck_6 6 (a0 + 2) ((St.i (St.i (St.i hs))).k k_a0) (pt_6_6 (St.i (St.i (St.i hs))) k_a0).1 (by decide) (by decide +kernel) wd_383 dX6_holdRow_16 ?_
  refine G.iconst 19 (0 : Int32) dX6_holdRow_19 (by decide +kernel) ?_
  obtain ⟨q3, e4, hf⟩ := bd_e hf
  refine G.csV 20 (As := [.ref (zs Z + (a0 + 2)), .int (0 : Int32)]) (c_J7_fill_53178 Z (St.i (St.i (St.i hs))) (a0 + 2) (0 : Int32) (ln_k (pt_6_6 hs k_a0).2) e4) mk_J7_fill_53178 wd_561 wd_1121 hR (by decide +kernel) ⟨rfl, rfl⟩ rfl (Nat.le_of_ble_eq_true rfl) dX6_holdRow_20 (fun hs1 => ?_)
  (have hf9 := Option.some.inj hf; subst hf9)
  exact G.rV 23 hq dX6_holdRow_23 hs1
abbrev Y_X6_holdSheet : My := (cX6_holdSheet, RX6, 3)
def rm_X6_holdSheet : Room := { frames := 2, cells := 0, slots := 0, locals := 221 }
theorem dX6_holdSheet_0 : decode cX6_holdSheet 0 = .ok (.aload_n 0, 1) := by decide +kernel
theorem dX6_holdSheet_1 : decode cX6_holdSheet 1 = .ok (.iconst 1, 1) := by decide +kernel
theorem dX6_holdSheet_2 : decode cX6_holdSheet 2 = .ok (.putfield 11, 3) := by decide +kernel
theorem dX6_holdSheet_5 : decode cX6_holdSheet 5 = .ok (.aload_n 0, 1) := by decide +kernel
theorem dX6_holdSheet_6 : decode cX6_holdSheet 6 = .ok (.iload_n 1, 1) := by decide +kernel
theorem dX6_holdSheet_7 : decode cX6_holdSheet 7 = .ok (.putfield 26, 3) := by decide +kernel
theorem dX6_holdSheet_10 : decode cX6_holdSheet 10 = .ok (.aload_n 0, 1) := by decide +kernel
theorem dX6_holdSheet_11 : decode cX6_holdSheet 11 = .ok (.aload_n 2, 1) := by decide +kernel
theorem dX6_holdSheet_12 : decode cX6_holdSheet 12 = .ok (.getfield 29, 3) := by decide +kernel
theorem dX6_holdSheet_15 : decode cX6_holdSheet 15 = .ok (.putfield 34, 3) := by decide +kernel
theorem dX6_holdSheet_18 : decode cX6_holdSheet 18 = .ok (.aload_n 0, 1) := by decide +kernel
theorem dX6_holdSheet_19 : decode cX6_holdSheet 19 = .ok (.getfield 18, 3) := by decide +kernel
theorem dX6_holdSheet_22 : decode cX6_holdSheet 22 = .ok (.aload_n 2, 1) := by decide +kernel
theorem dX6_holdSheet_23 : decode cX6_holdSheet 23 = .ok (.getfield 35, 3) := by decide +kernel
theorem dX6_holdSheet_26 : decode cX6_holdSheet 26 = .ok (.invokevirtual 36, 3) := by decide +kernel
theorem dX6_holdSheet_29 : decode cX6_holdSheet 29 = .ok (.return_, 1) := by decide +kernel
def f_X6_holdSheet (a0 : Nat) (x1 : Int32) (a2 : Nat) (M : Mem) : Option Mem := (f_X5_copyFrom (a0 + 1) (a2 + 1) (sI (sI (sI M a0 0 (1 : Int32)) a0 2 x1) a0 3 (mI (sI (sI M a0 0 (1 : Int32)) a0 2 x1) a2 6))).bind fun q3 => some q3
set_option maxRecDepth 100000 in
set_option maxHeartbeats 4000000 in
theorem c_X6_holdSheet (Z : Sys) {M : Mem} (hs : St M) (a0 : Nat) (x1 : Int32) (a2 : Nat) (k_a0 : K0[a0]? = some (6, 7)) (k_a2 : K0[a2]? = some (1, 12)) {q : Mem} (hf : f_X6_holdSheet a0 x1 a2 M = some q) : Ct Z yX6_holdSheet cX6_holdSheet 3 none rm_X6_holdSheet [.ref (zs Z + a0), .int x1, .ref (zs Z + a2)] M False (PostV q) := by
  refine Ct.of (by decide +kernel) (Nat.le_of_ble_eq_true rfl) (fun X hR hq _ => ?_)
  show G Z X Y_X6_holdSheet False 0 0 0 [(0, .ref (zs Z + a0)), (1, .int x1), (2, .ref (zs Z + a2))] [] M
  replace hq : RetOk Z X none False (PostV q) 0 0 := hq
  unfold f_X6_holdSheet at hf
  refine G.aload_n 0 0 dX6_holdSheet_0 rfl rfl ?_
  refine G.iconst 1 (1 : Int32) dX6_holdSheet_1 (by decide +kernel) ?_
  refine G.puti 2 ck_6 0 (hs.k k_a0) (by decide) (by decide +kernel) rfl wd_373 rfl rfl dX6_holdSheet_2 ?_
  refine G.aload_n 5 0 dX6_holdSheet_5 rfl rfl ?_
  refine G.iload_n 6 1 dX6_holdSheet_6 rfl rfl ?_
  refine G.puti 7 ck_6 2 ((St.i hs).k k_a0) (by decide) (by decide +kernel) rfl wd_377 rfl rfl dX6_holdSheet_7 ?_
  refine G.aload_n 10 0 dX6_holdSheet_10 rfl rfl ?_
  refine G.aload_n 11 2 dX6_holdSheet_11 rfl rfl ?_
  refine G.geti 12 ck_1 6 ((St.i (St.i hs)).k k_a2) (by decide) (by decide +kernel) wd_206 dX6_holdSheet_12 ?_
  refine G.puti 15 ck_6 3 ((St.i (St.i hs)).k k_a0) (by decide) (by decide +kernel) rfl wd_378 rfl rfl dX6_holdSheet_15 ?_
  refine G.aload_n 18 0 dX6_holdSheet_18 rfl rfl ?_
  refine G.getp 19 ck_6 1 (a0 + 1) ((St.i (St.i (St.i hs))).k k_a0) (pt_6_1 (St.i (St.i (St.i hs))) k_a0).1 (by decide) (by decide +kernel) wd_375 dX6_holdSheet_19 ?_
  refine G.aload_n 22 2 dX6_holdSheet_22 rfl rfl ?_
  refine G.getp 23 ck_1 0 (a2 + 1) ((St.i (St.i (St.i hs))).k k_a2) (pt_1_0 (St.i (St.i (St.i hs))) k_a2).1 (by decide) (by decide +kernel) wd_187 dX6_holdSheet_23 ?_
  obtain ⟨q3, e4, hf⟩ := bd_e hf
  refine G.cvV 26 (As := [.ref (zs Z + (a2 + 1))]) ck_5 ((St.i (St.i (St.i hs))).k (pt_6_1 hs k_a0).2) (c_X5_copyFrom Z (St.i (St.i (St.i hs))) (a0 + 1) (a2 + 1) (pt_6_1 hs k_a0).2 (pt_1_0 hs k_a2).2 e4) mk_X5_copyFrom vk_X5_copyFrom rfl wd_1112 hR (by decide +kernel) ⟨rfl, rfl⟩ rfl (Nat.le_of_ble_eq_true rfl) dX6_holdSheet_26 (fun hs1 => ?_)
  (have hf9 := Option.some.inj hf; subst hf9)
  exact G.rV 29 hq dX6_holdSheet_29 hs1
abbrev Y_X6_leastNumber : My := (cX6_leastNumber, RX6, 1)
def rm_X6_leastNumber : Room := { frames := 1, cells := 0, slots := 0, locals := 200 }
theorem dX6_leastNumber_0 : decode cX6_leastNumber 0 = .ok (.aload_n 0, 1) := by decide +kernel
theorem dX6_leastNumber_1 : decode cX6_leastNumber 1 = .ok (.getfield 40, 3) := by decide +kernel
theorem dX6_leastNumber_4 : decode cX6_leastNumber 4 = .ok (.lookupswitch 35 #[(0, 28), (1, 31)], 28) := by decide +kernel
theorem dX6_leastNumber_32 : decode cX6_leastNumber 32 = .ok (.bipush (-128), 2) := by decide +kernel
theorem dX6_leastNumber_34 : decode cX6_leastNumber 34 = .ok (.ireturn, 1) := by decide +kernel
theorem dX6_leastNumber_35 : decode cX6_leastNumber 35 = .ok (.sipush (-32768), 3) := by decide +kernel
theorem dX6_leastNumber_38 : decode cX6_leastNumber 38 = .ok (.ireturn, 1) := by decide +kernel
theorem dX6_leastNumber_39 : decode cX6_leastNumber 39 = .ok (.ldc 64, 2) := by decide +kernel
theorem dX6_leastNumber_41 : decode cX6_leastNumber 41 = .ok (.ireturn, 1) := by decide +kernel
def f_X6_leastNumber (a0 : Nat) (M : Mem) : Int32 := if (mI M a0 4) = (0 : Int32) then (-128 : Int32) else if (mI M a0 4) = (1 : Int32) then (-32768 : Int32) else (-2147483648 : Int32)
set_option maxRecDepth 100000 in
set_option maxHeartbeats 4000000 in
theorem c_X6_leastNumber (Z : Sys) {M : Mem} (hs : St M) (a0 : Nat) (k_a0 : K0[a0]? = some (6, 7)) {q : Int32} (hf : f_X6_leastNumber a0 M = q) : Ct Z yX6_leastNumber cX6_leastNumber 1 (some .int) rm_X6_leastNumber [.ref (zs Z + a0)] M False (PostI q M) := by
  refine Ct.of (by decide +kernel) (Nat.le_of_ble_eq_true rfl) (fun X hR hq _ => ?_)
  show G Z X Y_X6_leastNumber False 0 0 0 [(0, .ref (zs Z + a0))] [] M
  replace hq : RetOk Z X (some .int) False (PostI q M) 0 0 := hq
  unfold f_X6_leastNumber at hf
  refine G.aload_n 0 0 dX6_leastNumber_0 rfl rfl ?_
  refine G.geti 1 ck_6 4 (hs.k k_a0) (by decide) (by decide +kernel) wd_379 dX6_leastNumber_1 ?_
  by_cases h1 : (mI M a0 4) = (0 : Int32)
  · replace hf := (if_pos h1).symm.trans hf
    refine G.lookup 4 32 (off := 28) dX6_leastNumber_4 (by decide +kernel) (by rw [h1]; decide +kernel) (by decide) ?_
    refine G.bipush 32 (-128 : Int32) dX6_leastNumber_32 (by decide +kernel) ?_
    subst hf
    exact G.rI 34 hq dX6_leastNumber_34 hs
  · replace hf := (if_neg h1).symm.trans hf
    by_cases h2 : (mI M a0 4) = (1 : Int32)
    · replace hf := (if_pos h2).symm.trans hf
      refine G.lookup 4 35 (off := 31) dX6_leastNumber_4 (by decide +kernel) (by rw [h2]; decide +kernel) (by decide) ?_
      refine G.sipush 35 (-32768 : Int32) dX6_leastNumber_35 (by decide +kernel) ?_
      subst hf
      exact G.rI 38 hq dX6_leastNumber_38 hs
    · replace hf := (if_neg h2).symm.trans hf
      have t_h1 := ti (0 : Int32) (0) (by decide +kernel) h1
      have t_h2 := ti (1 : Int32) (1) (by decide +kernel) h2
      refine G.lookup 4 39 dX6_leastNumber_4 (by decide +kernel) (lk_d (by intro a ha; simp at ha; omega)) (by decide) ?_
      refine G.ldc 39 (-2147483648 : Int32) wd_540 dX6_leastNumber_39 ?_
      subst hf
      exact G.rI 41 hq dX6_leastNumber_41 hs
abbrev Y_X6_lowestBits : My := (cX6_lowestBits, RX6, 2)
def rm_X6_lowestBits : Room := { frames := 1, cells := 0, slots := 0, locals := 200 }
theorem dX6_lowestBits_0 : decode cX6_lowestBits 0 = .ok (.aload_n 0, 1) := by decide +kernel
theorem dX6_lowestBits_1 : decode cX6_lowestBits 1 = .ok (.getfield 40, 3) := by decide +kernel
theorem dX6_lowestBits_4 : decode cX6_lowestBits 4 = .ok (.lookupswitch 34 #[(0, 28), (1, 31)], 28) := by decide +kernel
theorem dX6_lowestBits_32 : decode cX6_lowestBits 32 = .ok (.iload_n 1, 1) := by decide +kernel
theorem dX6_lowestBits_33 : decode cX6_lowestBits 33 = .ok (.i2b, 1) := by decide +kernel
theorem dX6_lowestBits_34 : decode cX6_lowestBits 34 = .ok (.ireturn, 1) := by decide +kernel
theorem dX6_lowestBits_35 : decode cX6_lowestBits 35 = .ok (.iload_n 1, 1) := by decide +kernel
theorem dX6_lowestBits_36 : decode cX6_lowestBits 36 = .ok (.i2s, 1) := by decide +kernel
theorem dX6_lowestBits_37 : decode cX6_lowestBits 37 = .ok (.ireturn, 1) := by decide +kernel
theorem dX6_lowestBits_38 : decode cX6_lowestBits 38 = .ok (.iload_n 1, 1) := by decide +kernel
theorem dX6_lowestBits_39 : decode cX6_lowestBits 39 = .ok (.ireturn, 1) := by decide +kernel
def f_X6_lowestBits (a0 : Nat) (x1 : Int32) (M : Mem) : Int32 := if (mI M a0 4) = (0 : Int32) then x1.toInt8.toInt32 else if (mI M a0 4) = (1 : Int32) then x1.toInt16.toInt32 else x1
set_option maxRecDepth 100000 in
set_option maxHeartbeats 4000000 in
theorem c_X6_lowestBits (Z : Sys) {M : Mem} (hs : St M) (a0 : Nat) (x1 : Int32) (k_a0 : K0[a0]? = some (6, 7)) {q : Int32} (hf : f_X6_lowestBits a0 x1 M = q) : Ct Z yX6_lowestBits cX6_lowestBits 2 (some .int) rm_X6_lowestBits [.ref (zs Z + a0), .int x1] M False (PostI q M) := by
  refine Ct.of (by decide +kernel) (Nat.le_of_ble_eq_true rfl) (fun X hR hq _ => ?_)
  show G Z X Y_X6_lowestBits False 0 0 0 [(0, .ref (zs Z + a0)), (1, .int x1)] [] M
  replace hq : RetOk Z X (some .int) False (PostI q M) 0 0 := hq
  unfold f_X6_lowestBits at hf
  refine G.aload_n 0 0 dX6_lowestBits_0 rfl rfl ?_
  refine G.geti 1 ck_6 4 (hs.k k_a0) (by decide) (by decide +kernel) wd_379 dX6_lowestBits_1 ?_
  by_cases h1 : (mI M a0 4) = (0 : Int32)
  · replace hf := (if_pos h1).symm.trans hf
    refine G.lookup 4 32 (off := 28) dX6_lowestBits_4 (by decide +kernel) (by rw [h1]; decide +kernel) (by decide) ?_
    refine G.iload_n 32 1 dX6_lowestBits_32 rfl rfl ?_
    refine G.i2b 33 dX6_lowestBits_33 ?_
    subst hf
    exact G.rI 34 hq dX6_lowestBits_34 hs
  · replace hf := (if_neg h1).symm.trans hf
    by_cases h2 : (mI M a0 4) = (1 : Int32)
    · replace hf := (if_pos h2).symm.trans hf
      refine G.lookup 4 35 (off := 31) dX6_lowestBits_4 (by decide +kernel) (by rw [h2]; decide +kernel) (by decide) ?_
      refine G.iload_n 35 1 dX6_lowestBits_35 rfl rfl ?_
      refine G.i2s 36 dX6_lowestBits_36 ?_
      subst hf
      exact G.rI 37 hq dX6_lowestBits_37 hs
    · replace hf := (if_neg h2).symm.trans hf
      have t_h1 := ti (0 : Int32) (0) (by decide +kernel) h1
      have t_h2 := ti (1 : Int32) (1) (by decide +kernel) h2
      refine G.lookup 4 38 dX6_lowestBits_4 (by decide +kernel) (lk_d (by intro a ha; simp at ha; omega)) (by decide) ?_
      refine G.iload_n 38 1 dX6_lowestBits_38 rfl rfl ?_
      subst hf
      exact G.rI 39 hq dX6_lowestBits_39 hs
abbrev Y_X6_tellsNumber : My := (cX6_tellsNumber, RX6, 2)
def rm_X6_tellsNumber : Room := { frames := 3, cells := 0, slots := 0, locals := 243 }
theorem dX6_tellsNumber_0 : decode cX6_tellsNumber 0 = .ok (.aload_n 0, 1) := by decide +kernel
theorem dX6_tellsNumber_1 : decode cX6_tellsNumber 1 = .ok (.iload_n 1, 1) := by decide +kernel
theorem dX6_tellsNumber_2 : decode cX6_tellsNumber 2 = .ok (.invokevirtual 56, 3) := by decide +kernel
theorem dX6_tellsNumber_5 : decode cX6_tellsNumber 5 = .ok (.ifCond .eq 20, 3) := by decide +kernel
theorem dX6_tellsNumber_8 : decode cX6_tellsNumber 8 = .ok (.aload_n 0, 1) := by decide +kernel
theorem dX6_tellsNumber_9 : decode cX6_tellsNumber 9 = .ok (.getfield 22, 3) := by decide +kernel
theorem dX6_tellsNumber_12 : decode cX6_tellsNumber 12 = .ok (.iload_n 1, 1) := by decide +kernel
theorem dX6_tellsNumber_13 : decode cX6_tellsNumber 13 = .ok (.iaload, 1) := by decide +kernel
theorem dX6_tellsNumber_14 : decode cX6_tellsNumber 14 = .ok (.aload_n 0, 1) := by decide +kernel
theorem dX6_tellsNumber_15 : decode cX6_tellsNumber 15 = .ok (.invokevirtual 60, 3) := by decide +kernel
theorem dX6_tellsNumber_18 : decode cX6_tellsNumber 18 = .ok (.if_icmp .eq 7, 3) := by decide +kernel
theorem dX6_tellsNumber_21 : decode cX6_tellsNumber 21 = .ok (.iconst 1, 1) := by decide +kernel
theorem dX6_tellsNumber_22 : decode cX6_tellsNumber 22 = .ok (.goto 4, 3) := by decide +kernel
theorem dX6_tellsNumber_25 : decode cX6_tellsNumber 25 = .ok (.iconst 0, 1) := by decide +kernel
theorem dX6_tellsNumber_26 : decode cX6_tellsNumber 26 = .ok (.ireturn, 1) := by decide +kernel
def f_X6_tellsNumber (a0 : Nat) (x1 : Int32) (M : Mem) : Option Int32 := if (f_X6_hasPlace a0 x1 M) = 0 then some (0 : Int32) else gd (inR x1 80) (if (mI M (a0 + 2) x1.toNatClampNeg) = (f_X6_leastNumber a0 M) then some (0 : Int32) else some (1 : Int32))
set_option maxRecDepth 100000 in
set_option maxHeartbeats 4000000 in
theorem c_X6_tellsNumber (Z : Sys) {M : Mem} (hs : St M) (a0 : Nat) (x1 : Int32) (k_a0 : K0[a0]? = some (6, 7)) {q : Int32} (hf : f_X6_tellsNumber a0 x1 M = some q) : Ct Z yX6_tellsNumber cX6_tellsNumber 2 (some .boolean) rm_X6_tellsNumber [.ref (zs Z + a0), .int x1] M False (PostZ q M) := by
  refine Ct.of (by decide +kernel) (Nat.le_of_ble_eq_true rfl) (fun X hR hq _ => ?_)
  show G Z X Y_X6_tellsNumber False 0 0 0 [(0, .ref (zs Z + a0)), (1, .int x1)] [] M
  replace hq : RetOk Z X (some .boolean) False (PostZ q M) 0 0 := hq
  unfold f_X6_tellsNumber at hf
  refine G.aload_n 0 0 dX6_tellsNumber_0 rfl rfl ?_
  refine G.iload_n 1 1 dX6_tellsNumber_1 rfl rfl ?_
  refine G.cvZ 2 (As := [.int x1]) ck_6 (hs.k k_a0) (c_X6_hasPlace Z hs a0 x1 k_a0 rfl) mk_X6_hasPlace vk_X6_hasPlace rfl wd_531 hR (by decide +kernel) ⟨rfl, rfl⟩ rfl (Nat.le_of_ble_eq_true rfl) dX6_tellsNumber_2 (fun hs1 z2 => ?_)
  refine G.if_eq 5 25 dX6_tellsNumber_5 (by decide) (fun h3 => ?_) (fun h3 => ?_)
  · replace hf := (if_pos h3).symm.trans hf
    refine G.iconst 25 (0 : Int32) dX6_tellsNumber_25 (by decide +kernel) ?_
    (have hf9 := Option.some.inj hf; subst hf9)
    exact G.rZ 26 hq dX6_tellsNumber_26 hs1 (Or.inl rfl)
  · replace hf := (if_neg h3).symm.trans hf
    refine G.aload_n 8 0 dX6_tellsNumber_8 rfl rfl ?_
    refine G.getp 9 ck_6 6 (a0 + 2) (hs1.k k_a0) (pt_6_6 hs1 k_a0).1 (by decide) (by decide +kernel) wd_383 dX6_tellsNumber_9 ?_
    refine G.iload_n 12 1 dX6_tellsNumber_12 rfl rfl ?_
    obtain ⟨g4, hf⟩ := gd_e hf
    refine G.ia 13 x1.toNatClampNeg (hs1.k (pt_6_6 hs1 k_a0).2) g4 rfl dX6_tellsNumber_13 ?_
    refine G.aload_n 14 0 dX6_tellsNumber_14 rfl rfl ?_
    refine G.cvI 15 (As := []) ck_6 (hs1.k k_a0) (c_X6_leastNumber Z hs1 a0 k_a0 rfl) mk_X6_leastNumber vk_X6_leastNumber rfl wd_536 hR (by decide +kernel) ⟨rfl, rfl⟩ rfl (Nat.le_of_ble_eq_true rfl) dX6_tellsNumber_15 (fun hs5 => ?_)
    refine G.icmp_eq 18 25 dX6_tellsNumber_18 (by decide) (fun h7 => ?_) (fun h7 => ?_)
    · replace hf := (if_pos h7).symm.trans hf
      refine G.iconst 25 (0 : Int32) dX6_tellsNumber_25 (by decide +kernel) ?_
      (have hf9 := Option.some.inj hf; subst hf9)
      exact G.rZ 26 hq dX6_tellsNumber_26 hs5 (Or.inl rfl)
    · replace hf := (if_neg h7).symm.trans hf
      refine G.iconst 21 (1 : Int32) dX6_tellsNumber_21 (by decide +kernel) ?_
      refine G.goto 22 26 dX6_tellsNumber_22 (by decide) ?_
      (have hf9 := Option.some.inj hf; subst hf9)
      exact G.rZ 26 hq dX6_tellsNumber_26 hs5 (Or.inr rfl)
abbrev Y_X7_areFew : My := (cX7_areFew, RX7, 1)
def rm_X7_areFew : Room := { frames := 1, cells := 0, slots := 0, locals := 200 }
theorem dX7_areFew_0 : decode cX7_areFew 0 = .ok (.aload_n 0, 1) := by decide +kernel
theorem dX7_areFew_1 : decode cX7_areFew 1 = .ok (.getfield 15, 3) := by decide +kernel
theorem dX7_areFew_4 : decode cX7_areFew 4 = .ok (.bipush 14, 2) := by decide +kernel
theorem dX7_areFew_6 : decode cX7_areFew 6 = .ok (.if_icmp .gt 7, 3) := by decide +kernel
theorem dX7_areFew_9 : decode cX7_areFew 9 = .ok (.iconst 1, 1) := by decide +kernel
theorem dX7_areFew_10 : decode cX7_areFew 10 = .ok (.goto 4, 3) := by decide +kernel
theorem dX7_areFew_13 : decode cX7_areFew 13 = .ok (.iconst 0, 1) := by decide +kernel
theorem dX7_areFew_14 : decode cX7_areFew 14 = .ok (.ireturn, 1) := by decide +kernel
def f_X7_areFew (M : Mem) : Int32 := if (14 : Int32) < (mI M 254 1) then (0 : Int32) else (1 : Int32)
set_option maxRecDepth 100000 in
set_option maxHeartbeats 4000000 in
theorem c_X7_areFew (Z : Sys) {M : Mem} (hs : St M) {q : Int32} (hf : f_X7_areFew M = q) : Ct Z yX7_areFew cX7_areFew 1 (some .boolean) rm_X7_areFew [.ref (zs Z + 254)] M False (PostZ q M) := by
  refine Ct.of (by decide +kernel) (Nat.le_of_ble_eq_true rfl) (fun X hR hq _ => ?_)
  show G Z X Y_X7_areFew False 0 0 0 [(0, .ref (zs Z + 254))] [] M
  replace hq : RetOk Z X (some .boolean) False (PostZ q M) 0 0 := hq
  unfold f_X7_areFew at hf
  refine G.aload_n 0 0 dX7_areFew_0 rfl rfl ?_
  refine G.geti 1 ck_7 1 (hs.k k0_254) (by decide) (by decide +kernel) wd_314 dX7_areFew_1 ?_
  refine G.bipush 4 (14 : Int32) dX7_areFew_4 (by decide +kernel) ?_
  refine G.icmp_gt 6 13 dX7_areFew_6 (by decide) (fun h1 => ?_) (fun h1 => ?_)
  · replace hf := (if_pos h1).symm.trans hf
    refine G.iconst 13 (0 : Int32) dX7_areFew_13 (by decide +kernel) ?_
    subst hf
    exact G.rZ 14 hq dX7_areFew_14 hs (Or.inl rfl)
  · replace hf := (if_neg h1).symm.trans hf
    refine G.iconst 9 (1 : Int32) dX7_areFew_9 (by decide +kernel) ?_
    refine G.goto 10 14 dX7_areFew_10 (by decide) ?_
    subst hf
    exact G.rZ 14 hq dX7_areFew_14 hs (Or.inr rfl)
abbrev Y_X7_areSome : My := (cX7_areSome, RX7, 1)
def rm_X7_areSome : Room := { frames := 1, cells := 0, slots := 0, locals := 200 }
theorem dX7_areSome_0 : decode cX7_areSome 0 = .ok (.aload_n 0, 1) := by decide +kernel
theorem dX7_areSome_1 : decode cX7_areSome 1 = .ok (.getfield 22, 3) := by decide +kernel
theorem dX7_areSome_4 : decode cX7_areSome 4 = .ok (.ifCond .le 18, 3) := by decide +kernel
theorem dX7_areSome_7 : decode cX7_areSome 7 = .ok (.aload_n 0, 1) := by decide +kernel
theorem dX7_areSome_8 : decode cX7_areSome 8 = .ok (.getfield 22, 3) := by decide +kernel
theorem dX7_areSome_11 : decode cX7_areSome 11 = .ok (.aload_n 0, 1) := by decide +kernel
theorem dX7_areSome_12 : decode cX7_areSome 12 = .ok (.getfield 15, 3) := by decide +kernel
theorem dX7_areSome_15 : decode cX7_areSome 15 = .ok (.if_icmp .ge 7, 3) := by decide +kernel
theorem dX7_areSome_18 : decode cX7_areSome 18 = .ok (.iconst 1, 1) := by decide +kernel
theorem dX7_areSome_19 : decode cX7_areSome 19 = .ok (.goto 4, 3) := by decide +kernel
theorem dX7_areSome_22 : decode cX7_areSome 22 = .ok (.iconst 0, 1) := by decide +kernel
theorem dX7_areSome_23 : decode cX7_areSome 23 = .ok (.ireturn, 1) := by decide +kernel
def f_X7_areSome (M : Mem) : Int32 := if (mI M 254 3) ≤ 0 then (0 : Int32) else if (mI M 254 1) ≤ (mI M 254 3) then (0 : Int32) else (1 : Int32)
set_option maxRecDepth 100000 in
set_option maxHeartbeats 4000000 in
theorem c_X7_areSome (Z : Sys) {M : Mem} (hs : St M) {q : Int32} (hf : f_X7_areSome M = q) : Ct Z yX7_areSome cX7_areSome 1 (some .boolean) rm_X7_areSome [.ref (zs Z + 254)] M False (PostZ q M) := by
  refine Ct.of (by decide +kernel) (Nat.le_of_ble_eq_true rfl) (fun X hR hq _ => ?_)
  show G Z X Y_X7_areSome False 0 0 0 [(0, .ref (zs Z + 254))] [] M
  replace hq : RetOk Z X (some .boolean) False (PostZ q M) 0 0 := hq
  unfold f_X7_areSome at hf
  refine G.aload_n 0 0 dX7_areSome_0 rfl rfl ?_
  refine G.geti 1 ck_7 3 (hs.k k0_254) (by decide) (by decide +kernel) wd_316 dX7_areSome_1 ?_
  refine G.if_le 4 22 dX7_areSome_4 (by decide) (fun h1 => ?_) (fun h1 => ?_)
  · replace hf := (if_pos h1).symm.trans hf
    refine G.iconst 22 (0 : Int32) dX7_areSome_22 (by decide +kernel) ?_
    subst hf
    exact G.rZ 23 hq dX7_areSome_23 hs (Or.inl rfl)
  · replace hf := (if_neg h1).symm.trans hf
    refine G.aload_n 7 0 dX7_areSome_7 rfl rfl ?_
    refine G.geti 8 ck_7 3 (hs.k k0_254) (by decide) (by decide +kernel) wd_316 dX7_areSome_8 ?_
    refine G.aload_n 11 0 dX7_areSome_11 rfl rfl ?_
    refine G.geti 12 ck_7 1 (hs.k k0_254) (by decide) (by decide +kernel) wd_314 dX7_areSome_12 ?_
    refine G.icmp_ge 15 22 dX7_areSome_15 (by decide) (fun h2 => ?_) (fun h2 => ?_)
    · replace hf := (if_pos h2).symm.trans hf
      refine G.iconst 22 (0 : Int32) dX7_areSome_22 (by decide +kernel) ?_
      subst hf
      exact G.rZ 23 hq dX7_areSome_23 hs (Or.inl rfl)
    · replace hf := (if_neg h2).symm.trans hf
      refine G.iconst 18 (1 : Int32) dX7_areSome_18 (by decide +kernel) ?_
      refine G.goto 19 23 dX7_areSome_19 (by decide) ?_
      subst hf
      exact G.rZ 23 hq dX7_areSome_23 hs (Or.inr rfl)
abbrev Y_X7_sharesIn : My := (cX7_sharesIn, RX7, 4)
def rm_X7_sharesIn : Room := { frames := 1, cells := 0, slots := 0, locals := 200 }
theorem dX7_sharesIn_0 : decode cX7_sharesIn 0 = .ok (.iconst 0, 1) := by decide +kernel
theorem dX7_sharesIn_1 : decode cX7_sharesIn 1 = .ok (.istore_n 2, 1) := by decide +kernel
theorem dX7_sharesIn_2 : decode cX7_sharesIn 2 = .ok (.iconst 0, 1) := by decide +kernel
theorem dX7_sharesIn_3 : decode cX7_sharesIn 3 = .ok (.istore_n 3, 1) := by decide +kernel
theorem dX7_sharesIn_4 : decode cX7_sharesIn 4 = .ok (.iload_n 3, 1) := by decide +kernel
theorem dX7_sharesIn_5 : decode cX7_sharesIn 5 = .ok (.aload_n 0, 1) := by decide +kernel
theorem dX7_sharesIn_6 : decode cX7_sharesIn 6 = .ok (.getfield 15, 3) := by decide +kernel
theorem dX7_sharesIn_9 : decode cX7_sharesIn 9 = .ok (.if_icmp .ge 24, 3) := by decide +kernel
theorem dX7_sharesIn_12 : decode cX7_sharesIn 12 = .ok (.iload_n 2, 1) := by decide +kernel
theorem dX7_sharesIn_13 : decode cX7_sharesIn 13 = .ok (.iload_n 1, 1) := by decide +kernel
theorem dX7_sharesIn_14 : decode cX7_sharesIn 14 = .ok (.iload_n 3, 1) := by decide +kernel
theorem dX7_sharesIn_15 : decode cX7_sharesIn 15 = .ok (.ishr, 1) := by decide +kernel
theorem dX7_sharesIn_16 : decode cX7_sharesIn 16 = .ok (.iconst 1, 1) := by decide +kernel
theorem dX7_sharesIn_17 : decode cX7_sharesIn 17 = .ok (.iand, 1) := by decide +kernel
theorem dX7_sharesIn_18 : decode cX7_sharesIn 18 = .ok (.aload_n 0, 1) := by decide +kernel
theorem dX7_sharesIn_19 : decode cX7_sharesIn 19 = .ok (.getfield 9, 3) := by decide +kernel
theorem dX7_sharesIn_22 : decode cX7_sharesIn 22 = .ok (.iload_n 3, 1) := by decide +kernel
theorem dX7_sharesIn_23 : decode cX7_sharesIn 23 = .ok (.iaload, 1) := by decide +kernel
theorem dX7_sharesIn_24 : decode cX7_sharesIn 24 = .ok (.imul, 1) := by decide +kernel
theorem dX7_sharesIn_25 : decode cX7_sharesIn 25 = .ok (.iadd, 1) := by decide +kernel
theorem dX7_sharesIn_26 : decode cX7_sharesIn 26 = .ok (.istore_n 2, 1) := by decide +kernel
theorem dX7_sharesIn_27 : decode cX7_sharesIn 27 = .ok (.iinc 3 1, 3) := by decide +kernel
theorem dX7_sharesIn_30 : decode cX7_sharesIn 30 = .ok (.goto (-26), 3) := by decide +kernel
theorem dX7_sharesIn_33 : decode cX7_sharesIn 33 = .ok (.iload_n 2, 1) := by decide +kernel
theorem dX7_sharesIn_34 : decode cX7_sharesIn 34 = .ok (.ireturn, 1) := by decide +kernel
def L_X7_sharesIn_4 : Nat → Int32 → Int32 → Int32 → Mem → Option Int32
  | 0, _, _, _, _ => none
  | n + 1, x1, x2, x3, M => if (mI M 254 1) ≤ x3 then some x2 else gd (inR x3 30) (L_X7_sharesIn_4 n x1 (x2 + (((x1 >>> (x3 &&& 31)) &&& (1 : Int32)) * (mI M 255 x3.toNatClampNeg))) (x3 + 1) M)
def f_X7_sharesIn (x1 : Int32) (M : Mem) : Option Int32 := L_X7_sharesIn_4 FU x1 (0 : Int32) (0 : Int32) M
set_option maxRecDepth 100000 in
set_option maxHeartbeats 4000000 in
theorem l_X7_sharesIn_4 (Z : Sys) (X : Cx) (hR : xR X = rm_X7_sharesIn) {q : Int32} {M : Mem} (hq : RetOk Z X (some .int) False (PostI q M) 0 0) : ∀ (n : Nat) (x1 : Int32) (x2 : Int32) (x3 : Int32) (hs : St M) (hf : L_X7_sharesIn_4 n x1 x2 x3 M = some q), G Z X Y_X7_sharesIn False 0 0 4 [(0, .ref (zs Z + 254)), (1, .int x1), (2, .int x2), (3, .int x3)] [] M := by
  intro n
  induction n with
  | zero => intro x1 x2 x3 hs  hf; cases hf
  | succ n ih =>
    intro x1 x2 x3 hs  hf
    unfold L_X7_sharesIn_4 at hf
    refine G.iload_n 4 3 dX7_sharesIn_4 rfl rfl ?_
    refine G.aload_n 5 0 dX7_sharesIn_5 rfl rfl ?_
    refine G.geti 6 ck_7 1 (hs.k k0_254) (by decide) (by decide +kernel) wd_314 dX7_sharesIn_6 ?_
    refine G.icmp_ge 9 33 dX7_sharesIn_9 (by decide) (fun h1 => ?_) (fun h1 => ?_)
    · replace hf := (if_pos h1).symm.trans hf
      refine G.iload_n 33 2 dX7_sharesIn_33 rfl rfl ?_
      (have hf9 := Option.some.inj hf; subst hf9)
      exact G.rI 34 hq dX7_sharesIn_34 hs
    · replace hf := (if_neg h1).symm.trans hf
      refine G.iload_n 12 2 dX7_sharesIn_12 rfl rfl ?_
      refine G.iload_n 13 1 dX7_sharesIn_13 rfl rfl ?_
      refine G.iload_n 14 3 dX7_sharesIn_14 rfl rfl ?_
      refine G.ishr 15 dX7_sharesIn_15 ?_
      refine G.iconst 16 (1 : Int32) dX7_sharesIn_16 (by decide +kernel) ?_
      refine G.iand 17 dX7_sharesIn_17 ?_
      refine G.aload_n 18 0 dX7_sharesIn_18 rfl rfl ?_
      refine G.getp 19 ck_7 0 255 (hs.k k0_254) (pc_7_0 hs) (by decide) (by decide +kernel) wd_313 dX7_sharesIn_19 ?_
      refine G.iload_n 22 3 dX7_sharesIn_22 rfl rfl ?_
      obtain ⟨g2, hf⟩ := gd_e hf
      refine G.ia 23 x3.toNatClampNeg (hs.k k0_255) g2 rfl dX7_sharesIn_23 ?_
      refine G.imul 24 dX7_sharesIn_24 ?_
      refine G.iadd 25 dX7_sharesIn_25 ?_
      refine G.istore_n 26 [(2, .int (x2 + (((x1 >>> (x3 &&& 31)) &&& (1 : Int32)) * (mI M 255 x3.toNatClampNeg)))), (0, .ref (zs Z + 254)), (1, .int x1), (3, .int x3)] dX7_sharesIn_26 rfl (Nat.le_of_ble_eq_true rfl) rfl ?_
      refine G.iinc 27 3 (x3 + 1) [(3, .int (x3 + 1)), (2, .int (x2 + (((x1 >>> (x3 &&& 31)) &&& (1 : Int32)) * (mI M 255 x3.toNatClampNeg)))), (0, .ref (zs Z + 254)), (1, .int x1)] dX7_sharesIn_27 rfl (congrArg (fun z => x3 + z) (by decide +kernel)) (Nat.le_of_ble_eq_true rfl) rfl ?_
      refine G.goto 30 4 dX7_sharesIn_30 (by decide) ?_
      refine G.locs [2, 3, 1, 0] rfl ?_
      exact ih x1 (x2 + (((x1 >>> (x3 &&& 31)) &&& (1 : Int32)) * (mI M 255 x3.toNatClampNeg))) (x3 + 1) hs hf
set_option maxRecDepth 100000 in
set_option maxHeartbeats 4000000 in
theorem c_X7_sharesIn (Z : Sys) {M : Mem} (hs : St M) (x1 : Int32) {q : Int32} (hf : f_X7_sharesIn x1 M = some q) : Ct Z yX7_sharesIn cX7_sharesIn 4 (some .int) rm_X7_sharesIn [.ref (zs Z + 254), .int x1] M False (PostI q M) := by
  refine Ct.of (by decide +kernel) (Nat.le_of_ble_eq_true rfl) (fun X hR hq _ => ?_)
  show G Z X Y_X7_sharesIn False 0 0 0 [(0, .ref (zs Z + 254)), (1, .int x1)] [] M
  replace hq : RetOk Z X (some .int) False (PostI q M) 0 0 := hq
  unfold f_X7_sharesIn at hf
  refine G.iconst 0 (0 : Int32) dX7_sharesIn_0 (by decide +kernel) ?_
  refine G.istore_n 1 [(2, .int (0 : Int32)), (0, .ref (zs Z + 254)), (1, .int x1)] dX7_sharesIn_1 rfl (Nat.le_of_ble_eq_true rfl) rfl ?_
  refine G.iconst 2 (0 : Int32) dX7_sharesIn_2 (by decide +kernel) ?_
  refine G.istore_n 3 [(3, .int (0 : Int32)), (2, .int (0 : Int32)), (0, .ref (zs Z + 254)), (1, .int x1)] dX7_sharesIn_3 rfl (Nat.le_of_ble_eq_true rfl) rfl ?_
  refine G.locs [2, 3, 1, 0] rfl ?_
  exact l_X7_sharesIn_4 Z X hR hq FU x1 (0 : Int32) (0 : Int32) hs hf
abbrev Y_X7_choices : My := (cX7_choices, RX7, 4)
def rm_X7_choices : Room := { frames := 2, cells := 0, slots := 0, locals := 223 }
theorem dX7_choices_0 : decode cX7_choices 0 = .ok (.iconst 0, 1) := by decide +kernel
theorem dX7_choices_1 : decode cX7_choices 1 = .ok (.istore_n 2, 1) := by decide +kernel
theorem dX7_choices_2 : decode cX7_choices 2 = .ok (.iconst 0, 1) := by decide +kernel
theorem dX7_choices_3 : decode cX7_choices 3 = .ok (.istore_n 3, 1) := by decide +kernel
theorem dX7_choices_4 : decode cX7_choices 4 = .ok (.aload_n 0, 1) := by decide +kernel
theorem dX7_choices_5 : decode cX7_choices 5 = .ok (.invokevirtual 49, 3) := by decide +kernel
theorem dX7_choices_8 : decode cX7_choices 8 = .ok (.ifCond .eq 49, 3) := by decide +kernel
theorem dX7_choices_11 : decode cX7_choices 11 = .ok (.iload_n 3, 1) := by decide +kernel
theorem dX7_choices_12 : decode cX7_choices 12 = .ok (.iconst 1, 1) := by decide +kernel
theorem dX7_choices_13 : decode cX7_choices 13 = .ok (.aload_n 0, 1) := by decide +kernel
theorem dX7_choices_14 : decode cX7_choices 14 = .ok (.getfield 15, 3) := by decide +kernel
theorem dX7_choices_17 : decode cX7_choices 17 = .ok (.ishl, 1) := by decide +kernel
theorem dX7_choices_18 : decode cX7_choices 18 = .ok (.if_icmp .ge 39, 3) := by decide +kernel
theorem dX7_choices_21 : decode cX7_choices 21 = .ok (.iload_n 3, 1) := by decide +kernel
theorem dX7_choices_22 : decode cX7_choices 22 = .ok (.invokestatic 53, 3) := by decide +kernel
theorem dX7_choices_25 : decode cX7_choices 25 = .ok (.aload_n 0, 1) := by decide +kernel
theorem dX7_choices_26 : decode cX7_choices 26 = .ok (.getfield 22, 3) := by decide +kernel
theorem dX7_choices_29 : decode cX7_choices 29 = .ok (.if_icmp .ne 22, 3) := by decide +kernel
theorem dX7_choices_32 : decode cX7_choices 32 = .ok (.iload_n 1, 1) := by decide +kernel
theorem dX7_choices_33 : decode cX7_choices 33 = .ok (.ifCond .ne 15, 3) := by decide +kernel
theorem dX7_choices_36 : decode cX7_choices 36 = .ok (.aload_n 0, 1) := by decide +kernel
theorem dX7_choices_37 : decode cX7_choices 37 = .ok (.iload_n 3, 1) := by decide +kernel
theorem dX7_choices_38 : decode cX7_choices 38 = .ok (.invokevirtual 59, 3) := by decide +kernel
theorem dX7_choices_41 : decode cX7_choices 41 = .ok (.aload_n 0, 1) := by decide +kernel
theorem dX7_choices_42 : decode cX7_choices 42 = .ok (.getfield 25, 3) := by decide +kernel
theorem dX7_choices_45 : decode cX7_choices 45 = .ok (.if_icmp .gt 6, 3) := by decide +kernel
theorem dX7_choices_48 : decode cX7_choices 48 = .ok (.iinc 2 1, 3) := by decide +kernel
theorem dX7_choices_51 : decode cX7_choices 51 = .ok (.iinc 3 1, 3) := by decide +kernel
theorem dX7_choices_54 : decode cX7_choices 54 = .ok (.goto (-50), 3) := by decide +kernel
theorem dX7_choices_57 : decode cX7_choices 57 = .ok (.iload_n 2, 1) := by decide +kernel
theorem dX7_choices_58 : decode cX7_choices 58 = .ok (.ireturn, 1) := by decide +kernel
def B_X7_choices_51 (rc_4 : Int32 → Int32 → Int32 → Mem → Option Int32) (x1 : Int32) (x2 : Int32) (x3 : Int32) (M : Mem) : Option Int32 := rc_4 x1 x2 (x3 + 1) M
def B_X7_choices_48 (rc_4 : Int32 → Int32 → Int32 → Mem → Option Int32) (x1 : Int32) (x2 : Int32) (x3 : Int32) (M : Mem) : Option Int32 := B_X7_choices_51 rc_4 x1 (x2 + 1) x3 M
def L_X7_choices_4 : Nat → Int32 → Int32 → Int32 → Mem → Option Int32
  | 0, _, _, _, _ => none
  | n + 1, x1, x2, x3, M => if (f_X7_areFew M) = 0 then some x2 else if ((1 : Int32) <<< ((mI M 254 1) &&& 31)) ≤ x3 then some x2 else if (f_J6_bitCount_0f7a4 x3) = (mI M 254 3) then if x1 = 0 then (f_X7_sharesIn x3 M).bind fun q11 => if (mI M 254 4) < q11 then B_X7_choices_51 (L_X7_choices_4 n) x1 x2 x3 M else B_X7_choices_48 (L_X7_choices_4 n) x1 x2 x3 M else B_X7_choices_48 (L_X7_choices_4 n) x1 x2 x3 M else B_X7_choices_51 (L_X7_choices_4 n) x1 x2 x3 M
def f_X7_choices (x1 : Int32) (M : Mem) : Option Int32 := L_X7_choices_4 FU x1 (0 : Int32) (0 : Int32) M
set_option maxRecDepth 100000 in
set_option maxHeartbeats 4000000 in
theorem b_X7_choices_51 (Z : Sys) (X : Cx) (hR : xR X = rm_X7_choices) {q : Int32} {M : Mem} (hq : RetOk Z X (some .int) False (PostI q M) 0 0) (rc_4 : Int32 → Int32 → Int32 → Mem → Option Int32) (hrc_4 : ∀ (x1 : Int32) (x2 : Int32) (x3 : Int32), St M → rc_4 x1 x2 x3 M = some q → G Z X Y_X7_choices False 0 0 4 [(0, .ref (zs Z + 254)), (1, .int x1), (2, .int x2), (3, .int x3)] [] M) (x1 : Int32) (x2 : Int32) (x3 : Int32) (hs : St M) (hf : B_X7_choices_51 rc_4 x1 x2 x3 M = some q) : G Z X Y_X7_choices False 0 0 51 [(0, .ref (zs Z + 254)), (1, .int x1), (2, .int x2), (3, .int x3)] [] M := by
  unfold B_X7_choices_51 at hf
  refine G.iinc 51 3 (x3 + 1) [(3, .int (x3 + 1)), (0, .ref (zs Z + 254)), (1, .int x1), (2, .int x2)] dX7_choices_51 rfl (congrArg (fun z => x3 + z) (by decide +kernel)) (Nat.le_of_ble_eq_true rfl) rfl ?_
  refine G.goto 54 4 dX7_choices_54 (by decide) ?_
  refine G.locs [1, 2, 3, 0] rfl ?_
  exact hrc_4 x1 x2 (x3 + 1) hs hf
set_option maxRecDepth 100000 in
set_option maxHeartbeats 4000000 in
theorem b_X7_choices_48 (Z : Sys) (X : Cx) (hR : xR X = rm_X7_choices) {q : Int32} {M : Mem} (hq : RetOk Z X (some .int) False (PostI q M) 0 0) (rc_4 : Int32 → Int32 → Int32 → Mem → Option Int32) (hrc_4 : ∀ (x1 : Int32) (x2 : Int32) (x3 : Int32), St M → rc_4 x1 x2 x3 M = some q → G Z X Y_X7_choices False 0 0 4 [(0, .ref (zs Z + 254)), (1, .int x1), (2, .int x2), (3, .int x3)] [] M) (x1 : Int32) (x2 : Int32) (x3 : Int32) (hs : St M) (hf : B_X7_choices_48 rc_4 x1 x2 x3 M = some q) : G Z X Y_X7_choices False 0 0 48 [(0, .ref (zs Z + 254)), (1, .int x1), (2, .int x2), (3, .int x3)] [] M := by
  unfold B_X7_choices_48 at hf
  refine G.iinc 48 2 (x2 + 1) [(2, .int (x2 + 1)), (0, .ref (zs Z + 254)), (1, .int x1), (3, .int x3)] dX7_choices_48 rfl (congrArg (fun z => x2 + z) (by decide +kernel)) (Nat.le_of_ble_eq_true rfl) rfl ?_
  refine G.locs [1, 2, 0, 3] rfl ?_
  exact b_X7_choices_51 Z X hR hq rc_4 hrc_4 x1 (x2 + 1) x3 hs hf
set_option maxRecDepth 100000 in
set_option maxHeartbeats 4000000 in
theorem l_X7_choices_4 (Z : Sys) (X : Cx) (hR : xR X = rm_X7_choices) {q : Int32} {M : Mem} (hq : RetOk Z X (some .int) False (PostI q M) 0 0) : ∀ (n : Nat) (x1 : Int32) (x2 : Int32) (x3 : Int32) (hs : St M) (hf : L_X7_choices_4 n x1 x2 x3 M = some q), G Z X Y_X7_choices False 0 0 4 [(0, .ref (zs Z + 254)), (1, .int x1), (2, .int x2), (3, .int x3)] [] M := by
  intro n
  induction n with
  | zero => intro x1 x2 x3 hs  hf; cases hf
  | succ n ih =>
    intro x1 x2 x3 hs  hf
    unfold L_X7_choices_4 at hf
    refine G.aload_n 4 0 dX7_choices_4 rfl rfl ?_
    refine G.cvZ 5 (As := []) ck_7 (hs.k k0_254) (c_X7_areFew Z hs rfl) mk_X7_areFew vk_X7_areFew rfl wd_671 hR (by decide +kernel) ⟨rfl, rfl⟩ rfl (Nat.le_of_ble_eq_true rfl) dX7_choices_5 (fun hs1 z2 => ?_)
    refine G.if_eq 8 57 dX7_choices_8 (by decide) (fun h3 => ?_) (fun h3 => ?_)
    · replace hf := (if_pos h3).symm.trans hf
      refine G.iload_n 57 2 dX7_choices_57 rfl rfl ?_
      (have hf9 := Option.some.inj hf; subst hf9)
      exact G.rI 58 hq dX7_choices_58 hs1
    · replace hf := (if_neg h3).symm.trans hf
      refine G.iload_n 11 3 dX7_choices_11 rfl rfl ?_
      refine G.iconst 12 (1 : Int32) dX7_choices_12 (by decide +kernel) ?_
      refine G.aload_n 13 0 dX7_choices_13 rfl rfl ?_
      refine G.geti 14 ck_7 1 (hs1.k k0_254) (by decide) (by decide +kernel) wd_314 dX7_choices_14 ?_
      refine G.ishl 17 dX7_choices_17 ?_
      refine G.icmp_ge 18 57 dX7_choices_18 (by decide) (fun h4 => ?_) (fun h4 => ?_)
      · replace hf := (if_pos h4).symm.trans hf
        refine G.iload_n 57 2 dX7_choices_57 rfl rfl ?_
        (have hf9 := Option.some.inj hf; subst hf9)
        exact G.rI 58 hq dX7_choices_58 hs1
      · replace hf := (if_neg h4).symm.trans hf
        refine G.iload_n 21 3 dX7_choices_21 rfl rfl ?_
        refine G.csI 22 (As := [.int x3]) (c_J6_bitCount_0f7a4 Z hs1 x3 rfl) mk_J6_bitCount_0f7a4 wd_673 wd_672 hR (by decide +kernel) ⟨rfl, rfl⟩ rfl (Nat.le_of_ble_eq_true rfl) dX7_choices_22 (fun hs5 => ?_)
        refine G.aload_n 25 0 dX7_choices_25 rfl rfl ?_
        refine G.geti 26 ck_7 3 (hs5.k k0_254) (by decide) (by decide +kernel) wd_316 dX7_choices_26 ?_
        refine G.icmp_ne 29 51 dX7_choices_29 (by decide) (fun h7 => ?_) (fun h7 => ?_)
        · replace hf := (if_neg h7).symm.trans hf
          exact b_X7_choices_51 Z X hR hq (L_X7_choices_4 n) ih x1 x2 x3 hs5 hf
        · replace hf := (if_pos h7).symm.trans hf
          refine G.iload_n 32 1 dX7_choices_32 rfl rfl ?_
          refine G.if_ne 33 48 dX7_choices_33 (by decide) (fun h8 => ?_) (fun h8 => ?_)
          · replace hf := (if_neg h8).symm.trans hf
            exact b_X7_choices_48 Z X hR hq (L_X7_choices_4 n) ih x1 x2 x3 hs5 hf
          · replace hf := (if_pos h8).symm.trans hf
            refine G.aload_n 36 0 dX7_choices_36 rfl rfl ?_
            refine G.iload_n 37 3 dX7_choices_37 rfl rfl ?_
            obtain ⟨q11, e12, hf⟩ := bd_e hf
            refine G.cvI 38 (As := [.int x3]) ck_7 (hs5.k k0_254) (c_X7_sharesIn Z hs5 x3 e12) mk_X7_sharesIn vk_X7_sharesIn rfl wd_678 hR (by decide +kernel) ⟨rfl, rfl⟩ rfl (Nat.le_of_ble_eq_true rfl) dX7_choices_38 (fun hs9 => ?_)
            refine G.aload_n 41 0 dX7_choices_41 rfl rfl ?_
            refine G.geti 42 ck_7 4 (hs9.k k0_254) (by decide) (by decide +kernel) wd_317 dX7_choices_42 ?_
            refine G.icmp_gt 45 51 dX7_choices_45 (by decide) (fun h13 => ?_) (fun h13 => ?_)
            · replace hf := (if_pos h13).symm.trans hf
              exact b_X7_choices_51 Z X hR hq (L_X7_choices_4 n) ih x1 x2 x3 hs9 hf
            · replace hf := (if_neg h13).symm.trans hf
              exact b_X7_choices_48 Z X hR hq (L_X7_choices_4 n) ih x1 x2 x3 hs9 hf
set_option maxRecDepth 100000 in
set_option maxHeartbeats 4000000 in
theorem c_X7_choices (Z : Sys) {M : Mem} (hs : St M) (x1 : Int32) {q : Int32} (hf : f_X7_choices x1 M = some q) : Ct Z yX7_choices cX7_choices 4 (some .int) rm_X7_choices [.ref (zs Z + 254), .int x1] M False (PostI q M) := by
  refine Ct.of (by decide +kernel) (Nat.le_of_ble_eq_true rfl) (fun X hR hq _ => ?_)
  show G Z X Y_X7_choices False 0 0 0 [(0, .ref (zs Z + 254)), (1, .int x1)] [] M
  replace hq : RetOk Z X (some .int) False (PostI q M) 0 0 := hq
  unfold f_X7_choices at hf
  refine G.iconst 0 (0 : Int32) dX7_choices_0 (by decide +kernel) ?_
  refine G.istore_n 1 [(2, .int (0 : Int32)), (0, .ref (zs Z + 254)), (1, .int x1)] dX7_choices_1 rfl (Nat.le_of_ble_eq_true rfl) rfl ?_
  refine G.iconst 2 (0 : Int32) dX7_choices_2 (by decide +kernel) ?_
  refine G.istore_n 3 [(3, .int (0 : Int32)), (2, .int (0 : Int32)), (0, .ref (zs Z + 254)), (1, .int x1)] dX7_choices_3 rfl (Nat.le_of_ble_eq_true rfl) rfl ?_
  refine G.locs [2, 3, 1, 0] rfl ?_
  exact l_X7_choices_4 Z X hR hq FU x1 (0 : Int32) (0 : Int32) hs hf
abbrev Y_X7_look : My := (cX7_look, RX7, 4)
def rm_X7_look : Room := { frames := 3, cells := 0, slots := 0, locals := 241 }
theorem dX7_look_0 : decode cX7_look 0 = .ok (.aload_n 0, 1) := by decide +kernel
theorem dX7_look_1 : decode cX7_look 1 = .ok (.iconst 0, 1) := by decide +kernel
theorem dX7_look_2 : decode cX7_look 2 = .ok (.putfield 15, 3) := by decide +kernel
theorem dX7_look_5 : decode cX7_look 5 = .ok (.aload_n 0, 1) := by decide +kernel
theorem dX7_look_6 : decode cX7_look 6 = .ok (.iconst 0, 1) := by decide +kernel
theorem dX7_look_7 : decode cX7_look 7 = .ok (.putfield 19, 3) := by decide +kernel
theorem dX7_look_10 : decode cX7_look 10 = .ok (.aload_n 0, 1) := by decide +kernel
theorem dX7_look_11 : decode cX7_look 11 = .ok (.iconst 0, 1) := by decide +kernel
theorem dX7_look_12 : decode cX7_look 12 = .ok (.putfield 22, 3) := by decide +kernel
theorem dX7_look_15 : decode cX7_look 15 = .ok (.aload_n 0, 1) := by decide +kernel
theorem dX7_look_16 : decode cX7_look 16 = .ok (.iconst 0, 1) := by decide +kernel
theorem dX7_look_17 : decode cX7_look 17 = .ok (.putfield 25, 3) := by decide +kernel
theorem dX7_look_20 : decode cX7_look 20 = .ok (.iconst 0, 1) := by decide +kernel
theorem dX7_look_21 : decode cX7_look 21 = .ok (.istore_n 2, 1) := by decide +kernel
theorem dX7_look_22 : decode cX7_look 22 = .ok (.iload_n 2, 1) := by decide +kernel
theorem dX7_look_23 : decode cX7_look 23 = .ok (.aload_n 1, 1) := by decide +kernel
theorem dX7_look_24 : decode cX7_look 24 = .ok (.getfield 28, 3) := by decide +kernel
theorem dX7_look_27 : decode cX7_look 27 = .ok (.if_icmp .ge 110, 3) := by decide +kernel
theorem dX7_look_30 : decode cX7_look 30 = .ok (.iload_n 2, 1) := by decide +kernel
theorem dX7_look_31 : decode cX7_look 31 = .ok (.bipush 30, 2) := by decide +kernel
theorem dX7_look_33 : decode cX7_look 33 = .ok (.if_icmp .ge 104, 3) := by decide +kernel
theorem dX7_look_36 : decode cX7_look 36 = .ok (.aload_n 1, 1) := by decide +kernel
theorem dX7_look_37 : decode cX7_look 37 = .ok (.getfield 33, 3) := by decide +kernel
theorem dX7_look_40 : decode cX7_look 40 = .ok (.iload_n 2, 1) := by decide +kernel
theorem dX7_look_41 : decode cX7_look 41 = .ok (.aaload, 1) := by decide +kernel
theorem dX7_look_42 : decode cX7_look 42 = .ok (.astore_n 3, 1) := by decide +kernel
theorem dX7_look_43 : decode cX7_look 43 = .ok (.aload_n 3, 1) := by decide +kernel
theorem dX7_look_44 : decode cX7_look 44 = .ok (.getfield 37, 3) := by decide +kernel
theorem dX7_look_47 : decode cX7_look 47 = .ok (.ifCond .ne 84, 3) := by decide +kernel
theorem dX7_look_50 : decode cX7_look 50 = .ok (.aload_n 0, 1) := by decide +kernel
theorem dX7_look_51 : decode cX7_look 51 = .ok (.getfield 9, 3) := by decide +kernel
theorem dX7_look_54 : decode cX7_look 54 = .ok (.aload_n 0, 1) := by decide +kernel
theorem dX7_look_55 : decode cX7_look 55 = .ok (.getfield 15, 3) := by decide +kernel
theorem dX7_look_58 : decode cX7_look 58 = .ok (.aload_n 3, 1) := by decide +kernel
theorem dX7_look_59 : decode cX7_look 59 = .ok (.invokevirtual 43, 3) := by decide +kernel
theorem dX7_look_62 : decode cX7_look 62 = .ok (.iastore, 1) := by decide +kernel
theorem dX7_look_63 : decode cX7_look 63 = .ok (.aload_n 0, 1) := by decide +kernel
theorem dX7_look_64 : decode cX7_look 64 = .ok (.dup, 1) := by decide +kernel
theorem dX7_look_65 : decode cX7_look 65 = .ok (.getfield 15, 3) := by decide +kernel
theorem dX7_look_68 : decode cX7_look 68 = .ok (.iconst 1, 1) := by decide +kernel
theorem dX7_look_69 : decode cX7_look 69 = .ok (.iadd, 1) := by decide +kernel
theorem dX7_look_70 : decode cX7_look 70 = .ok (.putfield 15, 3) := by decide +kernel
theorem dX7_look_73 : decode cX7_look 73 = .ok (.aload_n 0, 1) := by decide +kernel
theorem dX7_look_74 : decode cX7_look 74 = .ok (.dup, 1) := by decide +kernel
theorem dX7_look_75 : decode cX7_look 75 = .ok (.getfield 19, 3) := by decide +kernel
theorem dX7_look_78 : decode cX7_look 78 = .ok (.aload_n 3, 1) := by decide +kernel
theorem dX7_look_79 : decode cX7_look 79 = .ok (.invokevirtual 43, 3) := by decide +kernel
theorem dX7_look_82 : decode cX7_look 82 = .ok (.iadd, 1) := by decide +kernel
theorem dX7_look_83 : decode cX7_look 83 = .ok (.putfield 19, 3) := by decide +kernel
theorem dX7_look_86 : decode cX7_look 86 = .ok (.aload_n 0, 1) := by decide +kernel
theorem dX7_look_87 : decode cX7_look 87 = .ok (.dup, 1) := by decide +kernel
theorem dX7_look_88 : decode cX7_look 88 = .ok (.getfield 22, 3) := by decide +kernel
theorem dX7_look_91 : decode cX7_look 91 = .ok (.aload_n 3, 1) := by decide +kernel
theorem dX7_look_92 : decode cX7_look 92 = .ok (.getfield 47, 3) := by decide +kernel
theorem dX7_look_95 : decode cX7_look 95 = .ok (.ifCond .eq 7, 3) := by decide +kernel
theorem dX7_look_98 : decode cX7_look 98 = .ok (.iconst 1, 1) := by decide +kernel
theorem dX7_look_99 : decode cX7_look 99 = .ok (.goto 4, 3) := by decide +kernel
theorem dX7_look_102 : decode cX7_look 102 = .ok (.iconst 0, 1) := by decide +kernel
theorem dX7_look_103 : decode cX7_look 103 = .ok (.iadd, 1) := by decide +kernel
theorem dX7_look_104 : decode cX7_look 104 = .ok (.putfield 22, 3) := by decide +kernel
theorem dX7_look_107 : decode cX7_look 107 = .ok (.aload_n 0, 1) := by decide +kernel
theorem dX7_look_108 : decode cX7_look 108 = .ok (.dup, 1) := by decide +kernel
theorem dX7_look_109 : decode cX7_look 109 = .ok (.getfield 25, 3) := by decide +kernel
theorem dX7_look_112 : decode cX7_look 112 = .ok (.aload_n 3, 1) := by decide +kernel
theorem dX7_look_113 : decode cX7_look 113 = .ok (.getfield 47, 3) := by decide +kernel
theorem dX7_look_116 : decode cX7_look 116 = .ok (.ifCond .eq 10, 3) := by decide +kernel
theorem dX7_look_119 : decode cX7_look 119 = .ok (.aload_n 3, 1) := by decide +kernel
theorem dX7_look_120 : decode cX7_look 120 = .ok (.invokevirtual 43, 3) := by decide +kernel
theorem dX7_look_123 : decode cX7_look 123 = .ok (.goto 4, 3) := by decide +kernel
theorem dX7_look_126 : decode cX7_look 126 = .ok (.iconst 0, 1) := by decide +kernel
theorem dX7_look_127 : decode cX7_look 127 = .ok (.iadd, 1) := by decide +kernel
theorem dX7_look_128 : decode cX7_look 128 = .ok (.putfield 25, 3) := by decide +kernel
theorem dX7_look_131 : decode cX7_look 131 = .ok (.iinc 2 1, 3) := by decide +kernel
theorem dX7_look_134 : decode cX7_look 134 = .ok (.goto (-112), 3) := by decide +kernel
theorem dX7_look_137 : decode cX7_look 137 = .ok (.return_, 1) := by decide +kernel
def B_X7_look_131 (rc_22 : Nat → Int32 → Mem → Option Mem) (a1 : Nat) (x2 : Int32) (M : Mem) : Option Mem := rc_22 a1 (x2 + 1) M
def L_X7_look_22 : Nat → Nat → Int32 → Mem → Option Mem
  | 0, _, _, _ => none
  | n + 1, a1, x2, M => if (mI M a1 1) ≤ x2 then some M else if (30 : Int32) ≤ x2 then some M else gd (inR x2 30) (if (mI M ((a1 + 1) + 23 + 2 * x2.toNatClampNeg) 9) = 0 then (f_X1_share ((a1 + 1) + 23 + 2 * x2.toNatClampNeg) M).bind fun q7 => gd (inR (mI M 254 1) 30) ((f_X1_share ((a1 + 1) + 23 + 2 * x2.toNatClampNeg) (sI (sI M 255 (mI M 254 1).toNatClampNeg q7) 254 1 ((mI (sI M 255 (mI M 254 1).toNatClampNeg q7) 254 1) + (1 : Int32)))).bind fun q12 => if (mI (sI (sI (sI M 255 (mI M 254 1).toNatClampNeg q7) 254 1 ((mI (sI M 255 (mI M 254 1).toNatClampNeg q7) 254 1) + (1 : Int32))) 254 2 ((mI (sI (sI M 255 (mI M 254 1).toNatClampNeg q7) 254 1 ((mI (sI M 255 (mI M 254 1).toNatClampNeg q7) 254 1) + (1 : Int32))) 254 2) + q12)) ((a1 + 1) + 23 + 2 * x2.toNatClampNeg) 8) = 0 then if (mI (sI (sI (sI (sI M 255 (mI M 254 1).toNatClampNeg q7) 254 1 ((mI (sI M 255 (mI M 254 1).toNatClampNeg q7) 254 1) + (1 : Int32))) 254 2 ((mI (sI (sI M 255 (mI M 254 1).toNatClampNeg q7) 254 1 ((mI (sI M 255 (mI M 254 1).toNatClampNeg q7) 254 1) + (1 : Int32))) 254 2) + q12)) 254 3 ((mI (sI (sI (sI M 255 (mI M 254 1).toNatClampNeg q7) 254 1 ((mI (sI M 255 (mI M 254 1).toNatClampNeg q7) 254 1) + (1 : Int32))) 254 2 ((mI (sI (sI M 255 (mI M 254 1).toNatClampNeg q7) 254 1 ((mI (sI M 255 (mI M 254 1).toNatClampNeg q7) 254 1) + (1 : Int32))) 254 2) + q12)) 254 3) + (0 : Int32))) ((a1 + 1) + 23 + 2 * x2.toNatClampNeg) 8) = 0 then B_X7_look_131 (L_X7_look_22 n) a1 x2 (sI (sI (sI (sI (sI M 255 (mI M 254 1).toNatClampNeg q7) 254 1 ((mI (sI M 255 (mI M 254 1).toNatClampNeg q7) 254 1) + (1 : Int32))) 254 2 ((mI (sI (sI M 255 (mI M 254 1).toNatClampNeg q7) 254 1 ((mI (sI M 255 (mI M 254 1).toNatClampNeg q7) 254 1) + (1 : Int32))) 254 2) + q12)) 254 3 ((mI (sI (sI (sI M 255 (mI M 254 1).toNatClampNeg q7) 254 1 ((mI (sI M 255 (mI M 254 1).toNatClampNeg q7) 254 1) + (1 : Int32))) 254 2 ((mI (sI (sI M 255 (mI M 254 1).toNatClampNeg q7) 254 1 ((mI (sI M 255 (mI M 254 1).toNatClampNeg q7) 254 1) + (1 : Int32))) 254 2) + q12)) 254 3) + (0 : Int32))) 254 4 ((mI (sI (sI (sI (sI M 255 (mI M 254 1).toNatClampNeg q7) 254 1 ((mI (sI M 255 (mI M 254 1).toNatClampNeg q7) 254 1) + (1 : Int32))) 254 2 ((mI (sI (sI M 255 (mI M 254 1).toNatClampNeg q7) 254 1 ((mI (sI M 255 (mI M 254 1).toNatClampNeg q7) 254 1) + (1 : Int32))) 254 2) + q12)) 254 3 ((mI (sI (sI (sI M 255 (mI M 254 1).toNatClampNeg q7) 254 1 ((mI (sI M 255 (mI M 254 1).toNatClampNeg q7) 254 1) + (1 : Int32))) 254 2 ((mI (sI (sI M 255 (mI M 254 1).toNatClampNeg q7) 254 1 ((mI (sI M 255 (mI M 254 1).toNatClampNeg q7) 254 1) + (1 : Int32))) 254 2) + q12)) 254 3) + (0 : Int32))) 254 4) + (0 : Int32))) else (f_X1_share ((a1 + 1) + 23 + 2 * x2.toNatClampNeg) (sI (sI (sI (sI M 255 (mI M 254 1).toNatClampNeg q7) 254 1 ((mI (sI M 255 (mI M 254 1).toNatClampNeg q7) 254 1) + (1 : Int32))) 254 2 ((mI (sI (sI M 255 (mI M 254 1).toNatClampNeg q7) 254 1 ((mI (sI M 255 (mI M 254 1).toNatClampNeg q7) 254 1) + (1 : Int32))) 254 2) + q12)) 254 3 ((mI (sI (sI (sI M 255 (mI M 254 1).toNatClampNeg q7) 254 1 ((mI (sI M 255 (mI M 254 1).toNatClampNeg q7) 254 1) + (1 : Int32))) 254 2 ((mI (sI (sI M 255 (mI M 254 1).toNatClampNeg q7) 254 1 ((mI (sI M 255 (mI M 254 1).toNatClampNeg q7) 254 1) + (1 : Int32))) 254 2) + q12)) 254 3) + (0 : Int32)))).bind fun q18 => B_X7_look_131 (L_X7_look_22 n) a1 x2 (sI (sI (sI (sI (sI M 255 (mI M 254 1).toNatClampNeg q7) 254 1 ((mI (sI M 255 (mI M 254 1).toNatClampNeg q7) 254 1) + (1 : Int32))) 254 2 ((mI (sI (sI M 255 (mI M 254 1).toNatClampNeg q7) 254 1 ((mI (sI M 255 (mI M 254 1).toNatClampNeg q7) 254 1) + (1 : Int32))) 254 2) + q12)) 254 3 ((mI (sI (sI (sI M 255 (mI M 254 1).toNatClampNeg q7) 254 1 ((mI (sI M 255 (mI M 254 1).toNatClampNeg q7) 254 1) + (1 : Int32))) 254 2 ((mI (sI (sI M 255 (mI M 254 1).toNatClampNeg q7) 254 1 ((mI (sI M 255 (mI M 254 1).toNatClampNeg q7) 254 1) + (1 : Int32))) 254 2) + q12)) 254 3) + (0 : Int32))) 254 4 ((mI (sI (sI (sI (sI M 255 (mI M 254 1).toNatClampNeg q7) 254 1 ((mI (sI M 255 (mI M 254 1).toNatClampNeg q7) 254 1) + (1 : Int32))) 254 2 ((mI (sI (sI M 255 (mI M 254 1).toNatClampNeg q7) 254 1 ((mI (sI M 255 (mI M 254 1).toNatClampNeg q7) 254 1) + (1 : Int32))) 254 2) + q12)) 254 3 ((mI (sI (sI (sI M 255 (mI M 254 1).toNatClampNeg q7) 254 1 ((mI (sI M 255 (mI M 254 1).toNatClampNeg q7) 254 1) + (1 : Int32))) 254 2 ((mI (sI (sI M 255 (mI M 254 1).toNatClampNeg q7) 254 1 ((mI (sI M 255 (mI M 254 1).toNatClampNeg q7) 254 1) + (1 : Int32))) 254 2) + q12)) 254 3) + (0 : Int32))) 254 4) + q18)) else if (mI (sI (sI (sI (sI M 255 (mI M 254 1).toNatClampNeg q7) 254 1 ((mI (sI M 255 (mI M 254 1).toNatClampNeg q7) 254 1) + (1 : Int32))) 254 2 ((mI (sI (sI M 255 (mI M 254 1).toNatClampNeg q7) 254 1 ((mI (sI M 255 (mI M 254 1).toNatClampNeg q7) 254 1) + (1 : Int32))) 254 2) + q12)) 254 3 ((mI (sI (sI (sI M 255 (mI M 254 1).toNatClampNeg q7) 254 1 ((mI (sI M 255 (mI M 254 1).toNatClampNeg q7) 254 1) + (1 : Int32))) 254 2 ((mI (sI (sI M 255 (mI M 254 1).toNatClampNeg q7) 254 1 ((mI (sI M 255 (mI M 254 1).toNatClampNeg q7) 254 1) + (1 : Int32))) 254 2) + q12)) 254 3) + (1 : Int32))) ((a1 + 1) + 23 + 2 * x2.toNatClampNeg) 8) = 0 then B_X7_look_131 (L_X7_look_22 n) a1 x2 (sI (sI (sI (sI (sI M 255 (mI M 254 1).toNatClampNeg q7) 254 1 ((mI (sI M 255 (mI M 254 1).toNatClampNeg q7) 254 1) + (1 : Int32))) 254 2 ((mI (sI (sI M 255 (mI M 254 1).toNatClampNeg q7) 254 1 ((mI (sI M 255 (mI M 254 1).toNatClampNeg q7) 254 1) + (1 : Int32))) 254 2) + q12)) 254 3 ((mI (sI (sI (sI M 255 (mI M 254 1).toNatClampNeg q7) 254 1 ((mI (sI M 255 (mI M 254 1).toNatClampNeg q7) 254 1) + (1 : Int32))) 254 2 ((mI (sI (sI M 255 (mI M 254 1).toNatClampNeg q7) 254 1 ((mI (sI M 255 (mI M 254 1).toNatClampNeg q7) 254 1) + (1 : Int32))) 254 2) + q12)) 254 3) + (1 : Int32))) 254 4 ((mI (sI (sI (sI (sI M 255 (mI M 254 1).toNatClampNeg q7) 254 1 ((mI (sI M 255 (mI M 254 1).toNatClampNeg q7) 254 1) + (1 : Int32))) 254 2 ((mI (sI (sI M 255 (mI M 254 1).toNatClampNeg q7) 254 1 ((mI (sI M 255 (mI M 254 1).toNatClampNeg q7) 254 1) + (1 : Int32))) 254 2) + q12)) 254 3 ((mI (sI (sI (sI M 255 (mI M 254 1).toNatClampNeg q7) 254 1 ((mI (sI M 255 (mI M 254 1).toNatClampNeg q7) 254 1) + (1 : Int32))) 254 2 ((mI (sI (sI M 255 (mI M 254 1).toNatClampNeg q7) 254 1 ((mI (sI M 255 (mI M 254 1).toNatClampNeg q7) 254 1) + (1 : Int32))) 254 2) + q12)) 254 3) + (1 : Int32))) 254 4) + (0 : Int32))) else (f_X1_share ((a1 + 1) + 23 + 2 * x2.toNatClampNeg) (sI (sI (sI (sI M 255 (mI M 254 1).toNatClampNeg q7) 254 1 ((mI (sI M 255 (mI M 254 1).toNatClampNeg q7) 254 1) + (1 : Int32))) 254 2 ((mI (sI (sI M 255 (mI M 254 1).toNatClampNeg q7) 254 1 ((mI (sI M 255 (mI M 254 1).toNatClampNeg q7) 254 1) + (1 : Int32))) 254 2) + q12)) 254 3 ((mI (sI (sI (sI M 255 (mI M 254 1).toNatClampNeg q7) 254 1 ((mI (sI M 255 (mI M 254 1).toNatClampNeg q7) 254 1) + (1 : Int32))) 254 2 ((mI (sI (sI M 255 (mI M 254 1).toNatClampNeg q7) 254 1 ((mI (sI M 255 (mI M 254 1).toNatClampNeg q7) 254 1) + (1 : Int32))) 254 2) + q12)) 254 3) + (1 : Int32)))).bind fun q23 => B_X7_look_131 (L_X7_look_22 n) a1 x2 (sI (sI (sI (sI (sI M 255 (mI M 254 1).toNatClampNeg q7) 254 1 ((mI (sI M 255 (mI M 254 1).toNatClampNeg q7) 254 1) + (1 : Int32))) 254 2 ((mI (sI (sI M 255 (mI M 254 1).toNatClampNeg q7) 254 1 ((mI (sI M 255 (mI M 254 1).toNatClampNeg q7) 254 1) + (1 : Int32))) 254 2) + q12)) 254 3 ((mI (sI (sI (sI M 255 (mI M 254 1).toNatClampNeg q7) 254 1 ((mI (sI M 255 (mI M 254 1).toNatClampNeg q7) 254 1) + (1 : Int32))) 254 2 ((mI (sI (sI M 255 (mI M 254 1).toNatClampNeg q7) 254 1 ((mI (sI M 255 (mI M 254 1).toNatClampNeg q7) 254 1) + (1 : Int32))) 254 2) + q12)) 254 3) + (1 : Int32))) 254 4 ((mI (sI (sI (sI (sI M 255 (mI M 254 1).toNatClampNeg q7) 254 1 ((mI (sI M 255 (mI M 254 1).toNatClampNeg q7) 254 1) + (1 : Int32))) 254 2 ((mI (sI (sI M 255 (mI M 254 1).toNatClampNeg q7) 254 1 ((mI (sI M 255 (mI M 254 1).toNatClampNeg q7) 254 1) + (1 : Int32))) 254 2) + q12)) 254 3 ((mI (sI (sI (sI M 255 (mI M 254 1).toNatClampNeg q7) 254 1 ((mI (sI M 255 (mI M 254 1).toNatClampNeg q7) 254 1) + (1 : Int32))) 254 2 ((mI (sI (sI M 255 (mI M 254 1).toNatClampNeg q7) 254 1 ((mI (sI M 255 (mI M 254 1).toNatClampNeg q7) 254 1) + (1 : Int32))) 254 2) + q12)) 254 3) + (1 : Int32))) 254 4) + q23))) else B_X7_look_131 (L_X7_look_22 n) a1 x2 M)
def f_X7_look (a1 : Nat) (M : Mem) : Option Mem := L_X7_look_22 FU a1 (0 : Int32) (sI (sI (sI (sI M 254 1 (0 : Int32)) 254 2 (0 : Int32)) 254 3 (0 : Int32)) 254 4 (0 : Int32))
set_option maxRecDepth 100000 in
set_option maxHeartbeats 4000000 in
theorem b_X7_look_131 (Z : Sys) (X : Cx) (hR : xR X = rm_X7_look) {q : Mem} (hq : RetOk Z X none False (PostV q) 0 0) (rc_22 : Nat → Int32 → Mem → Option Mem) (hrc_22 : ∀ (a1 : Nat) (x2 : Int32) (M : Mem), St M → K0[a1]? = some (0, 12) → rc_22 a1 x2 M = some q → G Z X Y_X7_look False 0 0 22 [(0, .ref (zs Z + 254)), (1, .ref (zs Z + a1)), (2, .int x2)] [] M) (a1 : Nat) (x2 : Int32) {M : Mem} (hs : St M) (k_a1 : K0[a1]? = some (0, 12)) (hf : B_X7_look_131 rc_22 a1 x2 M = some q) : G Z X Y_X7_look False 0 0 131 [(0, .ref (zs Z + 254)), (1, .ref (zs Z + a1)), (2, .int x2)] [] M := by
  unfold B_X7_look_131 at hf
  refine G.iinc 131 2 (x2 + 1) [(2, .int (x2 + 1)), (0, .ref (zs Z + 254)), (1, .ref (zs Z + a1))] dX7_look_131 rfl (congrArg (fun z => x2 + z) (by decide +kernel)) (Nat.le_of_ble_eq_true rfl) rfl ?_
  refine G.goto 134 22 dX7_look_134 (by decide) ?_
  refine G.locs [1, 2, 0] rfl ?_
  exact hrc_22 a1 (x2 + 1) M hs k_a1 hf
set_option maxRecDepth 100000 in
set_option maxHeartbeats 4000000 in
theorem l_X7_look_22 (Z : Sys) (X : Cx) (hR : xR X = rm_X7_look) {q : Mem} (hq : RetOk Z X none False (PostV q) 0 0) : ∀ (n : Nat) (a1 : Nat) (x2 : Int32) (M : Mem) (hs : St M) (k_a1 : K0[a1]? = some (0, 12)) (hf : L_X7_look_22 n a1 x2 M = some q), G Z X Y_X7_look False 0 0 22 [(0, .ref (zs Z + 254)), (1, .ref (zs Z + a1)), (2, .int x2)] [] M := by
  intro n
  induction n with
  | zero => intro a1 x2 M hs k_a1 hf; cases hf
  | succ n ih =>
    intro a1 x2 M hs k_a1 hf
    unfold L_X7_look_22 at hf
    refine G.iload_n 22 2 dX7_look_22 rfl rfl ?_
    refine G.aload_n 23 1 dX7_look_23 rfl rfl ?_
    refine G.geti 24 ck_0 1 (hs.k k_a1) (by decide) (by decide +kernel) wd_262 dX7_look_24 ?_
    refine G.icmp_ge 27 137 dX7_look_27 (by decide) (fun h1 => ?_) (fun h1 => ?_)
    · replace hf := (if_pos h1).symm.trans hf
      (have hf9 := Option.some.inj hf; subst hf9)
      exact G.rV 137 hq dX7_look_137 hs
    · replace hf := (if_neg h1).symm.trans hf
      refine G.iload_n 30 2 dX7_look_30 rfl rfl ?_
      refine G.bipush 31 (30 : Int32) dX7_look_31 (by decide +kernel) ?_
      refine G.icmp_ge 33 137 dX7_look_33 (by decide) (fun h2 => ?_) (fun h2 => ?_)
      · replace hf := (if_pos h2).symm.trans hf
        (have hf9 := Option.some.inj hf; subst hf9)
        exact G.rV 137 hq dX7_look_137 hs
      · replace hf := (if_neg h2).symm.trans hf
        refine G.aload_n 36 1 dX7_look_36 rfl rfl ?_
        refine G.getp 37 ck_0 0 (a1 + 1) (hs.k k_a1) (pt_0_0 hs k_a1).1 (by decide) (by decide +kernel) wd_258 dX7_look_37 ?_
        refine G.iload_n 40 2 dX7_look_40 rfl rfl ?_
        obtain ⟨g3, hf⟩ := gd_e hf
        refine G.aa 41 x2.toNatClampNeg ((a1 + 1) + 23 + 2 * x2.toNatClampNeg) (hs.k (pt_0_0 hs k_a1).2) (by decide) rfl rfl g3 rfl (pa_13 hs (pt_0_0 hs k_a1).2 (inlt g3)).1 dX7_look_41 ?_
        refine G.astore_n 42 [(3, .ref (zs Z + ((a1 + 1) + 23 + 2 * x2.toNatClampNeg))), (0, .ref (zs Z + 254)), (1, .ref (zs Z + a1)), (2, .int x2)] dX7_look_42 rfl (Nat.le_of_ble_eq_true rfl) rfl ?_
        refine G.aload_n 43 0 dX7_look_43 rfl rfl ?_
        refine G.geti 44 ck_1 9 (hs.k (pa_13 hs (pt_0_0 hs k_a1).2 (inlt g3)).2) (by decide) (by decide +kernel) wd_218 dX7_look_44 ?_
        refine G.if_ne 47 131 dX7_look_47 (by decide) (fun h4 => ?_) (fun h4 => ?_)
        · replace hf := (if_neg h4).symm.trans hf
          refine G.locs [1, 2, 3] rfl ?_
          exact b_X7_look_131 Z X hR hq (L_X7_look_22 n) ih a1 x2 hs k_a1 hf
        · replace hf := (if_pos h4).symm.trans hf
          refine G.aload_n 50 1 dX7_look_50 rfl rfl ?_
          refine G.getp 51 ck_7 0 255 (hs.k k0_254) (pc_7_0 hs) (by decide) (by decide +kernel) wd_313 dX7_look_51 ?_
          refine G.aload_n 54 1 dX7_look_54 rfl rfl ?_
          refine G.geti 55 ck_7 1 (hs.k k0_254) (by decide) (by decide +kernel) wd_314 dX7_look_55 ?_
          refine G.aload_n 58 0 dX7_look_58 rfl rfl ?_
          obtain ⟨q7, e8, hf⟩ := bd_e hf
          refine G.cvI 59 (As := []) ck_1 (hs.k (pa_13 hs (pt_0_0 hs k_a1).2 (inlt g3)).2) (c_X1_share Z hs ((a1 + 1) + 23 + 2 * x2.toNatClampNeg) (pa_13 hs (pt_0_0 hs k_a1).2 (inlt g3)).2 e8) mk_X1_share vk_X1_share rfl wd_650 hR (by decide +kernel) ⟨rfl, rfl⟩ rfl (Nat.le_of_ble_eq_true rfl) dX7_look_59 (fun hs5 => ?_)
          obtain ⟨g9, hf⟩ := gd_e hf
          refine G.ist 62 (mI M 254 1).toNatClampNeg (hs5.k k0_255) g9 rfl dX7_look_62 ?_
          refine G.aload_n 63 1 dX7_look_63 rfl rfl ?_
          refine G.dup 64 dX7_look_64 rfl ?_
          refine G.geti 65 ck_7 1 ((St.i hs5).k k0_254) (by decide) (by decide +kernel) wd_314 dX7_look_65 ?_
          refine G.iconst 68 (1 : Int32) dX7_look_68 (by decide +kernel) ?_
          refine G.iadd 69 dX7_look_69 ?_
          refine G.puti 70 ck_7 1 ((St.i hs5).k k0_254) (by decide) (by decide +kernel) rfl wd_314 rfl rfl dX7_look_70 ?_
          refine G.aload_n 73 1 dX7_look_73 rfl rfl ?_
          refine G.dup 74 dX7_look_74 rfl ?_
          refine G.geti 75 ck_7 2 ((St.i (St.i hs5)).k k0_254) (by decide) (by decide +kernel) wd_315 dX7_look_75 ?_
          refine G.aload_n 78 0 dX7_look_78 rfl rfl ?_
          obtain ⟨q12, e13, hf⟩ := bd_e hf
          refine G.cvI 79 (As := []) ck_1 ((St.i (St.i hs5)).k (pa_13 hs (pt_0_0 hs k_a1).2 (inlt g3)).2) (c_X1_share Z (St.i (St.i hs5)) ((a1 + 1) + 23 + 2 * x2.toNatClampNeg) (pa_13 hs (pt_0_0 hs k_a1).2 (inlt g3)).2 e13) mk_X1_share vk_X1_share rfl wd_650 hR (by decide +kernel) ⟨rfl, rfl⟩ rfl (Nat.le_of_ble_eq_true rfl) dX7_look_79 (fun hs10 => ?_)
          refine G.iadd 82 dX7_look_82 ?_
          refine G.puti 83 ck_7 2 (hs10.k k0_254) (by decide) (by decide +kernel) rfl wd_315 rfl rfl dX7_look_83 ?_
          refine G.aload_n 86 1 dX7_look_86 rfl rfl ?_
          refine G.dup 87 dX7_look_87 rfl ?_
          refine G.geti 88 ck_7 3 ((St.i hs10).k k0_254) (by decide) (by decide +kernel) wd_316 dX7_look_88 ?_
          refine G.aload_n 91 0 dX7_look_91 rfl rfl ?_
          refine G.geti 92 ck_1 8 ((St.i hs10).k (pa_13 hs (pt_0_0 hs k_a1).2 (inlt g3)).2) (by decide) (by decide +kernel) wd_214 dX7_look_92 ?_
          refine G.if_eq 95 102 dX7_look_95 (by decide) (fun h14 => ?_) (fun h14 => ?_)
          · replace hf := (if_pos h14).symm.trans hf
            refine G.iconst 102 (0 : Int32) dX7_look_102 (by decide +kernel) ?_
            refine G.iadd 103 dX7_look_103 ?_
            refine G.puti 104 ck_7 3 ((St.i hs10).k k0_254) (by decide) (by decide +kernel) rfl wd_316 rfl rfl dX7_look_104 ?_
            refine G.aload_n 107 1 dX7_look_107 rfl rfl ?_
            refine G.dup 108 dX7_look_108 rfl ?_
            refine G.geti 109 ck_7 4 ((St.i (St.i hs10)).k k0_254) (by decide) (by decide +kernel) wd_317 dX7_look_109 ?_
            refine G.aload_n 112 0 dX7_look_112 rfl rfl ?_
            refine G.geti 113 ck_1 8 ((St.i (St.i hs10)).k (pa_13 hs (pt_0_0 hs k_a1).2 (inlt g3)).2) (by decide) (by decide +kernel) wd_214 dX7_look_113 ?_
            refine G.if_eq 116 126 dX7_look_116 (by decide) (fun h15 => ?_) (fun h15 => ?_)
            · replace hf := (if_pos h15).symm.trans hf
              refine G.iconst 126 (0 : Int32) dX7_look_126 (by decide +kernel) ?_
              refine G.iadd 127 dX7_look_127 ?_
              refine G.puti 128 ck_7 4 ((St.i (St.i hs10)).k k0_254) (by decide) (by decide +kernel) rfl wd_317 rfl rfl dX7_look_128 ?_
              refine G.locs [1, 2, 3] rfl ?_
              exact b_X7_look_131 Z X hR hq (L_X7_look_22 n) ih a1 x2 (St.i (St.i (St.i hs10))) k_a1 hf
            · replace hf := (if_neg h15).symm.trans hf
              refine G.aload_n 119 0 dX7_look_119 rfl rfl ?_
              obtain ⟨q18, e19, hf⟩ := bd_e hf
              refine G.cvI 120 (As := []) ck_1 ((St.i (St.i hs10)).k (pa_13 hs (pt_0_0 hs k_a1).2 (inlt g3)).2) (c_X1_share Z (St.i (St.i hs10)) ((a1 + 1) + 23 + 2 * x2.toNatClampNeg) (pa_13 hs (pt_0_0 hs k_a1).2 (inlt g3)).2 e19) mk_X1_share vk_X1_share rfl wd_650 hR (by decide +kernel) ⟨rfl, rfl⟩ rfl (Nat.le_of_ble_eq_true rfl) dX7_look_120 (fun hs16 => ?_)
              refine G.goto 123 127 dX7_look_123 (by decide) ?_
              refine G.iadd 127 dX7_look_127 ?_
              refine G.puti 128 ck_7 4 (hs16.k k0_254) (by decide) (by decide +kernel) rfl wd_317 rfl rfl dX7_look_128 ?_
              refine G.locs [1, 2, 3] rfl ?_
              exact b_X7_look_131 Z X hR hq (L_X7_look_22 n) ih a1 x2 (St.i hs16) k_a1 hf
          · replace hf := (if_neg h14).symm.trans hf
            refine G.iconst 98 (1 : Int32) dX7_look_98 (by decide +kernel) ?_
            refine G.goto 99 103 dX7_look_99 (by decide) ?_
            refine G.iadd 103 dX7_look_103 ?_
            refine G.puti 104 ck_7 3 ((St.i hs10).k k0_254) (by decide) (by decide +kernel) rfl wd_316 rfl rfl dX7_look_104 ?_
            refine G.aload_n 107 1 dX7_look_107 rfl rfl ?_
            refine G.dup 108 dX7_look_108 rfl ?_
            refine G.geti 109 ck_7 4 ((St.i (St.i hs10)).k k0_254) (by decide) (by decide +kernel) wd_317 dX7_look_109 ?_
            refine G.aload_n 112 0 dX7_look_112 rfl rfl ?_
            refine G.geti 113 ck_1 8 ((St.i (St.i hs10)).k (pa_13 hs (pt_0_0 hs k_a1).2 (inlt g3)).2) (by decide) (by decide +kernel) wd_214 dX7_look_113 ?_
            refine G.if_eq 116 126 dX7_look_116 (by decide) (fun h20 => ?_) (fun h20 => ?_)
            · replace hf := (if_pos h20).symm.trans hf
              refine G.iconst 126 (0 : Int32) dX7_look_126 (by decide +kernel) ?_
              refine G.iadd 127 dX7_look_127 ?_
              refine G.puti 128 ck_7 4 ((St.i (St.i hs10)).k k0_254) (by decide) (by decide +kernel) rfl wd_317 rfl rfl dX7_look_128 ?_
              refine G.locs [1, 2, 3] rfl ?_
              exact b_X7_look_131 Z X hR hq (L_X7_look_22 n) ih a1 x2 (St.i (St.i (St.i hs10))) k_a1 hf
            · replace hf := (if_neg h20).symm.trans hf
              refine G.aload_n 119 0 dX7_look_119 rfl rfl ?_
              obtain ⟨q23, e24, hf⟩ := bd_e hf
              refine G.cvI 120 (As := []) ck_1 ((St.i (St.i hs10)).k (pa_13 hs (pt_0_0 hs k_a1).2 (inlt g3)).2) (c_X1_share Z (St.i (St.i hs10)) ((a1 + 1) + 23 + 2 * x2.toNatClampNeg) (pa_13 hs (pt_0_0 hs k_a1).2 (inlt g3)).2 e24) mk_X1_share vk_X1_share rfl wd_650 hR (by decide +kernel) ⟨rfl, rfl⟩ rfl (Nat.le_of_ble_eq_true rfl) dX7_look_120 (fun hs21 => ?_)
              refine G.goto 123 127 dX7_look_123 (by decide) ?_
              refine G.iadd 127 dX7_look_127 ?_
              refine G.puti 128 ck_7 4 (hs21.k k0_254) (by decide) (by decide +kernel) rfl wd_317 rfl rfl dX7_look_128 ?_
              refine G.locs [1, 2, 3] rfl ?_
              exact b_X7_look_131 Z X hR hq (L_X7_look_22 n) ih a1 x2 (St.i hs21) k_a1 hf
set_option maxRecDepth 100000 in
set_option maxHeartbeats 4000000 in
theorem c_X7_look (Z : Sys) {M : Mem} (hs : St M) (a1 : Nat) (k_a1 : K0[a1]? = some (0, 12)) {q : Mem} (hf : f_X7_look a1 M = some q) : Ct Z yX7_look cX7_look 4 none rm_X7_look [.ref (zs Z + 254), .ref (zs Z + a1)] M False (PostV q) := by
  refine Ct.of (by decide +kernel) (Nat.le_of_ble_eq_true rfl) (fun X hR hq _ => ?_)
  show G Z X Y_X7_look False 0 0 0 [(0, .ref (zs Z + 254)), (1, .ref (zs Z + a1))] [] M
  replace hq : RetOk Z X none False (PostV q) 0 0 := hq
  unfold f_X7_look at hf
  refine G.aload_n 0 0 dX7_look_0 rfl rfl ?_
  refine G.iconst 1 (0 : Int32) dX7_look_1 (by decide +kernel) ?_
  refine G.puti 2 ck_7 1 (hs.k k0_254) (by decide) (by decide +kernel) rfl wd_314 rfl rfl dX7_look_2 ?_
  refine G.aload_n 5 0 dX7_look_5 rfl rfl ?_
  refine G.iconst 6 (0 : Int32) dX7_look_6 (by decide +kernel) ?_
  refine G.puti 7 ck_7 2 ((St.i hs).k k0_254) (by decide) (by decide +kernel) rfl wd_315 rfl rfl dX7_look_7 ?_
  refine G.aload_n 10 0 dX7_look_10 rfl rfl ?_
  refine G.iconst 11 (0 : Int32) dX7_look_11 (by decide +kernel) ?_
  refine G.puti 12 ck_7 3 ((St.i (St.i hs)).k k0_254) (by decide) (by decide +kernel) rfl wd_316 rfl rfl dX7_look_12 ?_
  refine G.aload_n 15 0 dX7_look_15 rfl rfl ?_
  refine G.iconst 16 (0 : Int32) dX7_look_16 (by decide +kernel) ?_
  refine G.puti 17 ck_7 4 ((St.i (St.i (St.i hs))).k k0_254) (by decide) (by decide +kernel) rfl wd_317 rfl rfl dX7_look_17 ?_
  refine G.iconst 20 (0 : Int32) dX7_look_20 (by decide +kernel) ?_
  refine G.istore_n 21 [(2, .int (0 : Int32)), (0, .ref (zs Z + 254)), (1, .ref (zs Z + a1))] dX7_look_21 rfl (Nat.le_of_ble_eq_true rfl) rfl ?_
  refine G.locs [1, 2, 0] rfl ?_
  exact l_X7_look_22 Z X hR hq FU a1 (0 : Int32) (sI (sI (sI (sI M 254 1 (0 : Int32)) 254 2 (0 : Int32)) 254 3 (0 : Int32)) 254 4 (0 : Int32)) (St.i (St.i (St.i (St.i hs)))) k_a1 hf
abbrev Y_X7_worth : My := (cX7_worth, RX7, 1)
def rm_X7_worth : Room := { frames := 1, cells := 0, slots := 0, locals := 200 }
theorem dX7_worth_0 : decode cX7_worth 0 = .ok (.aload_n 0, 1) := by decide +kernel
theorem dX7_worth_1 : decode cX7_worth 1 = .ok (.getfield 25, 3) := by decide +kernel
theorem dX7_worth_4 : decode cX7_worth 4 = .ok (.aload_n 0, 1) := by decide +kernel
theorem dX7_worth_5 : decode cX7_worth 5 = .ok (.getfield 15, 3) := by decide +kernel
theorem dX7_worth_8 : decode cX7_worth 8 = .ok (.aload_n 0, 1) := by decide +kernel
theorem dX7_worth_9 : decode cX7_worth 9 = .ok (.getfield 22, 3) := by decide +kernel
theorem dX7_worth_12 : decode cX7_worth 12 = .ok (.isub, 1) := by decide +kernel
theorem dX7_worth_13 : decode cX7_worth 13 = .ok (.imul, 1) := by decide +kernel
theorem dX7_worth_14 : decode cX7_worth 14 = .ok (.aload_n 0, 1) := by decide +kernel
theorem dX7_worth_15 : decode cX7_worth 15 = .ok (.getfield 19, 3) := by decide +kernel
theorem dX7_worth_18 : decode cX7_worth 18 = .ok (.aload_n 0, 1) := by decide +kernel
theorem dX7_worth_19 : decode cX7_worth 19 = .ok (.getfield 25, 3) := by decide +kernel
theorem dX7_worth_22 : decode cX7_worth 22 = .ok (.isub, 1) := by decide +kernel
theorem dX7_worth_23 : decode cX7_worth 23 = .ok (.aload_n 0, 1) := by decide +kernel
theorem dX7_worth_24 : decode cX7_worth 24 = .ok (.getfield 22, 3) := by decide +kernel
theorem dX7_worth_27 : decode cX7_worth 27 = .ok (.imul, 1) := by decide +kernel
theorem dX7_worth_28 : decode cX7_worth 28 = .ok (.isub, 1) := by decide +kernel
theorem dX7_worth_29 : decode cX7_worth 29 = .ok (.ireturn, 1) := by decide +kernel
def f_X7_worth (M : Mem) : Int32 := (((mI M 254 4) * ((mI M 254 1) - (mI M 254 3))) - (((mI M 254 2) - (mI M 254 4)) * (mI M 254 3)))
set_option maxRecDepth 100000 in
set_option maxHeartbeats 4000000 in
theorem c_X7_worth (Z : Sys) {M : Mem} (hs : St M) {q : Int32} (hf : f_X7_worth M = q) : Ct Z yX7_worth cX7_worth 1 (some .int) rm_X7_worth [.ref (zs Z + 254)] M False (PostI q M) := by
  refine Ct.of (by decide +kernel) (Nat.le_of_ble_eq_true rfl) (fun X hR hq _ => ?_)
  show G Z X Y_X7_worth False 0 0 0 [(0, .ref (zs Z + 254))] [] M
  replace hq : RetOk Z X (some .int) False (PostI q M) 0 0 := hq
  unfold f_X7_worth at hf
  refine G.aload_n 0 0 dX7_worth_0 rfl rfl ?_
  refine G.geti 1 ck_7 4 (hs.k k0_254) (by decide) (by decide +kernel) wd_317 dX7_worth_1 ?_
  refine G.aload_n 4 0 dX7_worth_4 rfl rfl ?_
  refine G.geti 5 ck_7 1 (hs.k k0_254) (by decide) (by decide +kernel) wd_314 dX7_worth_5 ?_
  refine G.aload_n 8 0 dX7_worth_8 rfl rfl ?_
  refine G.geti 9 ck_7 3 (hs.k k0_254) (by decide) (by decide +kernel) wd_316 dX7_worth_9 ?_
  refine G.isub 12 dX7_worth_12 ?_
  refine G.imul 13 dX7_worth_13 ?_
  refine G.aload_n 14 0 dX7_worth_14 rfl rfl ?_
  refine G.geti 15 ck_7 2 (hs.k k0_254) (by decide) (by decide +kernel) wd_315 dX7_worth_15 ?_
  refine G.aload_n 18 0 dX7_worth_18 rfl rfl ?_
  refine G.geti 19 ck_7 4 (hs.k k0_254) (by decide) (by decide +kernel) wd_317 dX7_worth_19 ?_
  refine G.isub 22 dX7_worth_22 ?_
  refine G.aload_n 23 0 dX7_worth_23 rfl rfl ?_
  refine G.geti 24 ck_7 3 (hs.k k0_254) (by decide) (by decide +kernel) wd_316 dX7_worth_24 ?_
  refine G.imul 27 dX7_worth_27 ?_
  refine G.isub 28 dX7_worth_28 ?_
  subst hf
  exact G.rI 29 hq dX7_worth_29 hs
abbrev Y_X8_again : My := (cX8_again, RX8, 3)
def rm_X8_again : Room := { frames := 5, cells := 0, slots := 0, locals := 292 }
theorem dX8_again_0 : decode cX8_again 0 = .ok (.iload_n 1, 1) := by decide +kernel
theorem dX8_again_1 : decode cX8_again 1 = .ok (.iconst 0, 1) := by decide +kernel
theorem dX8_again_2 : decode cX8_again 2 = .ok (.sipush 300, 3) := by decide +kernel
theorem dX8_again_5 : decode cX8_again 5 = .ok (.invokestatic 50, 3) := by decide +kernel
theorem dX8_again_8 : decode cX8_again 8 = .ok (.ifCond .eq 12, 3) := by decide +kernel
theorem dX8_again_11 : decode cX8_again 11 = .ok (.iload_n 2, 1) := by decide +kernel
theorem dX8_again_12 : decode cX8_again 12 = .ok (.iconst 0, 1) := by decide +kernel
theorem dX8_again_13 : decode cX8_again 13 = .ok (.iconst 1, 1) := by decide +kernel
theorem dX8_again_14 : decode cX8_again 14 = .ok (.invokestatic 50, 3) := by decide +kernel
theorem dX8_again_17 : decode cX8_again 17 = .ok (.ifCond .ne 5, 3) := by decide +kernel
theorem dX8_again_20 : decode cX8_again 20 = .ok (.iconst (-1), 1) := by decide +kernel
theorem dX8_again_21 : decode cX8_again 21 = .ok (.ireturn, 1) := by decide +kernel
theorem dX8_again_22 : decode cX8_again 22 = .ok (.aload_n 0, 1) := by decide +kernel
theorem dX8_again_23 : decode cX8_again 23 = .ok (.getfield 38, 3) := by decide +kernel
theorem dX8_again_26 : decode cX8_again 26 = .ok (.aload_n 0, 1) := by decide +kernel
theorem dX8_again_27 : decode cX8_again 27 = .ok (.getfield 10, 3) := by decide +kernel
theorem dX8_again_30 : decode cX8_again 30 = .ok (.iload_n 1, 1) := by decide +kernel
theorem dX8_again_31 : decode cX8_again 31 = .ok (.invokevirtual 249, 3) := by decide +kernel
theorem dX8_again_34 : decode cX8_again 34 = .ok (.iload_n 2, 1) := by decide +kernel
theorem dX8_again_35 : decode cX8_again 35 = .ok (.ifCond .ne 15, 3) := by decide +kernel
theorem dX8_again_38 : decode cX8_again 38 = .ok (.aload_n 0, 1) := by decide +kernel
theorem dX8_again_39 : decode cX8_again 39 = .ok (.getfield 38, 3) := by decide +kernel
theorem dX8_again_42 : decode cX8_again 42 = .ok (.getfield 253, 3) := by decide +kernel
theorem dX8_again_45 : decode cX8_again 45 = .ok (.iload_n 1, 1) := by decide +kernel
theorem dX8_again_46 : decode cX8_again 46 = .ok (.iaload, 1) := by decide +kernel
theorem dX8_again_47 : decode cX8_again 47 = .ok (.goto 12, 3) := by decide +kernel
theorem dX8_again_50 : decode cX8_again 50 = .ok (.aload_n 0, 1) := by decide +kernel
theorem dX8_again_51 : decode cX8_again 51 = .ok (.getfield 38, 3) := by decide +kernel
theorem dX8_again_54 : decode cX8_again 54 = .ok (.getfield 256, 3) := by decide +kernel
theorem dX8_again_57 : decode cX8_again 57 = .ok (.iload_n 1, 1) := by decide +kernel
theorem dX8_again_58 : decode cX8_again 58 = .ok (.iaload, 1) := by decide +kernel
theorem dX8_again_59 : decode cX8_again 59 = .ok (.ireturn, 1) := by decide +kernel
def f_X8_again (x1 : Int32) (x2 : Int32) (M : Mem) : Option (Int32 × Mem) := if (f_X8_within x1 (0 : Int32) (300 : Int32)) = 0 then some ((-1 : Int32), M) else if (f_X8_within x2 (0 : Int32) (1 : Int32)) = 0 then some ((-1 : Int32), M) else (f_X4_plan 1 x1 M).bind fun q9 => if x2 = 0 then gd (inR x1 301) (some ((mI q9 257 x1.toNatClampNeg), q9)) else gd (inR x1 301) (some ((mI q9 258 x1.toNatClampNeg), q9))
set_option maxRecDepth 100000 in
set_option maxHeartbeats 4000000 in
theorem c_X8_again (Z : Sys) {M : Mem} (hs : St M) (x1 : Int32) (x2 : Int32) {q : Int32 × Mem} (hf : f_X8_again x1 x2 M = some q) : Ct Z yX8_again cX8_again 3 (some .int) rm_X8_again [.ref (zs Z + 0), .int x1, .int x2] M False (PostI q.1 q.2) := by
  refine Ct.of (by decide +kernel) (Nat.le_of_ble_eq_true rfl) (fun X hR hq _ => ?_)
  show G Z X Y_X8_again False 0 0 0 [(0, .ref (zs Z + 0)), (1, .int x1), (2, .int x2)] [] M
  replace hq : RetOk Z X (some .int) False (PostI q.1 q.2) 0 0 := hq
  unfold f_X8_again at hf
  refine G.iload_n 0 1 dX8_again_0 rfl rfl ?_
  refine G.iconst 1 (0 : Int32) dX8_again_1 (by decide +kernel) ?_
  refine G.sipush 2 (300 : Int32) dX8_again_2 (by decide +kernel) ?_
  refine G.csZ 5 (As := [.int x1, .int (0 : Int32), .int (300 : Int32)]) (c_X8_within Z hs x1 (0 : Int32) (300 : Int32) rfl) mk_X8_within wd_430 wd_429 hR (by decide +kernel) ⟨rfl, rfl⟩ rfl (Nat.le_of_ble_eq_true rfl) dX8_again_5 (fun hs1 z2 => ?_)
  refine G.if_eq 8 20 dX8_again_8 (by decide) (fun h3 => ?_) (fun h3 => ?_)
  · replace hf := (if_pos h3).symm.trans hf
    refine G.iconst 20 (-1 : Int32) dX8_again_20 (by decide +kernel) ?_
    (have hf9 := Option.some.inj hf; subst hf9)
    exact G.rI 21 hq dX8_again_21 hs1
  · replace hf := (if_neg h3).symm.trans hf
    refine G.iload_n 11 2 dX8_again_11 rfl rfl ?_
    refine G.iconst 12 (0 : Int32) dX8_again_12 (by decide +kernel) ?_
    refine G.iconst 13 (1 : Int32) dX8_again_13 (by decide +kernel) ?_
    refine G.csZ 14 (As := [.int x2, .int (0 : Int32), .int (1 : Int32)]) (c_X8_within Z hs1 x2 (0 : Int32) (1 : Int32) rfl) mk_X8_within wd_430 wd_429 hR (by decide +kernel) ⟨rfl, rfl⟩ rfl (Nat.le_of_ble_eq_true rfl) dX8_again_14 (fun hs4 z5 => ?_)
    refine G.if_ne 17 22 dX8_again_17 (by decide) (fun h6 => ?_) (fun h6 => ?_)
    · replace hf := (if_neg h6).symm.trans hf
      refine G.aload_n 22 0 dX8_again_22 rfl rfl ?_
      refine G.getp 23 ck_8 6 256 (hs4.k k0_0) (pc_8_6 hs4) (by decide) (by decide +kernel) wd_406 dX8_again_23 ?_
      refine G.aload_n 26 0 dX8_again_26 rfl rfl ?_
      refine G.getp 27 ck_8 0 1 (hs4.k k0_0) (pc_8_0 hs4) (by decide) (by decide +kernel) wd_400 dX8_again_27 ?_
      refine G.iload_n 30 1 dX8_again_30 rfl rfl ?_
      obtain ⟨q9, e10, hf⟩ := bd_e hf
      refine G.cvV 31 (As := [.ref (zs Z + 1), .int x1]) ck_4 (hs4.k k0_256) (c_X4_plan Z hs4 1 x1 k0_1 e10) mk_X4_plan vk_X4_plan rfl wd_793 hR (by decide +kernel) ⟨rfl, rfl⟩ rfl (Nat.le_of_ble_eq_true rfl) dX8_again_31 (fun hs7 => ?_)
      refine G.iload_n 34 2 dX8_again_34 rfl rfl ?_
      refine G.if_ne 35 50 dX8_again_35 (by decide) (fun h11 => ?_) (fun h11 => ?_)
      · replace hf := (if_neg h11).symm.trans hf
        refine G.aload_n 50 0 dX8_again_50 rfl rfl ?_
        refine G.getp 51 ck_8 6 256 (hs7.k k0_0) (pc_8_6 hs7) (by decide) (by decide +kernel) wd_406 dX8_again_51 ?_
        refine G.getp 54 ck_4 1 258 (hs7.k k0_256) (pc_4_1 hs7) (by decide) (by decide +kernel) wd_338 dX8_again_54 ?_
        refine G.iload_n 57 1 dX8_again_57 rfl rfl ?_
        obtain ⟨g12, hf⟩ := gd_e hf
        refine G.ia 58 x1.toNatClampNeg (hs7.k k0_258) g12 rfl dX8_again_58 ?_
        (have hf9 := Option.some.inj hf; subst hf9)
        exact G.rI 59 hq dX8_again_59 hs7
      · replace hf := (if_pos h11).symm.trans hf
        refine G.aload_n 38 0 dX8_again_38 rfl rfl ?_
        refine G.getp 39 ck_8 6 256 (hs7.k k0_0) (pc_8_6 hs7) (by decide) (by decide +kernel) wd_406 dX8_again_39 ?_
        refine G.getp 42 ck_4 0 257 (hs7.k k0_256) (pc_4_0 hs7) (by decide) (by decide +kernel) wd_336 dX8_again_42 ?_
        refine G.iload_n 45 1 dX8_again_45 rfl rfl ?_
        obtain ⟨g13, hf⟩ := gd_e hf
        refine G.ia 46 x1.toNatClampNeg (hs7.k k0_257) g13 rfl dX8_again_46 ?_
        refine G.goto 47 59 dX8_again_47 (by decide) ?_
        (have hf9 := Option.some.inj hf; subst hf9)
        exact G.rI 59 hq dX8_again_59 hs7
    · replace hf := (if_pos h6).symm.trans hf
      refine G.iconst 20 (-1 : Int32) dX8_again_20 (by decide +kernel) ?_
      (have hf9 := Option.some.inj hf; subst hf9)
      exact G.rI 21 hq dX8_again_21 hs4
abbrev Y_X8_isShelf : My := (cX8_isShelf, RX8, 1)
def rm_X8_isShelf : Room := { frames := 2, cells := 0, slots := 0, locals := 222 }
theorem dX8_isShelf_0 : decode cX8_isShelf 0 = .ok (.iload_n 0, 1) := by decide +kernel
theorem dX8_isShelf_1 : decode cX8_isShelf 1 = .ok (.iconst 0, 1) := by decide +kernel
theorem dX8_isShelf_2 : decode cX8_isShelf 2 = .ok (.bipush 7, 2) := by decide +kernel
theorem dX8_isShelf_4 : decode cX8_isShelf 4 = .ok (.invokestatic 50, 3) := by decide +kernel
theorem dX8_isShelf_7 : decode cX8_isShelf 7 = .ok (.ireturn, 1) := by decide +kernel
def f_X8_isShelf (x0 : Int32) : Int32 := (f_X8_within x0 (0 : Int32) (7 : Int32))
set_option maxRecDepth 100000 in
set_option maxHeartbeats 4000000 in
theorem c_X8_isShelf (Z : Sys) {M : Mem} (hs : St M) (x0 : Int32) {q : Int32} (hf : f_X8_isShelf x0 = q) : Ct Z yX8_isShelf cX8_isShelf 1 (some .boolean) rm_X8_isShelf [.int x0] M False (PostZ q M) := by
  refine Ct.of (by decide +kernel) (Nat.le_of_ble_eq_true rfl) (fun X hR hq _ => ?_)
  show G Z X Y_X8_isShelf False 0 0 0 [(0, .int x0)] [] M
  replace hq : RetOk Z X (some .boolean) False (PostZ q M) 0 0 := hq
  unfold f_X8_isShelf at hf
  refine G.iload_n 0 0 dX8_isShelf_0 rfl rfl ?_
  refine G.iconst 1 (0 : Int32) dX8_isShelf_1 (by decide +kernel) ?_
  refine G.bipush 2 (7 : Int32) dX8_isShelf_2 (by decide +kernel) ?_
  refine G.csZ 4 (As := [.int x0, .int (0 : Int32), .int (7 : Int32)]) (c_X8_within Z hs x0 (0 : Int32) (7 : Int32) rfl) mk_X8_within wd_430 wd_429 hR (by decide +kernel) ⟨rfl, rfl⟩ rfl (Nat.le_of_ble_eq_true rfl) dX8_isShelf_4 (fun hs1 z2 => ?_)
  subst hf
  exact G.rZ 7 hq dX8_isShelf_7 hs1 z2
abbrev Y_X8_rowsRefusal : My := (cX8_rowsRefusal, RX8, 3)
def rm_X8_rowsRefusal : Room := { frames := 3, cells := 0, slots := 0, locals := 242 }
theorem dX8_rowsRefusal_0 : decode cX8_rowsRefusal 0 = .ok (.iload_n 1, 1) := by decide +kernel
theorem dX8_rowsRefusal_1 : decode cX8_rowsRefusal 1 = .ok (.invokestatic 281, 3) := by decide +kernel
theorem dX8_rowsRefusal_4 : decode cX8_rowsRefusal 4 = .ok (.ifCond .eq 10, 3) := by decide +kernel
theorem dX8_rowsRefusal_7 : decode cX8_rowsRefusal 7 = .ok (.iload_n 2, 1) := by decide +kernel
theorem dX8_rowsRefusal_8 : decode cX8_rowsRefusal 8 = .ok (.invokestatic 281, 3) := by decide +kernel
theorem dX8_rowsRefusal_11 : decode cX8_rowsRefusal 11 = .ok (.ifCond .ne 5, 3) := by decide +kernel
theorem dX8_rowsRefusal_14 : decode cX8_rowsRefusal 14 = .ok (.iconst (-1), 1) := by decide +kernel
theorem dX8_rowsRefusal_15 : decode cX8_rowsRefusal 15 = .ok (.ireturn, 1) := by decide +kernel
theorem dX8_rowsRefusal_16 : decode cX8_rowsRefusal 16 = .ok (.aload_n 0, 1) := by decide +kernel
theorem dX8_rowsRefusal_17 : decode cX8_rowsRefusal 17 = .ok (.getfield 24, 3) := by decide +kernel
theorem dX8_rowsRefusal_20 : decode cX8_rowsRefusal 20 = .ok (.iload_n 1, 1) := by decide +kernel
theorem dX8_rowsRefusal_21 : decode cX8_rowsRefusal 21 = .ok (.aaload, 1) := by decide +kernel
theorem dX8_rowsRefusal_22 : decode cX8_rowsRefusal 22 = .ok (.getfield 308, 3) := by decide +kernel
theorem dX8_rowsRefusal_25 : decode cX8_rowsRefusal 25 = .ok (.ifCond .eq 15, 3) := by decide +kernel
theorem dX8_rowsRefusal_28 : decode cX8_rowsRefusal 28 = .ok (.aload_n 0, 1) := by decide +kernel
theorem dX8_rowsRefusal_29 : decode cX8_rowsRefusal 29 = .ok (.getfield 24, 3) := by decide +kernel
theorem dX8_rowsRefusal_32 : decode cX8_rowsRefusal 32 = .ok (.iload_n 2, 1) := by decide +kernel
theorem dX8_rowsRefusal_33 : decode cX8_rowsRefusal 33 = .ok (.aaload, 1) := by decide +kernel
theorem dX8_rowsRefusal_34 : decode cX8_rowsRefusal 34 = .ok (.getfield 308, 3) := by decide +kernel
theorem dX8_rowsRefusal_37 : decode cX8_rowsRefusal 37 = .ok (.ifCond .ne 6, 3) := by decide +kernel
theorem dX8_rowsRefusal_40 : decode cX8_rowsRefusal 40 = .ok (.bipush (-11), 2) := by decide +kernel
theorem dX8_rowsRefusal_42 : decode cX8_rowsRefusal 42 = .ok (.ireturn, 1) := by decide +kernel
theorem dX8_rowsRefusal_43 : decode cX8_rowsRefusal 43 = .ok (.aload_n 0, 1) := by decide +kernel
theorem dX8_rowsRefusal_44 : decode cX8_rowsRefusal 44 = .ok (.getfield 24, 3) := by decide +kernel
theorem dX8_rowsRefusal_47 : decode cX8_rowsRefusal 47 = .ok (.iload_n 1, 1) := by decide +kernel
theorem dX8_rowsRefusal_48 : decode cX8_rowsRefusal 48 = .ok (.aaload, 1) := by decide +kernel
theorem dX8_rowsRefusal_49 : decode cX8_rowsRefusal 49 = .ok (.getfield 308, 3) := by decide +kernel
theorem dX8_rowsRefusal_52 : decode cX8_rowsRefusal 52 = .ok (.iconst 2, 1) := by decide +kernel
theorem dX8_rowsRefusal_53 : decode cX8_rowsRefusal 53 = .ok (.if_icmp .ne 16, 3) := by decide +kernel
theorem dX8_rowsRefusal_56 : decode cX8_rowsRefusal 56 = .ok (.aload_n 0, 1) := by decide +kernel
theorem dX8_rowsRefusal_57 : decode cX8_rowsRefusal 57 = .ok (.getfield 24, 3) := by decide +kernel
theorem dX8_rowsRefusal_60 : decode cX8_rowsRefusal 60 = .ok (.iload_n 2, 1) := by decide +kernel
theorem dX8_rowsRefusal_61 : decode cX8_rowsRefusal 61 = .ok (.aaload, 1) := by decide +kernel
theorem dX8_rowsRefusal_62 : decode cX8_rowsRefusal 62 = .ok (.getfield 308, 3) := by decide +kernel
theorem dX8_rowsRefusal_65 : decode cX8_rowsRefusal 65 = .ok (.iconst 2, 1) := by decide +kernel
theorem dX8_rowsRefusal_66 : decode cX8_rowsRefusal 66 = .ok (.if_icmp .eq 6, 3) := by decide +kernel
theorem dX8_rowsRefusal_69 : decode cX8_rowsRefusal 69 = .ok (.bipush (-12), 2) := by decide +kernel
theorem dX8_rowsRefusal_71 : decode cX8_rowsRefusal 71 = .ok (.ireturn, 1) := by decide +kernel
theorem dX8_rowsRefusal_72 : decode cX8_rowsRefusal 72 = .ok (.aload_n 0, 1) := by decide +kernel
theorem dX8_rowsRefusal_73 : decode cX8_rowsRefusal 73 = .ok (.getfield 24, 3) := by decide +kernel
theorem dX8_rowsRefusal_76 : decode cX8_rowsRefusal 76 = .ok (.iload_n 1, 1) := by decide +kernel
theorem dX8_rowsRefusal_77 : decode cX8_rowsRefusal 77 = .ok (.aaload, 1) := by decide +kernel
theorem dX8_rowsRefusal_78 : decode cX8_rowsRefusal 78 = .ok (.getfield 366, 3) := by decide +kernel
theorem dX8_rowsRefusal_81 : decode cX8_rowsRefusal 81 = .ok (.aload_n 0, 1) := by decide +kernel
theorem dX8_rowsRefusal_82 : decode cX8_rowsRefusal 82 = .ok (.getfield 24, 3) := by decide +kernel
theorem dX8_rowsRefusal_85 : decode cX8_rowsRefusal 85 = .ok (.iload_n 2, 1) := by decide +kernel
theorem dX8_rowsRefusal_86 : decode cX8_rowsRefusal 86 = .ok (.aaload, 1) := by decide +kernel
theorem dX8_rowsRefusal_87 : decode cX8_rowsRefusal 87 = .ok (.getfield 366, 3) := by decide +kernel
theorem dX8_rowsRefusal_90 : decode cX8_rowsRefusal 90 = .ok (.if_icmp .ne 7, 3) := by decide +kernel
theorem dX8_rowsRefusal_93 : decode cX8_rowsRefusal 93 = .ok (.iconst 0, 1) := by decide +kernel
theorem dX8_rowsRefusal_94 : decode cX8_rowsRefusal 94 = .ok (.goto 5, 3) := by decide +kernel
theorem dX8_rowsRefusal_97 : decode cX8_rowsRefusal 97 = .ok (.bipush (-12), 2) := by decide +kernel
theorem dX8_rowsRefusal_99 : decode cX8_rowsRefusal 99 = .ok (.ireturn, 1) := by decide +kernel
def f_X8_rowsRefusal (x1 : Int32) (x2 : Int32) (M : Mem) : Option Int32 := if (f_X8_isShelf x1) = 0 then some (-1 : Int32) else if (f_X8_isShelf x2) = 0 then some (-1 : Int32) else gd (inR x1 8) (if (mI M (253 + 7 + 3 * x1.toNatClampNeg) 0) = 0 then some (-11 : Int32) else gd (inR x2 8) (if (mI M (253 + 7 + 3 * x2.toNatClampNeg) 0) = 0 then some (-11 : Int32) else if (mI M (253 + 7 + 3 * x1.toNatClampNeg) 0) = (2 : Int32) then if (mI M (253 + 7 + 3 * x2.toNatClampNeg) 0) = (2 : Int32) then if (mI M (253 + 7 + 3 * x1.toNatClampNeg) 4) = (mI M (253 + 7 + 3 * x2.toNatClampNeg) 4) then some (0 : Int32) else some (-12 : Int32) else some (-12 : Int32) else some (-12 : Int32)))
set_option maxRecDepth 100000 in
set_option maxHeartbeats 4000000 in
theorem c_X8_rowsRefusal (Z : Sys) {M : Mem} (hs : St M) (x1 : Int32) (x2 : Int32) {q : Int32} (hf : f_X8_rowsRefusal x1 x2 M = some q) : Ct Z yX8_rowsRefusal cX8_rowsRefusal 3 (some .int) rm_X8_rowsRefusal [.ref (zs Z + 0), .int x1, .int x2] M False (PostI q M) := by
  refine Ct.of (by decide +kernel) (Nat.le_of_ble_eq_true rfl) (fun X hR hq _ => ?_)
  show G Z X Y_X8_rowsRefusal False 0 0 0 [(0, .ref (zs Z + 0)), (1, .int x1), (2, .int x2)] [] M
  replace hq : RetOk Z X (some .int) False (PostI q M) 0 0 := hq
  unfold f_X8_rowsRefusal at hf
  refine G.iload_n 0 1 dX8_rowsRefusal_0 rfl rfl ?_
  refine G.csZ 1 (As := [.int x1]) (c_X8_isShelf Z hs x1 rfl) mk_X8_isShelf wd_522 wd_521 hR (by decide +kernel) ⟨rfl, rfl⟩ rfl (Nat.le_of_ble_eq_true rfl) dX8_rowsRefusal_1 (fun hs1 z2 => ?_)
  refine G.if_eq 4 14 dX8_rowsRefusal_4 (by decide) (fun h3 => ?_) (fun h3 => ?_)
  · replace hf := (if_pos h3).symm.trans hf
    refine G.iconst 14 (-1 : Int32) dX8_rowsRefusal_14 (by decide +kernel) ?_
    (have hf9 := Option.some.inj hf; subst hf9)
    exact G.rI 15 hq dX8_rowsRefusal_15 hs1
  · replace hf := (if_neg h3).symm.trans hf
    refine G.iload_n 7 2 dX8_rowsRefusal_7 rfl rfl ?_
    refine G.csZ 8 (As := [.int x2]) (c_X8_isShelf Z hs1 x2 rfl) mk_X8_isShelf wd_522 wd_521 hR (by decide +kernel) ⟨rfl, rfl⟩ rfl (Nat.le_of_ble_eq_true rfl) dX8_rowsRefusal_8 (fun hs4 z5 => ?_)
    refine G.if_ne 11 16 dX8_rowsRefusal_11 (by decide) (fun h6 => ?_) (fun h6 => ?_)
    · replace hf := (if_neg h6).symm.trans hf
      refine G.aload_n 16 0 dX8_rowsRefusal_16 rfl rfl ?_
      refine G.getp 17 ck_8 4 253 (hs4.k k0_0) (pc_8_4 hs4) (by decide) (by decide +kernel) wd_404 dX8_rowsRefusal_17 ?_
      refine G.iload_n 20 1 dX8_rowsRefusal_20 rfl rfl ?_
      obtain ⟨g7, hf⟩ := gd_e hf
      refine G.aa 21 x1.toNatClampNeg (253 + 7 + 3 * x1.toNatClampNeg) (hs4.k k0_253) (by decide) rfl rfl g7 rfl (pa_14 hs4 k0_253 (inlt g7)).1 dX8_rowsRefusal_21 ?_
      refine G.geti 22 ck_6 0 (hs4.k (pa_14 hs4 k0_253 (inlt g7)).2) (by decide) (by decide +kernel) wd_374 dX8_rowsRefusal_22 ?_
      refine G.if_eq 25 40 dX8_rowsRefusal_25 (by decide) (fun h8 => ?_) (fun h8 => ?_)
      · replace hf := (if_pos h8).symm.trans hf
        refine G.bipush 40 (-11 : Int32) dX8_rowsRefusal_40 (by decide +kernel) ?_
        (have hf9 := Option.some.inj hf; subst hf9)
        exact G.rI 42 hq dX8_rowsRefusal_42 hs4
      · replace hf := (if_neg h8).symm.trans hf
        refine G.aload_n 28 0 dX8_rowsRefusal_28 rfl rfl ?_
        refine G.getp 29 ck_8 4 253 (hs4.k k0_0) (pc_8_4 hs4) (by decide) (by decide +kernel) wd_404 dX8_rowsRefusal_29 ?_
        refine G.iload_n 32 2 dX8_rowsRefusal_32 rfl rfl ?_
        obtain ⟨g9, hf⟩ := gd_e hf
        refine G.aa 33 x2.toNatClampNeg (253 + 7 + 3 * x2.toNatClampNeg) (hs4.k k0_253) (by decide) rfl rfl g9 rfl (pa_14 hs4 k0_253 (inlt g9)).1 dX8_rowsRefusal_33 ?_
        refine G.geti 34 ck_6 0 (hs4.k (pa_14 hs4 k0_253 (inlt g9)).2) (by decide) (by decide +kernel) wd_374 dX8_rowsRefusal_34 ?_
        refine G.if_ne 37 43 dX8_rowsRefusal_37 (by decide) (fun h10 => ?_) (fun h10 => ?_)
        · replace hf := (if_neg h10).symm.trans hf
          refine G.aload_n 43 0 dX8_rowsRefusal_43 rfl rfl ?_
          refine G.getp 44 ck_8 4 253 (hs4.k k0_0) (pc_8_4 hs4) (by decide) (by decide +kernel) wd_404 dX8_rowsRefusal_44 ?_
          refine G.iload_n 47 1 dX8_rowsRefusal_47 rfl rfl ?_
          refine G.aa 48 x1.toNatClampNeg (253 + 7 + 3 * x1.toNatClampNeg) (hs4.k k0_253) (by decide) rfl rfl g7 rfl (pa_14 hs4 k0_253 (inlt g7)).1 dX8_rowsRefusal_48 ?_
          refine G.geti 49 ck_6 0 (hs4.k (pa_14 hs4 k0_253 (inlt g7)).2) (by decide) (by decide +kernel) wd_374 dX8_rowsRefusal_49 ?_
          refine G.iconst 52 (2 : Int32) dX8_rowsRefusal_52 (by decide +kernel) ?_
          refine G.icmp_ne 53 69 dX8_rowsRefusal_53 (by decide) (fun h11 => ?_) (fun h11 => ?_)
          · replace hf := (if_neg h11).symm.trans hf
            refine G.bipush 69 (-12 : Int32) dX8_rowsRefusal_69 (by decide +kernel) ?_
            (have hf9 := Option.some.inj hf; subst hf9)
            exact G.rI 71 hq dX8_rowsRefusal_71 hs4
          · replace hf := (if_pos h11).symm.trans hf
            refine G.aload_n 56 0 dX8_rowsRefusal_56 rfl rfl ?_
            refine G.getp 57 ck_8 4 253 (hs4.k k0_0) (pc_8_4 hs4) (by decide) (by decide +kernel) wd_404 dX8_rowsRefusal_57 ?_
            refine G.iload_n 60 2 dX8_rowsRefusal_60 rfl rfl ?_
            refine G.aa 61 x2.toNatClampNeg (253 + 7 + 3 * x2.toNatClampNeg) (hs4.k k0_253) (by decide) rfl rfl g9 rfl (pa_14 hs4 k0_253 (inlt g9)).1 dX8_rowsRefusal_61 ?_
            refine G.geti 62 ck_6 0 (hs4.k (pa_14 hs4 k0_253 (inlt g9)).2) (by decide) (by decide +kernel) wd_374 dX8_rowsRefusal_62 ?_
            refine G.iconst 65 (2 : Int32) dX8_rowsRefusal_65 (by decide +kernel) ?_
            refine G.icmp_eq 66 72 dX8_rowsRefusal_66 (by decide) (fun h12 => ?_) (fun h12 => ?_)
            · replace hf := (if_pos h12).symm.trans hf
              refine G.aload_n 72 0 dX8_rowsRefusal_72 rfl rfl ?_
              refine G.getp 73 ck_8 4 253 (hs4.k k0_0) (pc_8_4 hs4) (by decide) (by decide +kernel) wd_404 dX8_rowsRefusal_73 ?_
              refine G.iload_n 76 1 dX8_rowsRefusal_76 rfl rfl ?_
              refine G.aa 77 x1.toNatClampNeg (253 + 7 + 3 * x1.toNatClampNeg) (hs4.k k0_253) (by decide) rfl rfl g7 rfl (pa_14 hs4 k0_253 (inlt g7)).1 dX8_rowsRefusal_77 ?_
              refine G.geti 78 ck_6 4 (hs4.k (pa_14 hs4 k0_253 (inlt g7)).2) (by decide) (by decide +kernel) wd_380 dX8_rowsRefusal_78 ?_
              refine G.aload_n 81 0 dX8_rowsRefusal_81 rfl rfl ?_
              refine G.getp 82 ck_8 4 253 (hs4.k k0_0) (pc_8_4 hs4) (by decide) (by decide +kernel) wd_404 dX8_rowsRefusal_82 ?_
              refine G.iload_n 85 2 dX8_rowsRefusal_85 rfl rfl ?_
              refine G.aa 86 x2.toNatClampNeg (253 + 7 + 3 * x2.toNatClampNeg) (hs4.k k0_253) (by decide) rfl rfl g9 rfl (pa_14 hs4 k0_253 (inlt g9)).1 dX8_rowsRefusal_86 ?_
              refine G.geti 87 ck_6 4 (hs4.k (pa_14 hs4 k0_253 (inlt g9)).2) (by decide) (by decide +kernel) wd_380 dX8_rowsRefusal_87 ?_
              refine G.icmp_ne 90 97 dX8_rowsRefusal_90 (by decide) (fun h13 => ?_) (fun h13 => ?_)
              · replace hf := (if_neg h13).symm.trans hf
                refine G.bipush 97 (-12 : Int32) dX8_rowsRefusal_97 (by decide +kernel) ?_
                (have hf9 := Option.some.inj hf; subst hf9)
                exact G.rI 99 hq dX8_rowsRefusal_99 hs4
              · replace hf := (if_pos h13).symm.trans hf
                refine G.iconst 93 (0 : Int32) dX8_rowsRefusal_93 (by decide +kernel) ?_
                refine G.goto 94 99 dX8_rowsRefusal_94 (by decide) ?_
                (have hf9 := Option.some.inj hf; subst hf9)
                exact G.rI 99 hq dX8_rowsRefusal_99 hs4
            · replace hf := (if_neg h12).symm.trans hf
              refine G.bipush 69 (-12 : Int32) dX8_rowsRefusal_69 (by decide +kernel) ?_
              (have hf9 := Option.some.inj hf; subst hf9)
              exact G.rI 71 hq dX8_rowsRefusal_71 hs4
        · replace hf := (if_pos h10).symm.trans hf
          refine G.bipush 40 (-11 : Int32) dX8_rowsRefusal_40 (by decide +kernel) ?_
          (have hf9 := Option.some.inj hf; subst hf9)
          exact G.rI 42 hq dX8_rowsRefusal_42 hs4
    · replace hf := (if_pos h6).symm.trans hf
      refine G.iconst 14 (-1 : Int32) dX8_rowsRefusal_14 (by decide +kernel) ?_
      (have hf9 := Option.some.inj hf; subst hf9)
      exact G.rI 15 hq dX8_rowsRefusal_15 hs4
