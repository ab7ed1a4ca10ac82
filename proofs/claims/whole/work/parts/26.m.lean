abbrev Y_X2_isWhole : My := (cX2_isWhole, RX2, 2)
def rm_X2_isWhole : Room := { frames := 1, cells := 0, slots := 0, locals := 200 }
theorem dX2_isWhole_0 : decode cX2_isWhole 0 = .ok (.aload_n 0, 1) := by decide +kernel
theorem dX2_isWhole_1 : decode cX2_isWhole 1 = .ok (.getfield 24, 3) := by decide +kernel
theorem dX2_isWhole_4 : decode cX2_isWhole 4 = .ok (.ifCond .eq 23, 3) := by decide +kernel
theorem dX2_isWhole_7 : decode cX2_isWhole 7 = .ok (.aload_n 0, 1) := by decide +kernel
theorem dX2_isWhole_8 : decode cX2_isWhole 8 = .ok (.getfield 9, 3) := by decide +kernel
theorem dX2_isWhole_11 : decode cX2_isWhole 11 = .ok (.iconst 4, 1) := by decide +kernel
theorem dX2_isWhole_12 : decode cX2_isWhole 12 = .ok (.if_icmp .eq 11, 3) := by decide +kernel
theorem dX2_isWhole_15 : decode cX2_isWhole 15 = .ok (.aload_n 0, 1) := by decide +kernel
theorem dX2_isWhole_16 : decode cX2_isWhole 16 = .ok (.getfield 9, 3) := by decide +kernel
theorem dX2_isWhole_19 : decode cX2_isWhole 19 = .ok (.iconst 5, 1) := by decide +kernel
theorem dX2_isWhole_20 : decode cX2_isWhole 20 = .ok (.if_icmp .ne 7, 3) := by decide +kernel
theorem dX2_isWhole_23 : decode cX2_isWhole 23 = .ok (.iconst 1, 1) := by decide +kernel
theorem dX2_isWhole_24 : decode cX2_isWhole 24 = .ok (.goto 4, 3) := by decide +kernel
theorem dX2_isWhole_27 : decode cX2_isWhole 27 = .ok (.iconst 0, 1) := by decide +kernel
theorem dX2_isWhole_28 : decode cX2_isWhole 28 = .ok (.istore_n 1, 1) := by decide +kernel
theorem dX2_isWhole_29 : decode cX2_isWhole 29 = .ok (.aload_n 0, 1) := by decide +kernel
theorem dX2_isWhole_30 : decode cX2_isWhole 30 = .ok (.getfield 13, 3) := by decide +kernel
theorem dX2_isWhole_33 : decode cX2_isWhole 33 = .ok (.ifCond .ne 20, 3) := by decide +kernel
theorem dX2_isWhole_36 : decode cX2_isWhole 36 = .ok (.iload_n 1, 1) := by decide +kernel
theorem dX2_isWhole_37 : decode cX2_isWhole 37 = .ok (.ifCond .ne 12, 3) := by decide +kernel
theorem dX2_isWhole_40 : decode cX2_isWhole 40 = .ok (.aload_n 0, 1) := by decide +kernel
theorem dX2_isWhole_41 : decode cX2_isWhole 41 = .ok (.getfield 9, 3) := by decide +kernel
theorem dX2_isWhole_44 : decode cX2_isWhole 44 = .ok (.bipush 6, 2) := by decide +kernel
theorem dX2_isWhole_46 : decode cX2_isWhole 46 = .ok (.if_icmp .ne 7, 3) := by decide +kernel
theorem dX2_isWhole_49 : decode cX2_isWhole 49 = .ok (.iconst 1, 1) := by decide +kernel
theorem dX2_isWhole_50 : decode cX2_isWhole 50 = .ok (.goto 4, 3) := by decide +kernel
theorem dX2_isWhole_53 : decode cX2_isWhole 53 = .ok (.iconst 0, 1) := by decide +kernel
theorem dX2_isWhole_54 : decode cX2_isWhole 54 = .ok (.ireturn, 1) := by decide +kernel
def B_X2_isWhole_49 (M : Mem) : Int32 := (1 : Int32)
def B_X2_isWhole_27 (M : Mem) : Int32 := if (mI M 259 1) = 0 then if (0 : Int32) = 0 then if (mI M 259 0) = (6 : Int32) then B_X2_isWhole_49 M else (0 : Int32) else B_X2_isWhole_49 M else (0 : Int32)
def B_X2_isWhole_23 (M : Mem) : Int32 := if (mI M 259 1) = 0 then if (1 : Int32) = 0 then if (mI M 259 0) = (6 : Int32) then B_X2_isWhole_49 M else (0 : Int32) else B_X2_isWhole_49 M else (0 : Int32)
def f_X2_isWhole (M : Mem) : Int32 := if (mI M 259 2) = 0 then B_X2_isWhole_27 M else if (mI M 259 0) = (4 : Int32) then B_X2_isWhole_23 M else if (mI M 259 0) = (5 : Int32) then B_X2_isWhole_23 M else B_X2_isWhole_27 M
set_option maxRecDepth 100000 in
set_option maxHeartbeats 4000000 in
theorem b_X2_isWhole_49 (Z : Sys) (X : Cx) (hR : xR X = rm_X2_isWhole) {q : Int32} {M : Mem} (hq : RetOk Z X (some .boolean) False (PostZ q M) 0 0) (hs : St M) (hf : B_X2_isWhole_49 M = q) : G Z X Y_X2_isWhole False 0 0 49 [] [] M := by
  unfold B_X2_isWhole_49 at hf
  refine G.iconst 49 (1 : Int32) dX2_isWhole_49 (by decide +kernel) ?_
  refine G.goto 50 54 dX2_isWhole_50 (by decide) ?_
  subst hf
  exact G.rZ 54 hq dX2_isWhole_54 hs (Or.inr rfl)
set_option maxRecDepth 100000 in
set_option maxHeartbeats 4000000 in
theorem b_X2_isWhole_27 (Z : Sys) (X : Cx) (hR : xR X = rm_X2_isWhole) {q : Int32} {M : Mem} (hq : RetOk Z X (some .boolean) False (PostZ q M) 0 0) (hs : St M) (hf : B_X2_isWhole_27 M = q) : G Z X Y_X2_isWhole False 0 0 27 [(0, .ref (zs Z + 259))] [] M := by
  unfold B_X2_isWhole_27 at hf
  refine G.iconst 27 (0 : Int32) dX2_isWhole_27 (by decide +kernel) ?_
  refine G.istore_n 28 [(1, .int (0 : Int32)), (0, .ref (zs Z + 259))] dX2_isWhole_28 rfl (Nat.le_of_ble_eq_true rfl) rfl ?_
  refine G.aload_n 29 1 dX2_isWhole_29 rfl rfl ?_
  refine G.geti 30 ck_2 1 (hs.k k0_259) (by decide) (by decide +kernel) wd_351 dX2_isWhole_30 ?_
  refine G.if_ne 33 53 dX2_isWhole_33 (by decide) (fun h2 => ?_) (fun h2 => ?_)
  · replace hf := (if_neg h2).symm.trans hf
    refine G.iconst 53 (0 : Int32) dX2_isWhole_53 (by decide +kernel) ?_
    subst hf
    exact G.rZ 54 hq dX2_isWhole_54 hs (Or.inl rfl)
  · replace hf := (if_pos h2).symm.trans hf
    refine G.iload_n 36 0 dX2_isWhole_36 rfl rfl ?_
    refine G.if_ne 37 49 dX2_isWhole_37 (by decide) (fun h3 => ?_) (fun h3 => ?_)
    · replace hf := (if_neg h3).symm.trans hf
      refine G.locs [] rfl ?_
      exact b_X2_isWhole_49 Z X hR hq hs hf
    · replace hf := (if_pos h3).symm.trans hf
      refine G.aload_n 40 1 dX2_isWhole_40 rfl rfl ?_
      refine G.geti 41 ck_2 0 (hs.k k0_259) (by decide) (by decide +kernel) wd_350 dX2_isWhole_41 ?_
      refine G.bipush 44 (6 : Int32) dX2_isWhole_44 (by decide +kernel) ?_
      refine G.icmp_ne 46 53 dX2_isWhole_46 (by decide) (fun h4 => ?_) (fun h4 => ?_)
      · replace hf := (if_neg h4).symm.trans hf
        refine G.iconst 53 (0 : Int32) dX2_isWhole_53 (by decide +kernel) ?_
        subst hf
        exact G.rZ 54 hq dX2_isWhole_54 hs (Or.inl rfl)
      · replace hf := (if_pos h4).symm.trans hf
        refine G.locs [] rfl ?_
        exact b_X2_isWhole_49 Z X hR hq hs hf
set_option maxRecDepth 100000 in
set_option maxHeartbeats 4000000 in
theorem b_X2_isWhole_23 (Z : Sys) (X : Cx) (hR : xR X = rm_X2_isWhole) {q : Int32} {M : Mem} (hq : RetOk Z X (some .boolean) False (PostZ q M) 0 0) (hs : St M) (hf : B_X2_isWhole_23 M = q) : G Z X Y_X2_isWhole False 0 0 23 [(0, .ref (zs Z + 259))] [] M := by
  unfold B_X2_isWhole_23 at hf
  refine G.iconst 23 (1 : Int32) dX2_isWhole_23 (by decide +kernel) ?_
  refine G.goto 24 28 dX2_isWhole_24 (by decide) ?_
  refine G.istore_n 28 [(1, .int (1 : Int32)), (0, .ref (zs Z + 259))] dX2_isWhole_28 rfl (Nat.le_of_ble_eq_true rfl) rfl ?_
  refine G.aload_n 29 1 dX2_isWhole_29 rfl rfl ?_
  refine G.geti 30 ck_2 1 (hs.k k0_259) (by decide) (by decide +kernel) wd_351 dX2_isWhole_30 ?_
  refine G.if_ne 33 53 dX2_isWhole_33 (by decide) (fun h6 => ?_) (fun h6 => ?_)
  · replace hf := (if_neg h6).symm.trans hf
    refine G.iconst 53 (0 : Int32) dX2_isWhole_53 (by decide +kernel) ?_
    subst hf
    exact G.rZ 54 hq dX2_isWhole_54 hs (Or.inl rfl)
  · replace hf := (if_pos h6).symm.trans hf
    refine G.iload_n 36 0 dX2_isWhole_36 rfl rfl ?_
    refine G.if_ne 37 49 dX2_isWhole_37 (by decide) (fun h7 => ?_) (fun h7 => ?_)
    · replace hf := (if_neg h7).symm.trans hf
      refine G.locs [] rfl ?_
      exact b_X2_isWhole_49 Z X hR hq hs hf
    · replace hf := (if_pos h7).symm.trans hf
      refine G.aload_n 40 1 dX2_isWhole_40 rfl rfl ?_
      refine G.geti 41 ck_2 0 (hs.k k0_259) (by decide) (by decide +kernel) wd_350 dX2_isWhole_41 ?_
      refine G.bipush 44 (6 : Int32) dX2_isWhole_44 (by decide +kernel) ?_
      refine G.icmp_ne 46 53 dX2_isWhole_46 (by decide) (fun h8 => ?_) (fun h8 => ?_)
      · replace hf := (if_neg h8).symm.trans hf
        refine G.iconst 53 (0 : Int32) dX2_isWhole_53 (by decide +kernel) ?_
        subst hf
        exact G.rZ 54 hq dX2_isWhole_54 hs (Or.inl rfl)
      · replace hf := (if_pos h8).symm.trans hf
        refine G.locs [] rfl ?_
        exact b_X2_isWhole_49 Z X hR hq hs hf
set_option maxRecDepth 100000 in
set_option maxHeartbeats 4000000 in
theorem c_X2_isWhole (Z : Sys) {M : Mem} (hs : St M) {q : Int32} (hf : f_X2_isWhole M = q) : Ct Z yX2_isWhole cX2_isWhole 2 (some .boolean) rm_X2_isWhole [.ref (zs Z + 259)] M False (PostZ q M) := by
  refine Ct.of (by decide +kernel) (Nat.le_of_ble_eq_true rfl) (fun X hR hq _ => ?_)
  show G Z X Y_X2_isWhole False 0 0 0 [(0, .ref (zs Z + 259))] [] M
  replace hq : RetOk Z X (some .boolean) False (PostZ q M) 0 0 := hq
  unfold f_X2_isWhole at hf
  refine G.aload_n 0 0 dX2_isWhole_0 rfl rfl ?_
  refine G.geti 1 ck_2 2 (hs.k k0_259) (by decide) (by decide +kernel) wd_352 dX2_isWhole_1 ?_
  refine G.if_eq 4 27 dX2_isWhole_4 (by decide) (fun h1 => ?_) (fun h1 => ?_)
  · replace hf := (if_pos h1).symm.trans hf
    exact b_X2_isWhole_27 Z X hR hq hs hf
  · replace hf := (if_neg h1).symm.trans hf
    refine G.aload_n 7 0 dX2_isWhole_7 rfl rfl ?_
    refine G.geti 8 ck_2 0 (hs.k k0_259) (by decide) (by decide +kernel) wd_350 dX2_isWhole_8 ?_
    refine G.iconst 11 (4 : Int32) dX2_isWhole_11 (by decide +kernel) ?_
    refine G.icmp_eq 12 23 dX2_isWhole_12 (by decide) (fun h5 => ?_) (fun h5 => ?_)
    · replace hf := (if_pos h5).symm.trans hf
      exact b_X2_isWhole_23 Z X hR hq hs hf
    · replace hf := (if_neg h5).symm.trans hf
      refine G.aload_n 15 0 dX2_isWhole_15 rfl rfl ?_
      refine G.geti 16 ck_2 0 (hs.k k0_259) (by decide) (by decide +kernel) wd_350 dX2_isWhole_16 ?_
      refine G.iconst 19 (5 : Int32) dX2_isWhole_19 (by decide +kernel) ?_
      refine G.icmp_ne 20 27 dX2_isWhole_20 (by decide) (fun h9 => ?_) (fun h9 => ?_)
      · replace hf := (if_neg h9).symm.trans hf
        exact b_X2_isWhole_27 Z X hR hq hs hf
      · replace hf := (if_pos h9).symm.trans hf
        exact b_X2_isWhole_23 Z X hR hq hs hf
abbrev Y_X2_faultOf : My := (cX2_faultOf, RX2, 4)
def rm_X2_faultOf : Room := { frames := 24, cells := 0, slots := 0, locals := 1083 }
theorem dX2_faultOf_0 : decode cX2_faultOf 0 = .ok (.aload_n 0, 1) := by decide +kernel
theorem dX2_faultOf_1 : decode cX2_faultOf 1 = .ok (.iconst 0, 1) := by decide +kernel
theorem dX2_faultOf_2 : decode cX2_faultOf 2 = .ok (.putfield 9, 3) := by decide +kernel
theorem dX2_faultOf_5 : decode cX2_faultOf 5 = .ok (.aload_n 0, 1) := by decide +kernel
theorem dX2_faultOf_6 : decode cX2_faultOf 6 = .ok (.iconst 0, 1) := by decide +kernel
theorem dX2_faultOf_7 : decode cX2_faultOf 7 = .ok (.putfield 13, 3) := by decide +kernel
theorem dX2_faultOf_10 : decode cX2_faultOf 10 = .ok (.iconst 0, 1) := by decide +kernel
theorem dX2_faultOf_11 : decode cX2_faultOf 11 = .ok (.istore_n 3, 1) := by decide +kernel
theorem dX2_faultOf_12 : decode cX2_faultOf 12 = .ok (.iload_n 3, 1) := by decide +kernel
theorem dX2_faultOf_13 : decode cX2_faultOf 13 = .ok (.iload_n 2, 1) := by decide +kernel
theorem dX2_faultOf_14 : decode cX2_faultOf 14 = .ok (.if_icmp .ge 27, 3) := by decide +kernel
theorem dX2_faultOf_17 : decode cX2_faultOf 17 = .ok (.iload_n 3, 1) := by decide +kernel
theorem dX2_faultOf_18 : decode cX2_faultOf 18 = .ok (.aload_n 1, 1) := by decide +kernel
theorem dX2_faultOf_19 : decode cX2_faultOf 19 = .ok (.arraylength, 1) := by decide +kernel
theorem dX2_faultOf_20 : decode cX2_faultOf 20 = .ok (.if_icmp .ge 21, 3) := by decide +kernel
theorem dX2_faultOf_23 : decode cX2_faultOf 23 = .ok (.aload_n 0, 1) := by decide +kernel
theorem dX2_faultOf_24 : decode cX2_faultOf 24 = .ok (.aload_n 1, 1) := by decide +kernel
theorem dX2_faultOf_25 : decode cX2_faultOf 25 = .ok (.iload_n 3, 1) := by decide +kernel
theorem dX2_faultOf_26 : decode cX2_faultOf 26 = .ok (.iaload, 1) := by decide +kernel
theorem dX2_faultOf_27 : decode cX2_faultOf 27 = .ok (.invokevirtual 16, 3) := by decide +kernel
theorem dX2_faultOf_30 : decode cX2_faultOf 30 = .ok (.ifCond .ne 5, 3) := by decide +kernel
theorem dX2_faultOf_33 : decode cX2_faultOf 33 = .ok (.iload_n 3, 1) := by decide +kernel
theorem dX2_faultOf_34 : decode cX2_faultOf 34 = .ok (.ireturn, 1) := by decide +kernel
theorem dX2_faultOf_35 : decode cX2_faultOf 35 = .ok (.iinc 3 1, 3) := by decide +kernel
theorem dX2_faultOf_38 : decode cX2_faultOf 38 = .ok (.goto (-26), 3) := by decide +kernel
theorem dX2_faultOf_41 : decode cX2_faultOf 41 = .ok (.aload_n 0, 1) := by decide +kernel
theorem dX2_faultOf_42 : decode cX2_faultOf 42 = .ok (.invokevirtual 20, 3) := by decide +kernel
theorem dX2_faultOf_45 : decode cX2_faultOf 45 = .ok (.ifCond .eq 7, 3) := by decide +kernel
theorem dX2_faultOf_48 : decode cX2_faultOf 48 = .ok (.iconst (-1), 1) := by decide +kernel
theorem dX2_faultOf_49 : decode cX2_faultOf 49 = .ok (.goto 4, 3) := by decide +kernel
theorem dX2_faultOf_52 : decode cX2_faultOf 52 = .ok (.iload_n 2, 1) := by decide +kernel
theorem dX2_faultOf_53 : decode cX2_faultOf 53 = .ok (.ireturn, 1) := by decide +kernel
def B_X2_faultOf_41 (x2 : Int32) (M : Mem) : Option (Int32 × Mem) := if (f_X2_isWhole M) = 0 then some (x2, M) else some ((-1 : Int32), M)
def L_X2_faultOf_12 : Nat → Nat → Int32 → Int32 → Mem → Option (Int32 × Mem)
  | 0, _, _, _, _ => none
  | n + 1, a1, x2, x3, M => if x2 ≤ x3 then B_X2_faultOf_41 x2 M else if (Int32.ofNat (ln a1)) ≤ x3 then B_X2_faultOf_41 x2 M else gd (inR x3 (ln a1)) ((f_X2_goesOn (mI M a1 x3.toNatClampNeg) M).bind fun q9 => if q9.1 = 0 then some (x3, q9.2) else L_X2_faultOf_12 n a1 x2 (x3 + 1) q9.2)
def f_X2_faultOf (a1 : Nat) (x2 : Int32) (M : Mem) : Option (Int32 × Mem) := L_X2_faultOf_12 FU a1 x2 (0 : Int32) (sI (sI M 259 0 (0 : Int32)) 259 1 (0 : Int32))
set_option maxRecDepth 100000 in
set_option maxHeartbeats 4000000 in
theorem b_X2_faultOf_41 (Z : Sys) (X : Cx) (hR : xR X = rm_X2_faultOf) {q : Int32 × Mem} (hq : RetOk Z X (some .int) False (PostI q.1 q.2) 0 0) (x2 : Int32) {M : Mem} (hs : St M) (hf : B_X2_faultOf_41 x2 M = some q) : G Z X Y_X2_faultOf False 0 0 41 [(0, .ref (zs Z + 259)), (2, .int x2)] [] M := by
  unfold B_X2_faultOf_41 at hf
  refine G.aload_n 41 0 dX2_faultOf_41 rfl rfl ?_
  refine G.cvZ 42 (As := []) ck_2 (hs.k k0_259) (c_X2_isWhole Z hs rfl) mk_X2_isWhole vk_X2_isWhole rfl wd_1003 hR (by decide +kernel) ⟨rfl, rfl⟩ rfl (Nat.le_of_ble_eq_true rfl) dX2_faultOf_42 (fun hs2 z3 => ?_)
  refine G.if_eq 45 52 dX2_faultOf_45 (by decide) (fun h4 => ?_) (fun h4 => ?_)
  · replace hf := (if_pos h4).symm.trans hf
    refine G.iload_n 52 1 dX2_faultOf_52 rfl rfl ?_
    (have hf9 := Option.some.inj hf; subst hf9)
    exact G.rI 53 hq dX2_faultOf_53 hs2
  · replace hf := (if_neg h4).symm.trans hf
    refine G.iconst 48 (-1 : Int32) dX2_faultOf_48 (by decide +kernel) ?_
    refine G.goto 49 53 dX2_faultOf_49 (by decide) ?_
    (have hf9 := Option.some.inj hf; subst hf9)
    exact G.rI 53 hq dX2_faultOf_53 hs2
set_option maxRecDepth 100000 in
set_option maxHeartbeats 4000000 in
theorem l_X2_faultOf_12 (Z : Sys) (X : Cx) (hR : xR X = rm_X2_faultOf) {q : Int32 × Mem} (hq : RetOk Z X (some .int) False (PostI q.1 q.2) 0 0) : ∀ (n : Nat) (a1 : Nat) (x2 : Int32) (x3 : Int32) (M : Mem) (hs : St M) (k_a1 : K0[a1]? = some (10, (ln a1))) (hf : L_X2_faultOf_12 n a1 x2 x3 M = some q), G Z X Y_X2_faultOf False 0 0 12 [(0, .ref (zs Z + 259)), (1, .ref (zs Z + a1)), (2, .int x2), (3, .int x3)] [] M := by
  intro n
  induction n with
  | zero => intro a1 x2 x3 M hs k_a1 hf; cases hf
  | succ n ih =>
    intro a1 x2 x3 M hs k_a1 hf
    unfold L_X2_faultOf_12 at hf
    refine G.iload_n 12 3 dX2_faultOf_12 rfl rfl ?_
    refine G.iload_n 13 2 dX2_faultOf_13 rfl rfl ?_
    refine G.icmp_ge 14 41 dX2_faultOf_14 (by decide) (fun h1 => ?_) (fun h1 => ?_)
    · replace hf := (if_pos h1).symm.trans hf
      refine G.locs [0, 2] rfl ?_
      exact b_X2_faultOf_41 Z X hR hq x2 hs hf
    · replace hf := (if_neg h1).symm.trans hf
      refine G.iload_n 17 3 dX2_faultOf_17 rfl rfl ?_
      refine G.aload_n 18 1 dX2_faultOf_18 rfl rfl ?_
      refine G.alen 19 (Int32.ofNat (ln a1)) (hs.k k_a1) (by decide) rfl dX2_faultOf_19 ?_
      refine G.icmp_ge 20 41 dX2_faultOf_20 (by decide) (fun h5 => ?_) (fun h5 => ?_)
      · replace hf := (if_pos h5).symm.trans hf
        refine G.locs [0, 2] rfl ?_
        exact b_X2_faultOf_41 Z X hR hq x2 hs hf
      · replace hf := (if_neg h5).symm.trans hf
        refine G.aload_n 23 0 dX2_faultOf_23 rfl rfl ?_
        refine G.aload_n 24 1 dX2_faultOf_24 rfl rfl ?_
        refine G.iload_n 25 3 dX2_faultOf_25 rfl rfl ?_
        obtain ⟨g6, hf⟩ := gd_e hf
        refine G.ia 26 x3.toNatClampNeg (hs.k k_a1) g6 rfl dX2_faultOf_26 ?_
        obtain ⟨q9, e10, hf⟩ := bd_e hf
        refine G.cvZ 27 (As := [.int (mI M a1 x3.toNatClampNeg)]) ck_2 (hs.k k0_259) (c_X2_goesOn Z hs (mI M a1 x3.toNatClampNeg) e10) mk_X2_goesOn vk_X2_goesOn rfl wd_886 hR (by decide +kernel) ⟨rfl, rfl⟩ rfl (Nat.le_of_ble_eq_true rfl) dX2_faultOf_27 (fun hs7 z8 => ?_)
        refine G.if_ne 30 35 dX2_faultOf_30 (by decide) (fun h11 => ?_) (fun h11 => ?_)
        · replace hf := (if_neg h11).symm.trans hf
          refine G.iinc 35 3 (x3 + 1) [(3, .int (x3 + 1)), (0, .ref (zs Z + 259)), (1, .ref (zs Z + a1)), (2, .int x2)] dX2_faultOf_35 rfl (congrArg (fun z => x3 + z) (by decide +kernel)) (Nat.le_of_ble_eq_true rfl) rfl ?_
          refine G.goto 38 12 dX2_faultOf_38 (by decide) ?_
          refine G.locs [1, 2, 3, 0] rfl ?_
          exact ih a1 x2 (x3 + 1) q9.2 hs7 (ln_k k_a1) hf
        · replace hf := (if_pos h11).symm.trans hf
          refine G.iload_n 33 3 dX2_faultOf_33 rfl rfl ?_
          (have hf9 := Option.some.inj hf; subst hf9)
          exact G.rI 34 hq dX2_faultOf_34 hs7
set_option maxRecDepth 100000 in
set_option maxHeartbeats 4000000 in
theorem c_X2_faultOf (Z : Sys) {M : Mem} (hs : St M) (a1 : Nat) (x2 : Int32) (k_a1 : K0[a1]? = some (10, (ln a1))) {q : Int32 × Mem} (hf : f_X2_faultOf a1 x2 M = some q) : Ct Z yX2_faultOf cX2_faultOf 4 (some .int) rm_X2_faultOf [.ref (zs Z + 259), .ref (zs Z + a1), .int x2] M False (PostI q.1 q.2) := by
  refine Ct.of (by decide +kernel) (Nat.le_of_ble_eq_true rfl) (fun X hR hq _ => ?_)
  show G Z X Y_X2_faultOf False 0 0 0 [(0, .ref (zs Z + 259)), (1, .ref (zs Z + a1)), (2, .int x2)] [] M
  replace hq : RetOk Z X (some .int) False (PostI q.1 q.2) 0 0 := hq
  unfold f_X2_faultOf at hf
  refine G.aload_n 0 0 dX2_faultOf_0 rfl rfl ?_
  refine G.iconst 1 (0 : Int32) dX2_faultOf_1 (by decide +kernel) ?_
  refine G.puti 2 ck_2 0 (hs.k k0_259) (by decide) (by decide +kernel) rfl wd_350 rfl rfl dX2_faultOf_2 ?_
  refine G.aload_n 5 0 dX2_faultOf_5 rfl rfl ?_
  refine G.iconst 6 (0 : Int32) dX2_faultOf_6 (by decide +kernel) ?_
  refine G.puti 7 ck_2 1 ((St.i hs).k k0_259) (by decide) (by decide +kernel) rfl wd_351 rfl rfl dX2_faultOf_7 ?_
  refine G.iconst 10 (0 : Int32) dX2_faultOf_10 (by decide +kernel) ?_
  refine G.istore_n 11 [(3, .int (0 : Int32)), (0, .ref (zs Z + 259)), (1, .ref (zs Z + a1)), (2, .int x2)] dX2_faultOf_11 rfl (Nat.le_of_ble_eq_true rfl) rfl ?_
  refine G.locs [1, 2, 3, 0] rfl ?_
  exact l_X2_faultOf_12 Z X hR hq FU a1 x2 (0 : Int32) (sI (sI M 259 0 (0 : Int32)) 259 1 (0 : Int32)) (St.i (St.i hs)) (ln_k k_a1) hf
abbrev Y_X4_consider : My := (cX4_consider, RX4, 6)
def rm_X4_consider : Room := { frames := 1, cells := 0, slots := 0, locals := 200 }
theorem dX4_consider_0 : decode cX4_consider 0 = .ok (.iload 4, 2) := by decide +kernel
theorem dX4_consider_2 : decode cX4_consider 2 = .ok (.istore 5, 2) := by decide +kernel
theorem dX4_consider_4 : decode cX4_consider 4 = .ok (.iload 5, 2) := by decide +kernel
theorem dX4_consider_6 : decode cX4_consider 6 = .ok (.iload_n 2, 1) := by decide +kernel
theorem dX4_consider_7 : decode cX4_consider 7 = .ok (.if_icmp .lt 68, 3) := by decide +kernel
theorem dX4_consider_10 : decode cX4_consider 10 = .ok (.aload_n 0, 1) := by decide +kernel
theorem dX4_consider_11 : decode cX4_consider 11 = .ok (.getfield 9, 3) := by decide +kernel
theorem dX4_consider_14 : decode cX4_consider 14 = .ok (.iload 5, 2) := by decide +kernel
theorem dX4_consider_16 : decode cX4_consider 16 = .ok (.iload_n 2, 1) := by decide +kernel
theorem dX4_consider_17 : decode cX4_consider 17 = .ok (.isub, 1) := by decide +kernel
theorem dX4_consider_18 : decode cX4_consider 18 = .ok (.iaload, 1) := by decide +kernel
theorem dX4_consider_19 : decode cX4_consider 19 = .ok (.iload_n 3, 1) := by decide +kernel
theorem dX4_consider_20 : decode cX4_consider 20 = .ok (.iadd, 1) := by decide +kernel
theorem dX4_consider_21 : decode cX4_consider 21 = .ok (.aload_n 0, 1) := by decide +kernel
theorem dX4_consider_22 : decode cX4_consider 22 = .ok (.getfield 9, 3) := by decide +kernel
theorem dX4_consider_25 : decode cX4_consider 25 = .ok (.iload 5, 2) := by decide +kernel
theorem dX4_consider_27 : decode cX4_consider 27 = .ok (.iaload, 1) := by decide +kernel
theorem dX4_consider_28 : decode cX4_consider 28 = .ok (.if_icmp .le 41, 3) := by decide +kernel
theorem dX4_consider_31 : decode cX4_consider 31 = .ok (.aload_n 0, 1) := by decide +kernel
theorem dX4_consider_32 : decode cX4_consider 32 = .ok (.getfield 9, 3) := by decide +kernel
theorem dX4_consider_35 : decode cX4_consider 35 = .ok (.iload 5, 2) := by decide +kernel
theorem dX4_consider_37 : decode cX4_consider 37 = .ok (.aload_n 0, 1) := by decide +kernel
theorem dX4_consider_38 : decode cX4_consider 38 = .ok (.getfield 9, 3) := by decide +kernel
theorem dX4_consider_41 : decode cX4_consider 41 = .ok (.iload 5, 2) := by decide +kernel
theorem dX4_consider_43 : decode cX4_consider 43 = .ok (.iload_n 2, 1) := by decide +kernel
theorem dX4_consider_44 : decode cX4_consider 44 = .ok (.isub, 1) := by decide +kernel
theorem dX4_consider_45 : decode cX4_consider 45 = .ok (.iaload, 1) := by decide +kernel
theorem dX4_consider_46 : decode cX4_consider 46 = .ok (.iload_n 3, 1) := by decide +kernel
theorem dX4_consider_47 : decode cX4_consider 47 = .ok (.iadd, 1) := by decide +kernel
theorem dX4_consider_48 : decode cX4_consider 48 = .ok (.iastore, 1) := by decide +kernel
theorem dX4_consider_49 : decode cX4_consider 49 = .ok (.aload_n 0, 1) := by decide +kernel
theorem dX4_consider_50 : decode cX4_consider 50 = .ok (.getfield 15, 3) := by decide +kernel
theorem dX4_consider_53 : decode cX4_consider 53 = .ok (.iload 5, 2) := by decide +kernel
theorem dX4_consider_55 : decode cX4_consider 55 = .ok (.aload_n 0, 1) := by decide +kernel
theorem dX4_consider_56 : decode cX4_consider 56 = .ok (.getfield 15, 3) := by decide +kernel
theorem dX4_consider_59 : decode cX4_consider 59 = .ok (.iload 5, 2) := by decide +kernel
theorem dX4_consider_61 : decode cX4_consider 61 = .ok (.iload_n 2, 1) := by decide +kernel
theorem dX4_consider_62 : decode cX4_consider 62 = .ok (.isub, 1) := by decide +kernel
theorem dX4_consider_63 : decode cX4_consider 63 = .ok (.iaload, 1) := by decide +kernel
theorem dX4_consider_64 : decode cX4_consider 64 = .ok (.iconst 1, 1) := by decide +kernel
theorem dX4_consider_65 : decode cX4_consider 65 = .ok (.iload_n 1, 1) := by decide +kernel
theorem dX4_consider_66 : decode cX4_consider 66 = .ok (.ishl, 1) := by decide +kernel
theorem dX4_consider_67 : decode cX4_consider 67 = .ok (.ior, 1) := by decide +kernel
theorem dX4_consider_68 : decode cX4_consider 68 = .ok (.iastore, 1) := by decide +kernel
theorem dX4_consider_69 : decode cX4_consider 69 = .ok (.iinc 5 (-1), 3) := by decide +kernel
theorem dX4_consider_72 : decode cX4_consider 72 = .ok (.goto (-68), 3) := by decide +kernel
theorem dX4_consider_75 : decode cX4_consider 75 = .ok (.return_, 1) := by decide +kernel
def B_X4_consider_69 (rc_4 : Int32 → Int32 → Int32 → Int32 → Mem → Option Mem) (x1 : Int32) (x2 : Int32) (x3 : Int32) (x5 : Int32) (M : Mem) : Option Mem := rc_4 x1 x2 x3 (x5 + (-1 : Int32)) M
def L_X4_consider_4 : Nat → Int32 → Int32 → Int32 → Int32 → Mem → Option Mem
  | 0, _, _, _, _, _ => none
  | n + 1, x1, x2, x3, x5, M => if x5 < x2 then some M else gd (inR (x5 - x2) 301) (gd (inR x5 301) (if ((mI M 257 (x5 - x2).toNatClampNeg) + x3) ≤ (mI M 257 x5.toNatClampNeg) then B_X4_consider_69 (L_X4_consider_4 n) x1 x2 x3 x5 M else B_X4_consider_69 (L_X4_consider_4 n) x1 x2 x3 x5 (sI (sI M 257 x5.toNatClampNeg ((mI M 257 (x5 - x2).toNatClampNeg) + x3)) 258 x5.toNatClampNeg ((mI (sI M 257 x5.toNatClampNeg ((mI M 257 (x5 - x2).toNatClampNeg) + x3)) 258 (x5 - x2).toNatClampNeg) ||| ((1 : Int32) <<< (x1 &&& 31))))))
def f_X4_consider (x1 : Int32) (x2 : Int32) (x3 : Int32) (x4 : Int32) (M : Mem) : Option Mem := L_X4_consider_4 FU x1 x2 x3 x4 M
set_option maxRecDepth 100000 in
set_option maxHeartbeats 4000000 in
theorem b_X4_consider_69 (Z : Sys) (X : Cx) (hR : xR X = rm_X4_consider) {q : Mem} (hq : RetOk Z X none False (PostV q) 0 0) (rc_4 : Int32 → Int32 → Int32 → Int32 → Mem → Option Mem) (hrc_4 : ∀ (x1 : Int32) (x2 : Int32) (x3 : Int32) (x5 : Int32) (M : Mem), St M → rc_4 x1 x2 x3 x5 M = some q → G Z X Y_X4_consider False 0 0 4 [(0, .ref (zs Z + 256)), (1, .int x1), (2, .int x2), (3, .int x3), (5, .int x5)] [] M) (x1 : Int32) (x2 : Int32) (x3 : Int32) (x5 : Int32) {M : Mem} (hs : St M) (hf : B_X4_consider_69 rc_4 x1 x2 x3 x5 M = some q) : G Z X Y_X4_consider False 0 0 69 [(0, .ref (zs Z + 256)), (1, .int x1), (2, .int x2), (3, .int x3), (5, .int x5)] [] M := by
  unfold B_X4_consider_69 at hf
  refine G.iinc 69 4 (x5 + (-1 : Int32)) [(5, .int (x5 + (-1 : Int32))), (0, .ref (zs Z + 256)), (1, .int x1), (2, .int x2), (3, .int x3)] dX4_consider_69 rfl (congrArg (fun z => x5 + z) (by decide +kernel)) (Nat.le_of_ble_eq_true rfl) rfl ?_
  refine G.goto 72 4 dX4_consider_72 (by decide) ?_
  refine G.locs [1, 2, 3, 4, 0] rfl ?_
  exact hrc_4 x1 x2 x3 (x5 + (-1 : Int32)) M hs hf
set_option maxRecDepth 100000 in
set_option maxHeartbeats 4000000 in
theorem l_X4_consider_4 (Z : Sys) (X : Cx) (hR : xR X = rm_X4_consider) {q : Mem} (hq : RetOk Z X none False (PostV q) 0 0) : ∀ (n : Nat) (x1 : Int32) (x2 : Int32) (x3 : Int32) (x5 : Int32) (M : Mem) (hs : St M) (hf : L_X4_consider_4 n x1 x2 x3 x5 M = some q), G Z X Y_X4_consider False 0 0 4 [(0, .ref (zs Z + 256)), (1, .int x1), (2, .int x2), (3, .int x3), (5, .int x5)] [] M := by
  intro n
  induction n with
  | zero => intro x1 x2 x3 x5 M hs  hf; cases hf
  | succ n ih =>
    intro x1 x2 x3 x5 M hs  hf
    unfold L_X4_consider_4 at hf
    refine G.iload 4 4 dX4_consider_4 rfl ?_
    refine G.iload_n 6 2 dX4_consider_6 rfl rfl ?_
    refine G.icmp_lt 7 75 dX4_consider_7 (by decide) (fun h1 => ?_) (fun h1 => ?_)
    · replace hf := (if_pos h1).symm.trans hf
      (have hf9 := Option.some.inj hf; subst hf9)
      exact G.rV 75 hq dX4_consider_75 hs
    · replace hf := (if_neg h1).symm.trans hf
      refine G.aload_n 10 0 dX4_consider_10 rfl rfl ?_
      refine G.getp 11 ck_4 0 257 (hs.k k0_256) (pc_4_0 hs) (by decide) (by decide +kernel) wd_335 dX4_consider_11 ?_
      refine G.iload 14 4 dX4_consider_14 rfl ?_
      refine G.iload_n 16 2 dX4_consider_16 rfl rfl ?_
      refine G.isub 17 dX4_consider_17 ?_
      obtain ⟨g2, hf⟩ := gd_e hf
      refine G.ia 18 (x5 - x2).toNatClampNeg (hs.k k0_257) g2 rfl dX4_consider_18 ?_
      refine G.iload_n 19 3 dX4_consider_19 rfl rfl ?_
      refine G.iadd 20 dX4_consider_20 ?_
      refine G.aload_n 21 0 dX4_consider_21 rfl rfl ?_
      refine G.getp 22 ck_4 0 257 (hs.k k0_256) (pc_4_0 hs) (by decide) (by decide +kernel) wd_335 dX4_consider_22 ?_
      refine G.iload 25 4 dX4_consider_25 rfl ?_
      obtain ⟨g3, hf⟩ := gd_e hf
      refine G.ia 27 x5.toNatClampNeg (hs.k k0_257) g3 rfl dX4_consider_27 ?_
      refine G.icmp_le 28 69 dX4_consider_28 (by decide) (fun h4 => ?_) (fun h4 => ?_)
      · replace hf := (if_pos h4).symm.trans hf
        exact b_X4_consider_69 Z X hR hq (L_X4_consider_4 n) ih x1 x2 x3 x5 hs hf
      · replace hf := (if_neg h4).symm.trans hf
        refine G.aload_n 31 0 dX4_consider_31 rfl rfl ?_
        refine G.getp 32 ck_4 0 257 (hs.k k0_256) (pc_4_0 hs) (by decide) (by decide +kernel) wd_335 dX4_consider_32 ?_
        refine G.iload 35 4 dX4_consider_35 rfl ?_
        refine G.aload_n 37 0 dX4_consider_37 rfl rfl ?_
        refine G.getp 38 ck_4 0 257 (hs.k k0_256) (pc_4_0 hs) (by decide) (by decide +kernel) wd_335 dX4_consider_38 ?_
        refine G.iload 41 4 dX4_consider_41 rfl ?_
        refine G.iload_n 43 2 dX4_consider_43 rfl rfl ?_
        refine G.isub 44 dX4_consider_44 ?_
        refine G.ia 45 (x5 - x2).toNatClampNeg (hs.k k0_257) g2 rfl dX4_consider_45 ?_
        refine G.iload_n 46 3 dX4_consider_46 rfl rfl ?_
        refine G.iadd 47 dX4_consider_47 ?_
        refine G.ist 48 x5.toNatClampNeg (hs.k k0_257) g3 rfl dX4_consider_48 ?_
        refine G.aload_n 49 0 dX4_consider_49 rfl rfl ?_
        refine G.getp 50 ck_4 1 258 ((St.i hs).k k0_256) (pc_4_1 (St.i hs)) (by decide) (by decide +kernel) wd_337 dX4_consider_50 ?_
        refine G.iload 53 4 dX4_consider_53 rfl ?_
        refine G.aload_n 55 0 dX4_consider_55 rfl rfl ?_
        refine G.getp 56 ck_4 1 258 ((St.i hs).k k0_256) (pc_4_1 (St.i hs)) (by decide) (by decide +kernel) wd_337 dX4_consider_56 ?_
        refine G.iload 59 4 dX4_consider_59 rfl ?_
        refine G.iload_n 61 2 dX4_consider_61 rfl rfl ?_
        refine G.isub 62 dX4_consider_62 ?_
        refine G.ia 63 (x5 - x2).toNatClampNeg ((St.i hs).k k0_258) g2 rfl dX4_consider_63 ?_
        refine G.iconst 64 (1 : Int32) dX4_consider_64 (by decide +kernel) ?_
        refine G.iload_n 65 1 dX4_consider_65 rfl rfl ?_
        refine G.ishl 66 dX4_consider_66 ?_
        refine G.ior 67 dX4_consider_67 ?_
        refine G.ist 68 x5.toNatClampNeg ((St.i hs).k k0_258) g3 rfl dX4_consider_68 ?_
        exact b_X4_consider_69 Z X hR hq (L_X4_consider_4 n) ih x1 x2 x3 x5 (St.i (St.i hs)) hf
set_option maxRecDepth 100000 in
set_option maxHeartbeats 4000000 in
theorem c_X4_consider (Z : Sys) {M : Mem} (hs : St M) (x1 : Int32) (x2 : Int32) (x3 : Int32) (x4 : Int32) {q : Mem} (hf : f_X4_consider x1 x2 x3 x4 M = some q) : Ct Z yX4_consider cX4_consider 6 none rm_X4_consider [.ref (zs Z + 256), .int x1, .int x2, .int x3, .int x4] M False (PostV q) := by
  refine Ct.of (by decide +kernel) (Nat.le_of_ble_eq_true rfl) (fun X hR hq _ => ?_)
  show G Z X Y_X4_consider False 0 0 0 [(0, .ref (zs Z + 256)), (1, .int x1), (2, .int x2), (3, .int x3), (4, .int x4)] [] M
  replace hq : RetOk Z X none False (PostV q) 0 0 := hq
  unfold f_X4_consider at hf
  refine G.iload 0 4 dX4_consider_0 rfl ?_
  refine G.istore 2 [(5, .int x4), (0, .ref (zs Z + 256)), (1, .int x1), (2, .int x2), (3, .int x3), (4, .int x4)] dX4_consider_2 (Nat.le_of_ble_eq_true rfl) rfl ?_
  refine G.locs [1, 2, 3, 4, 0] rfl ?_
  exact l_X4_consider_4 Z X hR hq FU x1 x2 x3 x4 M hs hf
abbrev Y_X4_worthOf : My := (cX4_worthOf, RX4, 2)
def rm_X4_worthOf : Room := { frames := 1, cells := 0, slots := 0, locals := 200 }
theorem dX4_worthOf_0 : decode cX4_worthOf 0 = .ok (.iload_n 0, 1) := by decide +kernel
theorem dX4_worthOf_1 : decode cX4_worthOf 1 = .ok (.invokestatic 65, 3) := by decide +kernel
theorem dX4_worthOf_4 : decode cX4_worthOf 4 = .ok (.iload_n 1, 1) := by decide +kernel
theorem dX4_worthOf_5 : decode cX4_worthOf 5 = .ok (.ifCond .le 8, 3) := by decide +kernel
theorem dX4_worthOf_8 : decode cX4_worthOf 8 = .ok (.bipush 50, 2) := by decide +kernel
theorem dX4_worthOf_10 : decode cX4_worthOf 10 = .ok (.goto 4, 3) := by decide +kernel
theorem dX4_worthOf_13 : decode cX4_worthOf 13 = .ok (.iconst 0, 1) := by decide +kernel
theorem dX4_worthOf_14 : decode cX4_worthOf 14 = .ok (.iadd, 1) := by decide +kernel
theorem dX4_worthOf_15 : decode cX4_worthOf 15 = .ok (.ireturn, 1) := by decide +kernel
def f_X4_worthOf (x0 : Int32) (x1 : Int32) : Int32 := if x1 ≤ 0 then ((jabs x0) + (0 : Int32)) else ((jabs x0) + (50 : Int32))
set_option maxRecDepth 100000 in
set_option maxHeartbeats 4000000 in
theorem c_X4_worthOf (Z : Sys) {M : Mem} (hs : St M) (x0 : Int32) (x1 : Int32) {q : Int32} (hf : f_X4_worthOf x0 x1 = q) : Ct Z yX4_worthOf cX4_worthOf 2 (some .int) rm_X4_worthOf [.int x0, .int x1] M False (PostI q M) := by
  refine Ct.of (by decide +kernel) (Nat.le_of_ble_eq_true rfl) (fun X hR hq _ => ?_)
  show G Z X Y_X4_worthOf False 0 0 0 [(0, .int x0), (1, .int x1)] [] M
  replace hq : RetOk Z X (some .int) False (PostI q M) 0 0 := hq
  unfold f_X4_worthOf at hf
  refine G.iload_n 0 0 dX4_worthOf_0 rfl rfl ?_
  refine G.mabsJ 1 wd_804 wd_755 wd_87 wd_756 hR ⟨Nat.le_of_ble_eq_true rfl, Nat.le_of_ble_eq_true rfl, Nat.le_of_ble_eq_true rfl, Nat.le_of_ble_eq_true rfl⟩ dX4_worthOf_1 ?_
  refine G.iload_n 4 1 dX4_worthOf_4 rfl rfl ?_
  refine G.if_le 5 13 dX4_worthOf_5 (by decide) (fun h1 => ?_) (fun h1 => ?_)
  · replace hf := (if_pos h1).symm.trans hf
    refine G.iconst 13 (0 : Int32) dX4_worthOf_13 (by decide +kernel) ?_
    refine G.iadd 14 dX4_worthOf_14 ?_
    subst hf
    exact G.rI 15 hq dX4_worthOf_15 hs
  · replace hf := (if_neg h1).symm.trans hf
    refine G.bipush 8 (50 : Int32) dX4_worthOf_8 (by decide +kernel) ?_
    refine G.goto 10 14 dX4_worthOf_10 (by decide) ?_
    refine G.iadd 14 dX4_worthOf_14 ?_
    subst hf
    exact G.rI 15 hq dX4_worthOf_15 hs
abbrev Y_X4_plan : My := (cX4_plan, RX4, 8)
def rm_X4_plan : Room := { frames := 4, cells := 0, slots := 0, locals := 265 }
theorem dX4_plan_0 : decode cX4_plan 0 = .ok (.aload_n 0, 1) := by decide +kernel
theorem dX4_plan_1 : decode cX4_plan 1 = .ok (.getfield 9, 3) := by decide +kernel
theorem dX4_plan_4 : decode cX4_plan 4 = .ok (.iconst 0, 1) := by decide +kernel
theorem dX4_plan_5 : decode cX4_plan 5 = .ok (.invokestatic 18, 3) := by decide +kernel
theorem dX4_plan_8 : decode cX4_plan 8 = .ok (.aload_n 0, 1) := by decide +kernel
theorem dX4_plan_9 : decode cX4_plan 9 = .ok (.getfield 15, 3) := by decide +kernel
theorem dX4_plan_12 : decode cX4_plan 12 = .ok (.iconst 0, 1) := by decide +kernel
theorem dX4_plan_13 : decode cX4_plan 13 = .ok (.invokestatic 18, 3) := by decide +kernel
theorem dX4_plan_16 : decode cX4_plan 16 = .ok (.aload_n 1, 1) := by decide +kernel
theorem dX4_plan_17 : decode cX4_plan 17 = .ok (.iconst 0, 1) := by decide +kernel
theorem dX4_plan_18 : decode cX4_plan 18 = .ok (.invokevirtual 24, 3) := by decide +kernel
theorem dX4_plan_21 : decode cX4_plan 21 = .ok (.istore_n 3, 1) := by decide +kernel
theorem dX4_plan_22 : decode cX4_plan 22 = .ok (.aload_n 1, 1) := by decide +kernel
theorem dX4_plan_23 : decode cX4_plan 23 = .ok (.iconst 1, 1) := by decide +kernel
theorem dX4_plan_24 : decode cX4_plan 24 = .ok (.invokevirtual 24, 3) := by decide +kernel
theorem dX4_plan_27 : decode cX4_plan 27 = .ok (.istore 4, 2) := by decide +kernel
theorem dX4_plan_29 : decode cX4_plan 29 = .ok (.aload_n 1, 1) := by decide +kernel
theorem dX4_plan_30 : decode cX4_plan 30 = .ok (.getfield 30, 3) := by decide +kernel
theorem dX4_plan_33 : decode cX4_plan 33 = .ok (.iconst 1, 1) := by decide +kernel
theorem dX4_plan_34 : decode cX4_plan 34 = .ok (.isub, 1) := by decide +kernel
theorem dX4_plan_35 : decode cX4_plan 35 = .ok (.istore 5, 2) := by decide +kernel
theorem dX4_plan_37 : decode cX4_plan 37 = .ok (.iload 5, 2) := by decide +kernel
theorem dX4_plan_39 : decode cX4_plan 39 = .ok (.ifCond .lt 76, 3) := by decide +kernel
theorem dX4_plan_42 : decode cX4_plan 42 = .ok (.aload_n 1, 1) := by decide +kernel
theorem dX4_plan_43 : decode cX4_plan 43 = .ok (.getfield 34, 3) := by decide +kernel
theorem dX4_plan_46 : decode cX4_plan 46 = .ok (.iload 5, 2) := by decide +kernel
theorem dX4_plan_48 : decode cX4_plan 48 = .ok (.aaload, 1) := by decide +kernel
theorem dX4_plan_49 : decode cX4_plan 49 = .ok (.astore 6, 2) := by decide +kernel
theorem dX4_plan_51 : decode cX4_plan 51 = .ok (.aload 6, 2) := by decide +kernel
theorem dX4_plan_53 : decode cX4_plan 53 = .ok (.getfield 38, 3) := by decide +kernel
theorem dX4_plan_56 : decode cX4_plan 56 = .ok (.ifCond .ne 53, 3) := by decide +kernel
theorem dX4_plan_59 : decode cX4_plan 59 = .ok (.aload 6, 2) := by decide +kernel
theorem dX4_plan_61 : decode cX4_plan 61 = .ok (.invokevirtual 44, 3) := by decide +kernel
theorem dX4_plan_64 : decode cX4_plan 64 = .ok (.aload 6, 2) := by decide +kernel
theorem dX4_plan_66 : decode cX4_plan 66 = .ok (.getfield 48, 3) := by decide +kernel
theorem dX4_plan_69 : decode cX4_plan 69 = .ok (.iconst 1, 1) := by decide +kernel
theorem dX4_plan_70 : decode cX4_plan 70 = .ok (.if_icmp .ne 8, 3) := by decide +kernel
theorem dX4_plan_73 : decode cX4_plan 73 = .ok (.iload 4, 2) := by decide +kernel
theorem dX4_plan_75 : decode cX4_plan 75 = .ok (.goto 4, 3) := by decide +kernel
theorem dX4_plan_78 : decode cX4_plan 78 = .ok (.iload_n 3, 1) := by decide +kernel
theorem dX4_plan_79 : decode cX4_plan 79 = .ok (.isub, 1) := by decide +kernel
theorem dX4_plan_80 : decode cX4_plan 80 = .ok (.istore 7, 2) := by decide +kernel
theorem dX4_plan_82 : decode cX4_plan 82 = .ok (.aload_n 0, 1) := by decide +kernel
theorem dX4_plan_83 : decode cX4_plan 83 = .ok (.iload 5, 2) := by decide +kernel
theorem dX4_plan_85 : decode cX4_plan 85 = .ok (.aload 6, 2) := by decide +kernel
theorem dX4_plan_87 : decode cX4_plan 87 = .ok (.getfield 51, 3) := by decide +kernel
theorem dX4_plan_90 : decode cX4_plan 90 = .ok (.bipush 10, 2) := by decide +kernel
theorem dX4_plan_92 : decode cX4_plan 92 = .ok (.idiv, 1) := by decide +kernel
theorem dX4_plan_93 : decode cX4_plan 93 = .ok (.iconst 1, 1) := by decide +kernel
theorem dX4_plan_94 : decode cX4_plan 94 = .ok (.iadd, 1) := by decide +kernel
theorem dX4_plan_95 : decode cX4_plan 95 = .ok (.iload 7, 2) := by decide +kernel
theorem dX4_plan_97 : decode cX4_plan 97 = .ok (.aload 6, 2) := by decide +kernel
theorem dX4_plan_99 : decode cX4_plan 99 = .ok (.invokevirtual 54, 3) := by decide +kernel
theorem dX4_plan_102 : decode cX4_plan 102 = .ok (.invokestatic 57, 3) := by decide +kernel
theorem dX4_plan_105 : decode cX4_plan 105 = .ok (.iload_n 2, 1) := by decide +kernel
theorem dX4_plan_106 : decode cX4_plan 106 = .ok (.invokevirtual 61, 3) := by decide +kernel
theorem dX4_plan_109 : decode cX4_plan 109 = .ok (.iinc 5 (-1), 3) := by decide +kernel
theorem dX4_plan_112 : decode cX4_plan 112 = .ok (.goto (-75), 3) := by decide +kernel
theorem dX4_plan_115 : decode cX4_plan 115 = .ok (.return_, 1) := by decide +kernel
def B_X4_plan_109 (rc_37 : Nat → Int32 → Int32 → Int32 → Int32 → Mem → Option Mem) (a1 : Nat) (x2 : Int32) (x3 : Int32) (x4 : Int32) (x5 : Int32) (M : Mem) : Option Mem := rc_37 a1 x2 x3 x4 (x5 + (-1 : Int32)) M
def L_X4_plan_37 : Nat → Nat → Int32 → Int32 → Int32 → Int32 → Mem → Option Mem
  | 0, _, _, _, _, _, _ => none
  | n + 1, a1, x2, x3, x4, x5, M => if x5 < 0 then some M else gd (inR x5 30) (if (mI M ((a1 + 1) + 23 + 2 * x5.toNatClampNeg) 9) = 0 then (f_X1_share ((a1 + 1) + 23 + 2 * x5.toNatClampNeg) M).bind fun q22 => if (mI M ((a1 + 1) + 23 + 2 * x5.toNatClampNeg) 2) = (1 : Int32) then (f_X4_consider x5 (((mI M ((a1 + 1) + 23 + 2 * x5.toNatClampNeg) 10) / (10 : Int32)) + (1 : Int32)) (f_X4_worthOf (q22 - x4) (f_X1_mustBe ((a1 + 1) + 23 + 2 * x5.toNatClampNeg) M)) x2 M).bind fun q39 => B_X4_plan_109 (L_X4_plan_37 n) a1 x2 x3 x4 x5 q39 else (f_X4_consider x5 (((mI M ((a1 + 1) + 23 + 2 * x5.toNatClampNeg) 10) / (10 : Int32)) + (1 : Int32)) (f_X4_worthOf (q22 - x3) (f_X1_mustBe ((a1 + 1) + 23 + 2 * x5.toNatClampNeg) M)) x2 M).bind fun q31 => B_X4_plan_109 (L_X4_plan_37 n) a1 x2 x3 x4 x5 q31 else B_X4_plan_109 (L_X4_plan_37 n) a1 x2 x3 x4 x5 M)
def f_X4_plan (a1 : Nat) (x2 : Int32) (M : Mem) : Option Mem := (f_J7_fill_53178 257 (0 : Int32) M).bind fun q3 => (f_J7_fill_53178 258 (0 : Int32) q3).bind fun q7 => (f_X0_middleShare a1 (0 : Int32) q7).bind fun q11 => (f_X0_middleShare a1 (1 : Int32) q11.2).bind fun q15 => L_X4_plan_37 FU a1 x2 q11.1 q15.1 ((mI q15.2 a1 1) - (1 : Int32)) q15.2
set_option maxRecDepth 100000 in
set_option maxHeartbeats 4000000 in
theorem b_X4_plan_109 (Z : Sys) (X : Cx) (hR : xR X = rm_X4_plan) {q : Mem} (hq : RetOk Z X none False (PostV q) 0 0) (rc_37 : Nat → Int32 → Int32 → Int32 → Int32 → Mem → Option Mem) (hrc_37 : ∀ (a1 : Nat) (x2 : Int32) (x3 : Int32) (x4 : Int32) (x5 : Int32) (M : Mem), St M → K0[a1]? = some (0, 12) → rc_37 a1 x2 x3 x4 x5 M = some q → G Z X Y_X4_plan False 0 0 37 [(0, .ref (zs Z + 256)), (1, .ref (zs Z + a1)), (2, .int x2), (3, .int x3), (4, .int x4), (5, .int x5)] [] M) (a1 : Nat) (x2 : Int32) (x3 : Int32) (x4 : Int32) (x5 : Int32) {M : Mem} (hs : St M) (k_a1 : K0[a1]? = some (0, 12)) (hf : B_X4_plan_109 rc_37 a1 x2 x3 x4 x5 M = some q) : G Z X Y_X4_plan False 0 0 109 [(0, .ref (zs Z + 256)), (1, .ref (zs Z + a1)), (2, .int x2), (3, .int x3), (4, .int x4), (5, .int x5)] [] M := by
  unfold B_X4_plan_109 at hf
  refine G.iinc 109 5 (x5 + (-1 : Int32)) [(5, .int (x5 + (-1 : Int32))), (0, .ref (zs Z + 256)), (1, .ref (zs Z + a1)), (2, .int x2), (3, .int x3), (4, .int x4)] dX4_plan_109 rfl (congrArg (fun z => x5 + z) (by decide +kernel)) (Nat.le_of_ble_eq_true rfl) rfl ?_
  refine G.goto 112 37 dX4_plan_112 (by decide) ?_
  refine G.locs [1, 2, 3, 4, 5, 0] rfl ?_
  exact hrc_37 a1 x2 x3 x4 (x5 + (-1 : Int32)) M hs k_a1 hf
set_option maxRecDepth 100000 in
set_option maxHeartbeats 4000000 in
theorem l_X4_plan_37 (Z : Sys) (X : Cx) (hR : xR X = rm_X4_plan) {q : Mem} (hq : RetOk Z X none False (PostV q) 0 0) : ∀ (n : Nat) (a1 : Nat) (x2 : Int32) (x3 : Int32) (x4 : Int32) (x5 : Int32) (M : Mem) (hs : St M) (k_a1 : K0[a1]? = some (0, 12)) (hf : L_X4_plan_37 n a1 x2 x3 x4 x5 M = some q), G Z X Y_X4_plan False 0 0 37 [(0, .ref (zs Z + 256)), (1, .ref (zs Z + a1)), (2, .int x2), (3, .int x3), (4, .int x4), (5, .int x5)] [] M := by
  intro n
  induction n with
  | zero => intro a1 x2 x3 x4 x5 M hs k_a1 hf; cases hf
  | succ n ih =>
    intro a1 x2 x3 x4 x5 M hs k_a1 hf
    unfold L_X4_plan_37 at hf
    refine G.iload 37 5 dX4_plan_37 rfl ?_
    refine G.if_lt 39 115 dX4_plan_39 (by decide) (fun h17 => ?_) (fun h17 => ?_)
    · replace hf := (if_pos h17).symm.trans hf
      (have hf9 := Option.some.inj hf; subst hf9)
      exact G.rV 115 hq dX4_plan_115 hs
    · replace hf := (if_neg h17).symm.trans hf
      refine G.aload_n 42 1 dX4_plan_42 rfl rfl ?_
      refine G.getp 43 ck_0 0 (a1 + 1) (hs.k k_a1) (pt_0_0 hs k_a1).1 (by decide) (by decide +kernel) wd_259 dX4_plan_43 ?_
      refine G.iload 46 5 dX4_plan_46 rfl ?_
      obtain ⟨g18, hf⟩ := gd_e hf
      refine G.aa 48 x5.toNatClampNeg ((a1 + 1) + 23 + 2 * x5.toNatClampNeg) (hs.k (pt_0_0 hs k_a1).2) (by decide) rfl rfl g18 rfl (pa_13 hs (pt_0_0 hs k_a1).2 (inlt g18)).1 dX4_plan_48 ?_
      refine G.astore 49 [(6, .ref (zs Z + ((a1 + 1) + 23 + 2 * x5.toNatClampNeg))), (0, .ref (zs Z + 256)), (1, .ref (zs Z + a1)), (2, .int x2), (3, .int x3), (4, .int x4), (5, .int x5)] dX4_plan_49 (Nat.le_of_ble_eq_true rfl) rfl ?_
      refine G.aload 51 0 dX4_plan_51 rfl ?_
      refine G.geti 53 ck_1 9 (hs.k (pa_13 hs (pt_0_0 hs k_a1).2 (inlt g18)).2) (by decide) (by decide +kernel) wd_219 dX4_plan_53 ?_
      refine G.if_ne 56 109 dX4_plan_56 (by decide) (fun h19 => ?_) (fun h19 => ?_)
      · replace hf := (if_neg h19).symm.trans hf
        refine G.locs [1, 2, 3, 4, 5, 6] rfl ?_
        exact b_X4_plan_109 Z X hR hq (L_X4_plan_37 n) ih a1 x2 x3 x4 x5 hs k_a1 hf
      · replace hf := (if_pos h19).symm.trans hf
        refine G.aload 59 0 dX4_plan_59 rfl ?_
        obtain ⟨q22, e23, hf⟩ := bd_e hf
        refine G.cvI 61 (As := []) ck_1 (hs.k (pa_13 hs (pt_0_0 hs k_a1).2 (inlt g18)).2) (c_X1_share Z hs ((a1 + 1) + 23 + 2 * x5.toNatClampNeg) (pa_13 hs (pt_0_0 hs k_a1).2 (inlt g18)).2 e23) mk_X1_share vk_X1_share rfl wd_799 hR (by decide +kernel) ⟨rfl, rfl⟩ rfl (Nat.le_of_ble_eq_true rfl) dX4_plan_61 (fun hs20 => ?_)
        refine G.aload 64 0 dX4_plan_64 rfl ?_
        refine G.geti 66 ck_1 2 (hs20.k (pa_13 hs (pt_0_0 hs k_a1).2 (inlt g18)).2) (by decide) (by decide +kernel) wd_194 dX4_plan_66 ?_
        refine G.iconst 69 (1 : Int32) dX4_plan_69 (by decide +kernel) ?_
        refine G.icmp_ne 70 78 dX4_plan_70 (by decide) (fun h24 => ?_) (fun h24 => ?_)
        · replace hf := (if_neg h24).symm.trans hf
          refine G.iload_n 78 4 dX4_plan_78 rfl rfl ?_
          refine G.isub 79 dX4_plan_79 ?_
          refine G.istore 80 [(7, .int (q22 - x3)), (6, .ref (zs Z + ((a1 + 1) + 23 + 2 * x5.toNatClampNeg))), (0, .ref (zs Z + 256)), (1, .ref (zs Z + a1)), (2, .int x2), (3, .int x3), (4, .int x4), (5, .int x5)] dX4_plan_80 (Nat.le_of_ble_eq_true rfl) rfl ?_
          refine G.aload_n 82 2 dX4_plan_82 rfl rfl ?_
          refine G.iload 83 7 dX4_plan_83 rfl ?_
          refine G.aload 85 1 dX4_plan_85 rfl ?_
          refine G.geti 87 ck_1 10 (hs20.k (pa_13 hs (pt_0_0 hs k_a1).2 (inlt g18)).2) (by decide) (by decide +kernel) wd_223 dX4_plan_87 ?_
          refine G.bipush 90 (10 : Int32) dX4_plan_90 (by decide +kernel) ?_
          refine G.idiv 92 dX4_plan_92 (by decide +kernel) ?_
          refine G.iconst 93 (1 : Int32) dX4_plan_93 (by decide +kernel) ?_
          refine G.iadd 94 dX4_plan_94 ?_
          refine G.iload 95 0 dX4_plan_95 rfl ?_
          refine G.aload 97 1 dX4_plan_97 rfl ?_
          refine G.cvI 99 (As := []) ck_1 (hs20.k (pa_13 hs (pt_0_0 hs k_a1).2 (inlt g18)).2) (c_X1_mustBe Z hs20 ((a1 + 1) + 23 + 2 * x5.toNatClampNeg) (pa_13 hs (pt_0_0 hs k_a1).2 (inlt g18)).2 rfl) mk_X1_mustBe vk_X1_mustBe rfl wd_800 hR (by decide +kernel) ⟨rfl, rfl⟩ rfl (Nat.le_of_ble_eq_true rfl) dX4_plan_99 (fun hs25 => ?_)
          refine G.csI 102 (As := [.int (q22 - x3), .int (f_X1_mustBe ((a1 + 1) + 23 + 2 * x5.toNatClampNeg) M)]) (c_X4_worthOf Z hs25 (q22 - x3) (f_X1_mustBe ((a1 + 1) + 23 + 2 * x5.toNatClampNeg) M) rfl) mk_X4_worthOf wd_802 wd_801 hR (by decide +kernel) ⟨rfl, rfl⟩ rfl (Nat.le_of_ble_eq_true rfl) dX4_plan_102 (fun hs27 => ?_)
          refine G.iload_n 105 4 dX4_plan_105 rfl rfl ?_
          obtain ⟨q31, e32, hf⟩ := bd_e hf
          refine G.cvV 106 (As := [.int x5, .int (((mI M ((a1 + 1) + 23 + 2 * x5.toNatClampNeg) 10) / (10 : Int32)) + (1 : Int32)), .int (f_X4_worthOf (q22 - x3) (f_X1_mustBe ((a1 + 1) + 23 + 2 * x5.toNatClampNeg) M)), .int x2]) ck_4 (hs27.k k0_256) (c_X4_consider Z hs27 x5 (((mI M ((a1 + 1) + 23 + 2 * x5.toNatClampNeg) 10) / (10 : Int32)) + (1 : Int32)) (f_X4_worthOf (q22 - x3) (f_X1_mustBe ((a1 + 1) + 23 + 2 * x5.toNatClampNeg) M)) x2 e32) mk_X4_consider vk_X4_consider rfl wd_805 hR (by decide +kernel) ⟨rfl, rfl⟩ rfl (Nat.le_of_ble_eq_true rfl) dX4_plan_106 (fun hs29 => ?_)
          refine G.locs [2, 3, 4, 5, 6, 7] rfl ?_
          exact b_X4_plan_109 Z X hR hq (L_X4_plan_37 n) ih a1 x2 x3 x4 x5 hs29 k_a1 hf
        · replace hf := (if_pos h24).symm.trans hf
          refine G.iload 73 5 dX4_plan_73 rfl ?_
          refine G.goto 75 79 dX4_plan_75 (by decide) ?_
          refine G.isub 79 dX4_plan_79 ?_
          refine G.istore 80 [(7, .int (q22 - x4)), (6, .ref (zs Z + ((a1 + 1) + 23 + 2 * x5.toNatClampNeg))), (0, .ref (zs Z + 256)), (1, .ref (zs Z + a1)), (2, .int x2), (3, .int x3), (4, .int x4), (5, .int x5)] dX4_plan_80 (Nat.le_of_ble_eq_true rfl) rfl ?_
          refine G.aload_n 82 2 dX4_plan_82 rfl rfl ?_
          refine G.iload 83 7 dX4_plan_83 rfl ?_
          refine G.aload 85 1 dX4_plan_85 rfl ?_
          refine G.geti 87 ck_1 10 (hs20.k (pa_13 hs (pt_0_0 hs k_a1).2 (inlt g18)).2) (by decide) (by decide +kernel) wd_223 dX4_plan_87 ?_
          refine G.bipush 90 (10 : Int32) dX4_plan_90 (by decide +kernel) ?_
          refine G.idiv 92 dX4_plan_92 (by decide +kernel) ?_
          refine G.iconst 93 (1 : Int32) dX4_plan_93 (by decide +kernel) ?_
          refine G.iadd 94 dX4_plan_94 ?_
          refine G.iload 95 0 dX4_plan_95 rfl ?_
          refine G.aload 97 1 dX4_plan_97 rfl ?_
          refine G.cvI 99 (As := []) ck_1 (hs20.k (pa_13 hs (pt_0_0 hs k_a1).2 (inlt g18)).2) (c_X1_mustBe Z hs20 ((a1 + 1) + 23 + 2 * x5.toNatClampNeg) (pa_13 hs (pt_0_0 hs k_a1).2 (inlt g18)).2 rfl) mk_X1_mustBe vk_X1_mustBe rfl wd_800 hR (by decide +kernel) ⟨rfl, rfl⟩ rfl (Nat.le_of_ble_eq_true rfl) dX4_plan_99 (fun hs33 => ?_)
          refine G.csI 102 (As := [.int (q22 - x4), .int (f_X1_mustBe ((a1 + 1) + 23 + 2 * x5.toNatClampNeg) M)]) (c_X4_worthOf Z hs33 (q22 - x4) (f_X1_mustBe ((a1 + 1) + 23 + 2 * x5.toNatClampNeg) M) rfl) mk_X4_worthOf wd_802 wd_801 hR (by decide +kernel) ⟨rfl, rfl⟩ rfl (Nat.le_of_ble_eq_true rfl) dX4_plan_102 (fun hs35 => ?_)
          refine G.iload_n 105 4 dX4_plan_105 rfl rfl ?_
          obtain ⟨q39, e40, hf⟩ := bd_e hf
          refine G.cvV 106 (As := [.int x5, .int (((mI M ((a1 + 1) + 23 + 2 * x5.toNatClampNeg) 10) / (10 : Int32)) + (1 : Int32)), .int (f_X4_worthOf (q22 - x4) (f_X1_mustBe ((a1 + 1) + 23 + 2 * x5.toNatClampNeg) M)), .int x2]) ck_4 (hs35.k k0_256) (c_X4_consider Z hs35 x5 (((mI M ((a1 + 1) + 23 + 2 * x5.toNatClampNeg) 10) / (10 : Int32)) + (1 : Int32)) (f_X4_worthOf (q22 - x4) (f_X1_mustBe ((a1 + 1) + 23 + 2 * x5.toNatClampNeg) M)) x2 e40) mk_X4_consider vk_X4_consider rfl wd_805 hR (by decide +kernel) ⟨rfl, rfl⟩ rfl (Nat.le_of_ble_eq_true rfl) dX4_plan_106 (fun hs37 => ?_)
          refine G.locs [2, 3, 4, 5, 6, 7] rfl ?_
          exact b_X4_plan_109 Z X hR hq (L_X4_plan_37 n) ih a1 x2 x3 x4 x5 hs37 k_a1 hf
set_option maxRecDepth 100000 in
set_option maxHeartbeats 4000000 in
theorem c_X4_plan (Z : Sys) {M : Mem} (hs : St M) (a1 : Nat) (x2 : Int32) (k_a1 : K0[a1]? = some (0, 12)) {q : Mem} (hf : f_X4_plan a1 x2 M = some q) : Ct Z yX4_plan cX4_plan 8 none rm_X4_plan [.ref (zs Z + 256), .ref (zs Z + a1), .int x2] M False (PostV q) := by
  refine Ct.of (by decide +kernel) (Nat.le_of_ble_eq_true rfl) (fun X hR hq _ => ?_)
  show G Z X Y_X4_plan False 0 0 0 [(0, .ref (zs Z + 256)), (1, .ref (zs Z + a1)), (2, .int x2)] [] M
  replace hq : RetOk Z X none False (PostV q) 0 0 := hq
  unfold f_X4_plan at hf
  refine G.aload_n 0 0 dX4_plan_0 rfl rfl ?_
  refine G.getp 1 ck_4 0 257 (hs.k k0_256) (pc_4_0 hs) (by decide) (by decide +kernel) wd_335 dX4_plan_1 ?_
  refine G.iconst 4 (0 : Int32) dX4_plan_4 (by decide +kernel) ?_
  obtain ⟨q3, e4, hf⟩ := bd_e hf
  refine G.csV 5 (As := [.ref (zs Z + 257), .int (0 : Int32)]) (c_J7_fill_53178 Z hs 257 (0 : Int32) (ln_k k0_257) e4) mk_J7_fill_53178 wd_561 wd_797 hR (by decide +kernel) ⟨rfl, rfl⟩ rfl (Nat.le_of_ble_eq_true rfl) dX4_plan_5 (fun hs1 => ?_)
  refine G.aload_n 8 0 dX4_plan_8 rfl rfl ?_
  refine G.getp 9 ck_4 1 258 (hs1.k k0_256) (pc_4_1 hs1) (by decide) (by decide +kernel) wd_337 dX4_plan_9 ?_
  refine G.iconst 12 (0 : Int32) dX4_plan_12 (by decide +kernel) ?_
  obtain ⟨q7, e8, hf⟩ := bd_e hf
  refine G.csV 13 (As := [.ref (zs Z + 258), .int (0 : Int32)]) (c_J7_fill_53178 Z hs1 258 (0 : Int32) (ln_k k0_258) e8) mk_J7_fill_53178 wd_561 wd_797 hR (by decide +kernel) ⟨rfl, rfl⟩ rfl (Nat.le_of_ble_eq_true rfl) dX4_plan_13 (fun hs5 => ?_)
  refine G.aload_n 16 1 dX4_plan_16 rfl rfl ?_
  refine G.iconst 17 (0 : Int32) dX4_plan_17 (by decide +kernel) ?_
  obtain ⟨q11, e12, hf⟩ := bd_e hf
  refine G.cvI 18 (As := [.int (0 : Int32)]) ck_0 (hs5.k k_a1) (c_X0_middleShare Z hs5 a1 (0 : Int32) k_a1 e12) mk_X0_middleShare vk_X0_middleShare rfl wd_798 hR (by decide +kernel) ⟨rfl, rfl⟩ rfl (Nat.le_of_ble_eq_true rfl) dX4_plan_18 (fun hs9 => ?_)
  refine G.istore_n 21 [(3, .int q11.1), (0, .ref (zs Z + 256)), (1, .ref (zs Z + a1)), (2, .int x2)] dX4_plan_21 rfl (Nat.le_of_ble_eq_true rfl) rfl ?_
  refine G.aload_n 22 2 dX4_plan_22 rfl rfl ?_
  refine G.iconst 23 (1 : Int32) dX4_plan_23 (by decide +kernel) ?_
  obtain ⟨q15, e16, hf⟩ := bd_e hf
  refine G.cvI 24 (As := [.int (1 : Int32)]) ck_0 (hs9.k k_a1) (c_X0_middleShare Z hs9 a1 (1 : Int32) k_a1 e16) mk_X0_middleShare vk_X0_middleShare rfl wd_798 hR (by decide +kernel) ⟨rfl, rfl⟩ rfl (Nat.le_of_ble_eq_true rfl) dX4_plan_24 (fun hs13 => ?_)
  refine G.istore 27 [(4, .int q15.1), (3, .int q11.1), (0, .ref (zs Z + 256)), (1, .ref (zs Z + a1)), (2, .int x2)] dX4_plan_27 (Nat.le_of_ble_eq_true rfl) rfl ?_
  refine G.aload_n 29 3 dX4_plan_29 rfl rfl ?_
  refine G.geti 30 ck_0 1 (hs13.k k_a1) (by decide) (by decide +kernel) wd_263 dX4_plan_30 ?_
  refine G.iconst 33 (1 : Int32) dX4_plan_33 (by decide +kernel) ?_
  refine G.isub 34 dX4_plan_34 ?_
  refine G.istore 35 [(5, .int ((mI q15.2 a1 1) - (1 : Int32))), (4, .int q15.1), (3, .int q11.1), (0, .ref (zs Z + 256)), (1, .ref (zs Z + a1)), (2, .int x2)] dX4_plan_35 (Nat.le_of_ble_eq_true rfl) rfl ?_
  refine G.locs [3, 4, 5, 2, 1, 0] rfl ?_
  exact l_X4_plan_37 Z X hR hq FU a1 x2 q11.1 q15.1 ((mI q15.2 a1 1) - (1 : Int32)) q15.2 hs13 k_a1 hf
abbrev Y_X5_heaviness : My := (cX5_heaviness, RX5, 1)
def rm_X5_heaviness : Room := { frames := 1, cells := 0, slots := 0, locals := 200 }
theorem dX5_heaviness_0 : decode cX5_heaviness 0 = .ok (.aload_n 0, 1) := by decide +kernel
theorem dX5_heaviness_1 : decode cX5_heaviness 1 = .ok (.getfield 9, 3) := by decide +kernel
theorem dX5_heaviness_4 : decode cX5_heaviness 4 = .ok (.tableswitch 82 1 7 #[44, 47, 50, 58, 66, 76, 79], 44) := by decide +kernel
theorem dX5_heaviness_48 : decode cX5_heaviness 48 = .ok (.bipush 11, 2) := by decide +kernel
theorem dX5_heaviness_50 : decode cX5_heaviness 50 = .ok (.ireturn, 1) := by decide +kernel
theorem dX5_heaviness_51 : decode cX5_heaviness 51 = .ok (.bipush 15, 2) := by decide +kernel
theorem dX5_heaviness_53 : decode cX5_heaviness 53 = .ok (.ireturn, 1) := by decide +kernel
theorem dX5_heaviness_54 : decode cX5_heaviness 54 = .ok (.bipush 20, 2) := by decide +kernel
theorem dX5_heaviness_56 : decode cX5_heaviness 56 = .ok (.aload_n 0, 1) := by decide +kernel
theorem dX5_heaviness_57 : decode cX5_heaviness 57 = .ok (.getfield 13, 3) := by decide +kernel
theorem dX5_heaviness_60 : decode cX5_heaviness 60 = .ok (.iadd, 1) := by decide +kernel
theorem dX5_heaviness_61 : decode cX5_heaviness 61 = .ok (.ireturn, 1) := by decide +kernel
theorem dX5_heaviness_62 : decode cX5_heaviness 62 = .ok (.bipush 11, 2) := by decide +kernel
theorem dX5_heaviness_64 : decode cX5_heaviness 64 = .ok (.aload_n 0, 1) := by decide +kernel
theorem dX5_heaviness_65 : decode cX5_heaviness 65 = .ok (.getfield 13, 3) := by decide +kernel
theorem dX5_heaviness_68 : decode cX5_heaviness 68 = .ok (.iadd, 1) := by decide +kernel
theorem dX5_heaviness_69 : decode cX5_heaviness 69 = .ok (.ireturn, 1) := by decide +kernel
theorem dX5_heaviness_70 : decode cX5_heaviness 70 = .ok (.bipush 10, 2) := by decide +kernel
theorem dX5_heaviness_72 : decode cX5_heaviness 72 = .ok (.iconst 2, 1) := by decide +kernel
theorem dX5_heaviness_73 : decode cX5_heaviness 73 = .ok (.aload_n 0, 1) := by decide +kernel
theorem dX5_heaviness_74 : decode cX5_heaviness 74 = .ok (.getfield 13, 3) := by decide +kernel
theorem dX5_heaviness_77 : decode cX5_heaviness 77 = .ok (.imul, 1) := by decide +kernel
theorem dX5_heaviness_78 : decode cX5_heaviness 78 = .ok (.iadd, 1) := by decide +kernel
theorem dX5_heaviness_79 : decode cX5_heaviness 79 = .ok (.ireturn, 1) := by decide +kernel
theorem dX5_heaviness_80 : decode cX5_heaviness 80 = .ok (.bipush 22, 2) := by decide +kernel
theorem dX5_heaviness_82 : decode cX5_heaviness 82 = .ok (.ireturn, 1) := by decide +kernel
theorem dX5_heaviness_83 : decode cX5_heaviness 83 = .ok (.bipush 7, 2) := by decide +kernel
theorem dX5_heaviness_85 : decode cX5_heaviness 85 = .ok (.ireturn, 1) := by decide +kernel
theorem dX5_heaviness_86 : decode cX5_heaviness 86 = .ok (.bipush 10, 2) := by decide +kernel
theorem dX5_heaviness_88 : decode cX5_heaviness 88 = .ok (.ireturn, 1) := by decide +kernel
def f_X5_heaviness (a0 : Nat) (M : Mem) : Int32 := if (mI M a0 0) = (1 : Int32) then (11 : Int32) else if (mI M a0 0) = (2 : Int32) then (15 : Int32) else if (mI M a0 0) = (3 : Int32) then ((20 : Int32) + (mI M a0 1)) else if (mI M a0 0) = (4 : Int32) then ((11 : Int32) + (mI M a0 1)) else if (mI M a0 0) = (5 : Int32) then ((10 : Int32) + ((2 : Int32) * (mI M a0 1))) else if (mI M a0 0) = (6 : Int32) then (22 : Int32) else if (mI M a0 0) = (7 : Int32) then (7 : Int32) else (10 : Int32)
set_option maxRecDepth 100000 in
set_option maxHeartbeats 4000000 in
theorem c_X5_heaviness (Z : Sys) {M : Mem} (hs : St M) (a0 : Nat) (k_a0 : K0[a0]? = some (5, 2)) {q : Int32} (hf : f_X5_heaviness a0 M = q) : Ct Z yX5_heaviness cX5_heaviness 1 (some .int) rm_X5_heaviness [.ref (zs Z + a0)] M False (PostI q M) := by
  refine Ct.of (by decide +kernel) (Nat.le_of_ble_eq_true rfl) (fun X hR hq _ => ?_)
  show G Z X Y_X5_heaviness False 0 0 0 [(0, .ref (zs Z + a0))] [] M
  replace hq : RetOk Z X (some .int) False (PostI q M) 0 0 := hq
  unfold f_X5_heaviness at hf
  refine G.aload_n 0 0 dX5_heaviness_0 rfl rfl ?_
  refine G.geti 1 ck_5 0 (hs.k k_a0) (by decide) (by decide +kernel) wd_174 dX5_heaviness_1 ?_
  by_cases h1 : (mI M a0 0) = (1 : Int32)
  · replace hf := (if_pos h1).symm.trans hf
    refine G.tableIn 4 48 (off := 44) dX5_heaviness_4 (by rw [h1]; decide +kernel) (by rw [h1]; decide +kernel) (by rw [h1]; decide +kernel) (by decide) ?_
    refine G.bipush 48 (11 : Int32) dX5_heaviness_48 (by decide +kernel) ?_
    subst hf
    exact G.rI 50 hq dX5_heaviness_50 hs
  · replace hf := (if_neg h1).symm.trans hf
    by_cases h2 : (mI M a0 0) = (2 : Int32)
    · replace hf := (if_pos h2).symm.trans hf
      refine G.tableIn 4 51 (off := 47) dX5_heaviness_4 (by rw [h2]; decide +kernel) (by rw [h2]; decide +kernel) (by rw [h2]; decide +kernel) (by decide) ?_
      refine G.bipush 51 (15 : Int32) dX5_heaviness_51 (by decide +kernel) ?_
      subst hf
      exact G.rI 53 hq dX5_heaviness_53 hs
    · replace hf := (if_neg h2).symm.trans hf
      by_cases h3 : (mI M a0 0) = (3 : Int32)
      · replace hf := (if_pos h3).symm.trans hf
        refine G.tableIn 4 54 (off := 50) dX5_heaviness_4 (by rw [h3]; decide +kernel) (by rw [h3]; decide +kernel) (by rw [h3]; decide +kernel) (by decide) ?_
        refine G.bipush 54 (20 : Int32) dX5_heaviness_54 (by decide +kernel) ?_
        refine G.aload_n 56 0 dX5_heaviness_56 rfl rfl ?_
        refine G.geti 57 ck_5 1 (hs.k k_a0) (by decide) (by decide +kernel) wd_177 dX5_heaviness_57 ?_
        refine G.iadd 60 dX5_heaviness_60 ?_
        subst hf
        exact G.rI 61 hq dX5_heaviness_61 hs
      · replace hf := (if_neg h3).symm.trans hf
        by_cases h4 : (mI M a0 0) = (4 : Int32)
        · replace hf := (if_pos h4).symm.trans hf
          refine G.tableIn 4 62 (off := 58) dX5_heaviness_4 (by rw [h4]; decide +kernel) (by rw [h4]; decide +kernel) (by rw [h4]; decide +kernel) (by decide) ?_
          refine G.bipush 62 (11 : Int32) dX5_heaviness_62 (by decide +kernel) ?_
          refine G.aload_n 64 0 dX5_heaviness_64 rfl rfl ?_
          refine G.geti 65 ck_5 1 (hs.k k_a0) (by decide) (by decide +kernel) wd_177 dX5_heaviness_65 ?_
          refine G.iadd 68 dX5_heaviness_68 ?_
          subst hf
          exact G.rI 69 hq dX5_heaviness_69 hs
        · replace hf := (if_neg h4).symm.trans hf
          by_cases h5 : (mI M a0 0) = (5 : Int32)
          · replace hf := (if_pos h5).symm.trans hf
            refine G.tableIn 4 70 (off := 66) dX5_heaviness_4 (by rw [h5]; decide +kernel) (by rw [h5]; decide +kernel) (by rw [h5]; decide +kernel) (by decide) ?_
            refine G.bipush 70 (10 : Int32) dX5_heaviness_70 (by decide +kernel) ?_
            refine G.iconst 72 (2 : Int32) dX5_heaviness_72 (by decide +kernel) ?_
            refine G.aload_n 73 0 dX5_heaviness_73 rfl rfl ?_
            refine G.geti 74 ck_5 1 (hs.k k_a0) (by decide) (by decide +kernel) wd_177 dX5_heaviness_74 ?_
            refine G.imul 77 dX5_heaviness_77 ?_
            refine G.iadd 78 dX5_heaviness_78 ?_
            subst hf
            exact G.rI 79 hq dX5_heaviness_79 hs
          · replace hf := (if_neg h5).symm.trans hf
            by_cases h6 : (mI M a0 0) = (6 : Int32)
            · replace hf := (if_pos h6).symm.trans hf
              refine G.tableIn 4 80 (off := 76) dX5_heaviness_4 (by rw [h6]; decide +kernel) (by rw [h6]; decide +kernel) (by rw [h6]; decide +kernel) (by decide) ?_
              refine G.bipush 80 (22 : Int32) dX5_heaviness_80 (by decide +kernel) ?_
              subst hf
              exact G.rI 82 hq dX5_heaviness_82 hs
            · replace hf := (if_neg h6).symm.trans hf
              by_cases h7 : (mI M a0 0) = (7 : Int32)
              · replace hf := (if_pos h7).symm.trans hf
                refine G.tableIn 4 83 (off := 79) dX5_heaviness_4 (by rw [h7]; decide +kernel) (by rw [h7]; decide +kernel) (by rw [h7]; decide +kernel) (by decide) ?_
                refine G.bipush 83 (7 : Int32) dX5_heaviness_83 (by decide +kernel) ?_
                subst hf
                exact G.rI 85 hq dX5_heaviness_85 hs
              · replace hf := (if_neg h7).symm.trans hf
                have t_h1 := ti (1 : Int32) (1) (by decide +kernel) h1
                have t_h2 := ti (2 : Int32) (2) (by decide +kernel) h2
                have t_h3 := ti (3 : Int32) (3) (by decide +kernel) h3
                have t_h4 := ti (4 : Int32) (4) (by decide +kernel) h4
                have t_h5 := ti (5 : Int32) (5) (by decide +kernel) h5
                have t_h6 := ti (6 : Int32) (6) (by decide +kernel) h6
                have t_h7 := ti (7 : Int32) (7) (by decide +kernel) h7
                refine G.tableOut 4 86 dX5_heaviness_4 (by omega) (by decide) ?_
                refine G.bipush 86 (10 : Int32) dX5_heaviness_86 (by decide +kernel) ?_
                subst hf
                exact G.rI 88 hq dX5_heaviness_88 hs
abbrev Y_X6_hasPlace : My := (cX6_hasPlace, RX6, 2)
def rm_X6_hasPlace : Room := { frames := 2, cells := 0, slots := 0, locals := 222 }
theorem dX6_hasPlace_0 : decode cX6_hasPlace 0 = .ok (.iload_n 1, 1) := by decide +kernel
theorem dX6_hasPlace_1 : decode cX6_hasPlace 1 = .ok (.iconst 0, 1) := by decide +kernel
theorem dX6_hasPlace_2 : decode cX6_hasPlace 2 = .ok (.aload_n 0, 1) := by decide +kernel
theorem dX6_hasPlace_3 : decode cX6_hasPlace 3 = .ok (.getfield 43, 3) := by decide +kernel
theorem dX6_hasPlace_6 : decode cX6_hasPlace 6 = .ok (.iconst 1, 1) := by decide +kernel
theorem dX6_hasPlace_7 : decode cX6_hasPlace 7 = .ok (.isub, 1) := by decide +kernel
theorem dX6_hasPlace_8 : decode cX6_hasPlace 8 = .ok (.invokestatic 52, 3) := by decide +kernel
theorem dX6_hasPlace_11 : decode cX6_hasPlace 11 = .ok (.ireturn, 1) := by decide +kernel
def f_X6_hasPlace (a0 : Nat) (x1 : Int32) (M : Mem) : Int32 := (f_X8_within x1 (0 : Int32) ((mI M a0 5) - (1 : Int32)))
set_option maxRecDepth 100000 in
set_option maxHeartbeats 4000000 in
theorem c_X6_hasPlace (Z : Sys) {M : Mem} (hs : St M) (a0 : Nat) (x1 : Int32) (k_a0 : K0[a0]? = some (6, 7)) {q : Int32} (hf : f_X6_hasPlace a0 x1 M = q) : Ct Z yX6_hasPlace cX6_hasPlace 2 (some .boolean) rm_X6_hasPlace [.ref (zs Z + a0), .int x1] M False (PostZ q M) := by
  refine Ct.of (by decide +kernel) (Nat.le_of_ble_eq_true rfl) (fun X hR hq _ => ?_)
  show G Z X Y_X6_hasPlace False 0 0 0 [(0, .ref (zs Z + a0)), (1, .int x1)] [] M
  replace hq : RetOk Z X (some .boolean) False (PostZ q M) 0 0 := hq
  unfold f_X6_hasPlace at hf
  refine G.iload_n 0 1 dX6_hasPlace_0 rfl rfl ?_
  refine G.iconst 1 (0 : Int32) dX6_hasPlace_1 (by decide +kernel) ?_
  refine G.aload_n 2 0 dX6_hasPlace_2 rfl rfl ?_
  refine G.geti 3 ck_6 5 (hs.k k_a0) (by decide) (by decide +kernel) wd_381 dX6_hasPlace_3 ?_
  refine G.iconst 6 (1 : Int32) dX6_hasPlace_6 (by decide +kernel) ?_
  refine G.isub 7 dX6_hasPlace_7 ?_
  refine G.cnZ 8 (As := [.int x1, .int (0 : Int32), .int ((mI M a0 5) - (1 : Int32))]) (c_X8_within Z hs x1 (0 : Int32) ((mI M a0 5) - (1 : Int32)) rfl) mk_X8_within wd_430 wd_535 hR (by decide +kernel) ⟨rfl, rfl⟩ rfl (Nat.le_of_ble_eq_true rfl) dX6_hasPlace_8 (fun hs1 z2 => ?_)
  subst hf
  exact G.rZ 11 hq dX6_hasPlace_11 hs1 z2
abbrev Y_X6_hasPlaces : My := (cX6_hasPlaces, RX6, 3)
def rm_X6_hasPlaces : Room := { frames := 1, cells := 0, slots := 0, locals := 200 }
theorem dX6_hasPlaces_0 : decode cX6_hasPlaces 0 = .ok (.iload_n 1, 1) := by decide +kernel
theorem dX6_hasPlaces_1 : decode cX6_hasPlaces 1 = .ok (.ifCond .lt 29, 3) := by decide +kernel
theorem dX6_hasPlaces_4 : decode cX6_hasPlaces 4 = .ok (.iload_n 2, 1) := by decide +kernel
theorem dX6_hasPlaces_5 : decode cX6_hasPlaces 5 = .ok (.ifCond .lt 25, 3) := by decide +kernel
theorem dX6_hasPlaces_8 : decode cX6_hasPlaces 8 = .ok (.iload_n 2, 1) := by decide +kernel
theorem dX6_hasPlaces_9 : decode cX6_hasPlaces 9 = .ok (.aload_n 0, 1) := by decide +kernel
theorem dX6_hasPlaces_10 : decode cX6_hasPlaces 10 = .ok (.getfield 43, 3) := by decide +kernel
theorem dX6_hasPlaces_13 : decode cX6_hasPlaces 13 = .ok (.if_icmp .gt 17, 3) := by decide +kernel
theorem dX6_hasPlaces_16 : decode cX6_hasPlaces 16 = .ok (.iload_n 1, 1) := by decide +kernel
theorem dX6_hasPlaces_17 : decode cX6_hasPlaces 17 = .ok (.aload_n 0, 1) := by decide +kernel
theorem dX6_hasPlaces_18 : decode cX6_hasPlaces 18 = .ok (.getfield 43, 3) := by decide +kernel
theorem dX6_hasPlaces_21 : decode cX6_hasPlaces 21 = .ok (.iload_n 2, 1) := by decide +kernel
theorem dX6_hasPlaces_22 : decode cX6_hasPlaces 22 = .ok (.isub, 1) := by decide +kernel
theorem dX6_hasPlaces_23 : decode cX6_hasPlaces 23 = .ok (.if_icmp .gt 7, 3) := by decide +kernel
theorem dX6_hasPlaces_26 : decode cX6_hasPlaces 26 = .ok (.iconst 1, 1) := by decide +kernel
theorem dX6_hasPlaces_27 : decode cX6_hasPlaces 27 = .ok (.goto 4, 3) := by decide +kernel
theorem dX6_hasPlaces_30 : decode cX6_hasPlaces 30 = .ok (.iconst 0, 1) := by decide +kernel
theorem dX6_hasPlaces_31 : decode cX6_hasPlaces 31 = .ok (.ireturn, 1) := by decide +kernel
def f_X6_hasPlaces (a0 : Nat) (x1 : Int32) (x2 : Int32) (M : Mem) : Int32 := if x1 < 0 then (0 : Int32) else if x2 < 0 then (0 : Int32) else if (mI M a0 5) < x2 then (0 : Int32) else if ((mI M a0 5) - x2) < x1 then (0 : Int32) else (1 : Int32)
set_option maxRecDepth 100000 in
set_option maxHeartbeats 4000000 in
theorem c_X6_hasPlaces (Z : Sys) {M : Mem} (hs : St M) (a0 : Nat) (x1 : Int32) (x2 : Int32) (k_a0 : K0[a0]? = some (6, 7)) {q : Int32} (hf : f_X6_hasPlaces a0 x1 x2 M = q) : Ct Z yX6_hasPlaces cX6_hasPlaces 3 (some .boolean) rm_X6_hasPlaces [.ref (zs Z + a0), .int x1, .int x2] M False (PostZ q M) := by
  refine Ct.of (by decide +kernel) (Nat.le_of_ble_eq_true rfl) (fun X hR hq _ => ?_)
  show G Z X Y_X6_hasPlaces False 0 0 0 [(0, .ref (zs Z + a0)), (1, .int x1), (2, .int x2)] [] M
  replace hq : RetOk Z X (some .boolean) False (PostZ q M) 0 0 := hq
  unfold f_X6_hasPlaces at hf
  refine G.iload_n 0 1 dX6_hasPlaces_0 rfl rfl ?_
  refine G.if_lt 1 30 dX6_hasPlaces_1 (by decide) (fun h1 => ?_) (fun h1 => ?_)
  · replace hf := (if_pos h1).symm.trans hf
    refine G.iconst 30 (0 : Int32) dX6_hasPlaces_30 (by decide +kernel) ?_
    subst hf
    exact G.rZ 31 hq dX6_hasPlaces_31 hs (Or.inl rfl)
  · replace hf := (if_neg h1).symm.trans hf
    refine G.iload_n 4 2 dX6_hasPlaces_4 rfl rfl ?_
    refine G.if_lt 5 30 dX6_hasPlaces_5 (by decide) (fun h2 => ?_) (fun h2 => ?_)
    · replace hf := (if_pos h2).symm.trans hf
      refine G.iconst 30 (0 : Int32) dX6_hasPlaces_30 (by decide +kernel) ?_
      subst hf
      exact G.rZ 31 hq dX6_hasPlaces_31 hs (Or.inl rfl)
    · replace hf := (if_neg h2).symm.trans hf
      refine G.iload_n 8 2 dX6_hasPlaces_8 rfl rfl ?_
      refine G.aload_n 9 0 dX6_hasPlaces_9 rfl rfl ?_
      refine G.geti 10 ck_6 5 (hs.k k_a0) (by decide) (by decide +kernel) wd_381 dX6_hasPlaces_10 ?_
      refine G.icmp_gt 13 30 dX6_hasPlaces_13 (by decide) (fun h3 => ?_) (fun h3 => ?_)
      · replace hf := (if_pos h3).symm.trans hf
        refine G.iconst 30 (0 : Int32) dX6_hasPlaces_30 (by decide +kernel) ?_
        subst hf
        exact G.rZ 31 hq dX6_hasPlaces_31 hs (Or.inl rfl)
      · replace hf := (if_neg h3).symm.trans hf
        refine G.iload_n 16 1 dX6_hasPlaces_16 rfl rfl ?_
        refine G.aload_n 17 0 dX6_hasPlaces_17 rfl rfl ?_
        refine G.geti 18 ck_6 5 (hs.k k_a0) (by decide) (by decide +kernel) wd_381 dX6_hasPlaces_18 ?_
        refine G.iload_n 21 2 dX6_hasPlaces_21 rfl rfl ?_
        refine G.isub 22 dX6_hasPlaces_22 ?_
        refine G.icmp_gt 23 30 dX6_hasPlaces_23 (by decide) (fun h4 => ?_) (fun h4 => ?_)
        · replace hf := (if_pos h4).symm.trans hf
          refine G.iconst 30 (0 : Int32) dX6_hasPlaces_30 (by decide +kernel) ?_
          subst hf
          exact G.rZ 31 hq dX6_hasPlaces_31 hs (Or.inl rfl)
        · replace hf := (if_neg h4).symm.trans hf
          refine G.iconst 26 (1 : Int32) dX6_hasPlaces_26 (by decide +kernel) ?_
          refine G.goto 27 31 dX6_hasPlaces_27 (by decide) ?_
          subst hf
          exact G.rZ 31 hq dX6_hasPlaces_31 hs (Or.inr rfl)
abbrev Y_X6_holdRow : My := (cX6_holdRow, RX6, 3)
def rm_X6_holdRow : Room := { frames := 2, cells := 0, slots := 0, locals := 223 }
theorem dX6_holdRow_0 : decode cX6_holdRow 0 = .ok (.aload_n 0, 1) := by decide +kernel
theorem dX6_holdRow_1 : decode cX6_holdRow 1 = .ok (.iconst 2, 1) := by decide +kernel
theorem dX6_holdRow_2 : decode cX6_holdRow 2 = .ok (.putfield 11, 3) := by decide +kernel
theorem dX6_holdRow_5 : decode cX6_holdRow 5 = .ok (.aload_n 0, 1) := by decide +kernel
theorem dX6_holdRow_6 : decode cX6_holdRow 6 = .ok (.iload_n 1, 1) := by decide +kernel
theorem dX6_holdRow_7 : decode cX6_holdRow 7 = .ok (.putfield 40, 3) := by decide +kernel
theorem dX6_holdRow_10 : decode cX6_holdRow 10 = .ok (.aload_n 0, 1) := by decide +kernel
theorem dX6_holdRow_11 : decode cX6_holdRow 11 = .ok (.iload_n 2, 1) := by decide +kernel
theorem dX6_holdRow_12 : decode cX6_holdRow 12 = .ok (.putfield 43, 3) := by decide +kernel
theorem dX6_holdRow_15 : decode cX6_holdRow 15 = .ok (.aload_n 0, 1) := by decide +kernel
theorem dX6_holdRow_16 : decode cX6_holdRow 16 = .ok (.getfield 22, 3) := by decide +kernel
theorem dX6_holdRow_19 : decode cX6_holdRow 19 = .ok (.iconst 0, 1) := by decide +kernel
theorem dX6_holdRow_20 : decode cX6_holdRow 20 = .ok (.invokestatic 46, 3) := by decide +kernel
theorem dX6_holdRow_23 : decode cX6_holdRow 23 = .ok (.return_, 1) := by decide +kernel
def f_X6_holdRow (a0 : Nat) (x1 : Int32) (x2 : Int32) (M : Mem) : Option Mem := (f_J7_fill_53178 (a0 + 2) (0 : Int32) (sI (sI (sI M a0 0 (2 : Int32)) a0 4 x1) a0 5 x2)).bind fun q3 => some q3
set_option maxRecDepth 100000 in
set_option maxHeartbeats 4000000 in
theorem c_X6_holdRow (Z : Sys) {M : Mem} (hs : St M) (a0 : Nat) (x1 : Int32) (x2 : Int32) (k_a0 : K0[a0]? = some (6, 7)) {q : Mem} (hf : f_X6_holdRow a0 x1 x2 M = some q) : Ct Z yX6_holdRow cX6_holdRow 3 none rm_X6_holdRow [.ref (zs Z + a0), .int x1, .int x2] M False (PostV q) := by
  refine Ct.of (by decide +kernel) (Nat.le_of_ble_eq_true rfl) (fun X hR hq _ => ?_)
  show G Z X Y_X6_holdRow False 0 0 0 [(0, .ref (zs Z + a0)), (1, .int x1), (2, .int x2)] [] M
  replace hq : RetOk Z X none False (PostV q) 0 0 := hq
  unfold f_X6_holdRow at hf
  refine G.aload_n 0 0 dX6_holdRow_0 rfl rfl ?_
  refine G.iconst 1 (2 : Int32) dX6_holdRow_1 (by decide +kernel) ?_
  refine G.puti 2 ck_6 0 (hs.k k_a0) (by decide) (by decide +kernel) rfl wd_373 rfl rfl dX6_holdRow_2 ?_
  refine G.aload_n 5 0 dX6_holdRow_5 rfl rfl ?_
  refine G.iload_n 6 1 dX6_holdRow_6 rfl rfl ?_
  refine G.puti 7 ck_6 4 ((St.i hs).k k_a0) (by decide) (by decide +kernel) rfl wd_379 rfl rfl dX6_holdRow_7 ?_
  refine G.aload_n 10 0 dX6_holdRow_10 rfl rfl ?_
  refine G.iload_n 11 2 dX6_holdRow_11 rfl rfl ?_
  refine G.puti 12 ck_6 5 ((St.i (St.i hs)).k k_a0) (by decide) (by decide +kernel) rfl wd_381 rfl rfl dX6_holdRow_12 ?_
  refine G.aload_n 15 0 dX6_holdRow_15 rfl rfl ?_
  refine G.getp 16 ck_6 6 (a0 + 2) ((St.i (St.i (St.i hs))).k k_a0) (pt_6_6 (St.i (St.i (St.i hs))) k_a0).1 (by decide) (by decide +kernel) wd_383 dX6_holdRow_16 ?_
  refine G.iconst 19 (0 : Int32) dX6_holdRow_19 (by decide +kernel) ?_
  obtain ⟨q3, e4, hf⟩ := bd_e hf
  refine G.csV 20 (As := [.ref (zs Z + (a0 + 2)), .int (0 : Int32)]) (c_J7_fill_53178 Z (St.i (St.i (St.i hs))) (a0 + 2) (0 : Int32) (ln_k (pt_6_6 hs k_a0).2) e4) mk_J7_fill_53178 wd_561 wd_1121 hR (by decide +kernel) ⟨rfl, rfl⟩ rfl (Nat.le_of_ble_eq_true rfl) dX6_holdRow_20 (fun hs1 => ?_)
  (have hf9 := Option.some.inj hf; subst hf9)
  exact G.rV 23 hq dX6_holdRow_23 hs1
abbrev Y_X6_holdSheet : My := (cX6_holdSheet, RX6, 3)
def rm_X6_holdSheet : Room := { frames := 2, cells := 0, slots := 0, locals := 221 }
theorem dX6_holdSheet_0 : decode cX6_holdSheet 0 = .ok (.aload_n 0, 1) := by decide +kernel
theorem dX6_holdSheet_1 : decode cX6_holdSheet 1 = .ok (.iconst 1, 1) := by decide +kernel
theorem dX6_holdSheet_2 : decode cX6_holdSheet 2 = .ok (.putfield 11, 3) := by decide +kernel
theorem dX6_holdSheet_5 : decode cX6_holdSheet 5 = .ok (.aload_n 0, 1) := by decide +kernel
theorem dX6_holdSheet_6 : decode cX6_holdSheet 6 = .ok (.iload_n 1, 1) := by decide +kernel
theorem dX6_holdSheet_7 : decode cX6_holdSheet 7 = .ok (.putfield 26, 3) := by decide +kernel
theorem dX6_holdSheet_10 : decode cX6_holdSheet 10 = .ok (.aload_n 0, 1) := by decide +kernel
theorem dX6_holdSheet_11 : decode cX6_holdSheet 11 = .ok (.aload_n 2, 1) := by decide +kernel
theorem dX6_holdSheet_12 : decode cX6_holdSheet 12 = .ok (.getfield 29, 3) := by decide +kernel
theorem dX6_holdSheet_15 : decode cX6_holdSheet 15 = .ok (.putfield 34, 3) := by decide +kernel
theorem dX6_holdSheet_18 : decode cX6_holdSheet 18 = .ok (.aload_n 0, 1) := by decide +kernel
theorem dX6_holdSheet_19 : decode cX6_holdSheet 19 = .ok (.getfield 18, 3) := by decide +kernel
theorem dX6_holdSheet_22 : decode cX6_holdSheet 22 = .ok (.aload_n 2, 1) := by decide +kernel
theorem dX6_holdSheet_23 : decode cX6_holdSheet 23 = .ok (.getfield 35, 3) := by decide +kernel
theorem dX6_holdSheet_26 : decode cX6_holdSheet 26 = .ok (.invokevirtual 36, 3) := by decide +kernel
theorem dX6_holdSheet_29 : decode cX6_holdSheet 29 = .ok (.return_, 1) := by decide +kernel
def f_X6_holdSheet (a0 : Nat) (x1 : Int32) (a2 : Nat) (M : Mem) : Option Mem := (f_X5_copyFrom (a0 + 1) (a2 + 1) (sI (sI (sI M a0 0 (1 : Int32)) a0 2 x1) a0 3 (mI (sI (sI M a0 0 (1 : Int32)) a0 2 x1) a2 6))).bind fun q3 => some q3
set_option maxRecDepth 100000 in
set_option maxHeartbeats 4000000 in
theorem c_X6_holdSheet (Z : Sys) {M : Mem} (hs : St M) (a0 : Nat) (x1 : Int32) (a2 : Nat) (k_a0 : K0[a0]? = some (6, 7)) (k_a2 : K0[a2]? = some (1, 12)) {q : Mem} (hf : f_X6_holdSheet a0 x1 a2 M = some q) : Ct Z yX6_holdSheet cX6_holdSheet 3 none rm_X6_holdSheet [.ref (zs Z + a0), .int x1, .ref (zs Z + a2)] M False (PostV q) := by
  refine Ct.of (by decide +kernel) (Nat.le_of_ble_eq_true rfl) (fun X hR hq _ => ?_)
  show G Z X Y_X6_holdSheet False 0 0 0 [(0, .ref (zs Z + a0)), (1, .int x1), (2, .ref (zs Z + a2))] [] M
  replace hq : RetOk Z X none False (PostV q) 0 0 := hq
  unfold f_X6_holdSheet at hf
  refine G.aload_n 0 0 dX6_holdSheet_0 rfl rfl ?_
  refine G.iconst 1 (1 : Int32) dX6_holdSheet_1 (by decide +kernel) ?_
  refine G.puti 2 ck_6 0 (hs.k k_a0) (by decide) (by decide +kernel) rfl wd_373 rfl rfl dX6_holdSheet_2 ?_
  refine G.aload_n 5 0 dX6_holdSheet_5 rfl rfl ?_
  refine G.iload_n 6 1 dX6_holdSheet_6 rfl rfl ?_
  refine G.puti 7 ck_6 2 ((St.i hs).k k_a0) (by decide) (by decide +kernel) rfl wd_377 rfl rfl dX6_holdSheet_7 ?_
  refine G.aload_n 10 0 dX6_holdSheet_10 rfl rfl ?_
  refine G.aload_n 11 2 dX6_holdSheet_11 rfl rfl ?_
  refine G.geti 12 ck_1 6 ((St.i (St.i hs)).k k_a2) (by decide) (by decide +kernel) wd_206 dX6_holdSheet_12 ?_
  refine G.puti 15 ck_6 3 ((St.i (St.i hs)).k k_a0) (by decide) (by decide +kernel) rfl wd_378 rfl rfl dX6_holdSheet_15 ?_
  refine G.aload_n 18 0 dX6_holdSheet_18 rfl rfl ?_
  refine G.getp 19 ck_6 1 (a0 + 1) ((St.i (St.i (St.i hs))).k k_a0) (pt_6_1 (St.i (St.i (St.i hs))) k_a0).1 (by decide) (by decide +kernel) wd_375 dX6_holdSheet_19 ?_
  refine G.aload_n 22 2 dX6_holdSheet_22 rfl rfl ?_
  refine G.getp 23 ck_1 0 (a2 + 1) ((St.i (St.i (St.i hs))).k k_a2) (pt_1_0 (St.i (St.i (St.i hs))) k_a2).1 (by decide) (by decide +kernel) wd_187 dX6_holdSheet_23 ?_
  obtain ⟨q3, e4, hf⟩ := bd_e hf
  refine G.cvV 26 (As := [.ref (zs Z + (a2 + 1))]) ck_5 ((St.i (St.i (St.i hs))).k (pt_6_1 hs k_a0).2) (c_X5_copyFrom Z (St.i (St.i (St.i hs))) (a0 + 1) (a2 + 1) (pt_6_1 hs k_a0).2 (pt_1_0 hs k_a2).2 e4) mk_X5_copyFrom vk_X5_copyFrom rfl wd_1112 hR (by decide +kernel) ⟨rfl, rfl⟩ rfl (Nat.le_of_ble_eq_true rfl) dX6_holdSheet_26 (fun hs1 => ?_)
  (have hf9 := Option.some.inj hf; subst hf9)
  exact G.rV 29 hq dX6_holdSheet_29 hs1
abbrev Y_X6_leastNumber : My := (cX6_leastNumber, RX6, 1)
def rm_X6_leastNumber : Room := { frames := 1, cells := 0, slots := 0, locals := 200 }
theorem dX6_leastNumber_0 : decode cX6_leastNumber 0 = .ok (.aload_n 0, 1) := by decide +kernel
theorem dX6_leastNumber_1 : decode cX6_leastNumber 1 = .ok (.getfield 40, 3) := by decide +kernel
theorem dX6_leastNumber_4 : decode cX6_leastNumber 4 = .ok (.lookupswitch 35 #[(0, 28), (1, 31)], 28) := by decide +kernel
theorem dX6_leastNumber_32 : decode cX6_leastNumber 32 = .ok (.bipush (-128), 2) := by decide +kernel
theorem dX6_leastNumber_34 : decode cX6_leastNumber 34 = .ok (.ireturn, 1) := by decide +kernel
theorem dX6_leastNumber_35 : decode cX6_leastNumber 35 = .ok (.sipush (-32768), 3) := by decide +kernel
theorem dX6_leastNumber_38 : decode cX6_leastNumber 38 = .ok (.ireturn, 1) := by decide +kernel
theorem dX6_leastNumber_39 : decode cX6_leastNumber 39 = .ok (.ldc 64, 2) := by decide +kernel
theorem dX6_leastNumber_41 : decode cX6_leastNumber 41 = .ok (.ireturn, 1) := by decide +kernel
def f_X6_leastNumber (a0 : Nat) (M : Mem) : Int32 := if (mI M a0 4) = (0 : Int32) then (-128 : Int32) else if (mI M a0 4) = (1 : Int32) then (-32768 : Int32) else (-2147483648 : Int32)
set_option maxRecDepth 100000 in
set_option maxHeartbeats 4000000 in
theorem c_X6_leastNumber (Z : Sys) {M : Mem} (hs : St M) (a0 : Nat) (k_a0 : K0[a0]? = some (6, 7)) {q : Int32} (hf : f_X6_leastNumber a0 M = q) : Ct Z yX6_leastNumber cX6_leastNumber 1 (some .int) rm_X6_leastNumber [.ref (zs Z + a0)] M False (PostI q M) := by
  refine Ct.of (by decide +kernel) (Nat.le_of_ble_eq_true rfl) (fun X hR hq _ => ?_)
  show G Z X Y_X6_leastNumber False 0 0 0 [(0, .ref (zs Z + a0))] [] M
  replace hq : RetOk Z X (some .int) False (PostI q M) 0 0 := hq
  unfold f_X6_leastNumber at hf
  refine G.aload_n 0 0 dX6_leastNumber_0 rfl rfl ?_
  refine G.geti 1 ck_6 4 (hs.k k_a0) (by decide) (by decide +kernel) wd_379 dX6_leastNumber_1 ?_
  by_cases h1 : (mI M a0 4) = (0 : Int32)
  · replace hf := (if_pos h1).symm.trans hf
    refine G.lookup 4 32 (off := 28) dX6_leastNumber_4 (by decide +kernel) (by rw [h1]; decide +kernel) (by decide) ?_
    refine G.bipush 32 (-128 : Int32) dX6_leastNumber_32 (by decide +kernel) ?_
    subst hf
    exact G.rI 34 hq dX6_leastNumber_34 hs
  · replace hf := (if_neg h1).symm.trans hf
    by_cases h2 : (mI M a0 4) = (1 : Int32)
    · replace hf := (if_pos h2).symm.trans hf
      refine G.lookup 4 35 (off := 31) dX6_leastNumber_4 (by decide +kernel) (by rw [h2]; decide +kernel) (by decide) ?_
      refine G.sipush 35 (-32768 : Int32) dX6_leastNumber_35 (by decide +kernel) ?_
      subst hf
      exact G.rI 38 hq dX6_leastNumber_38 hs
    · replace hf := (if_neg h2).symm.trans hf
      have t_h1 := ti (0 : Int32) (0) (by decide +kernel) h1
      have t_h2 := ti (1 : Int32) (1) (by decide +kernel) h2
      refine G.lookup 4 39 dX6_leastNumber_4 (by decide +kernel) (lk_d (by intro a ha; simp at ha; omega)) (by decide) ?_
      refine G.ldc 39 (-2147483648 : Int32) wd_540 dX6_leastNumber_39 ?_
      subst hf
      exact G.rI 41 hq dX6_leastNumber_41 hs
abbrev Y_X6_lowestBits : My := (cX6_lowestBits, RX6, 2)
def rm_X6_lowestBits : Room := { frames := 1, cells := 0, slots := 0, locals := 200 }
theorem dX6_lowestBits_0 : decode cX6_lowestBits 0 = .ok (.aload_n 0, 1) := by decide +kernel
theorem dX6_lowestBits_1 : decode cX6_lowestBits 1 = .ok (.getfield 40, 3) := by decide +kernel
theorem dX6_lowestBits_4 : decode cX6_lowestBits 4 = .ok (.lookupswitch 34 #[(0, 28), (1, 31)], 28) := by decide +kernel
theorem dX6_lowestBits_32 : decode cX6_lowestBits 32 = .ok (.iload_n 1, 1) := by decide +kernel
theorem dX6_lowestBits_33 : decode cX6_lowestBits 33 = .ok (.i2b, 1) := by decide +kernel
theorem dX6_lowestBits_34 : decode cX6_lowestBits 34 = .ok (.ireturn, 1) := by decide +kernel
theorem dX6_lowestBits_35 : decode cX6_lowestBits 35 = .ok (.iload_n 1, 1) := by decide +kernel
theorem dX6_lowestBits_36 : decode cX6_lowestBits 36 = .ok (.i2s, 1) := by decide +kernel
theorem dX6_lowestBits_37 : decode cX6_lowestBits 37 = .ok (.ireturn, 1) := by decide +kernel
theorem dX6_lowestBits_38 : decode cX6_lowestBits 38 = .ok (.iload_n 1, 1) := by decide +kernel
theorem dX6_lowestBits_39 : decode cX6_lowestBits 39 = .ok (.ireturn, 1) := by decide +kernel
def f_X6_lowestBits (a0 : Nat) (x1 : Int32) (M : Mem) : Int32 := if (mI M a0 4) = (0 : Int32) then x1.toInt8.toInt32 else if (mI M a0 4) = (1 : Int32) then x1.toInt16.toInt32 else x1
set_option maxRecDepth 100000 in
set_option maxHeartbeats 4000000 in
theorem c_X6_lowestBits (Z : Sys) {M : Mem} (hs : St M) (a0 : Nat) (x1 : Int32) (k_a0 : K0[a0]? = some (6, 7)) {q : Int32} (hf : f_X6_lowestBits a0 x1 M = q) : Ct Z yX6_lowestBits cX6_lowestBits 2 (some .int) rm_X6_lowestBits [.ref (zs Z + a0), .int x1] M False (PostI q M) := by
  refine Ct.of (by decide +kernel) (Nat.le_of_ble_eq_true rfl) (fun X hR hq _ => ?_)
  show G Z X Y_X6_lowestBits False 0 0 0 [(0, .ref (zs Z + a0)), (1, .int x1)] [] M
  replace hq : RetOk Z X (some .int) False (PostI q M) 0 0 := hq
  unfold f_X6_lowestBits at hf
  refine G.aload_n 0 0 dX6_lowestBits_0 rfl rfl ?_
  refine G.geti 1 ck_6 4 (hs.k k_a0) (by decide) (by decide +kernel) wd_379 dX6_lowestBits_1 ?_
  by_cases h1 : (mI M a0 4) = (0 : Int32)
  · replace hf := (if_pos h1).symm.trans hf
    refine G.lookup 4 32 (off := 28) dX6_lowestBits_4 (by decide +kernel) (by rw [h1]; decide +kernel) (by decide) ?_
    refine G.iload_n 32 1 dX6_lowestBits_32 rfl rfl ?_
    refine G.i2b 33 dX6_lowestBits_33 ?_
    subst hf
    exact G.rI 34 hq dX6_lowestBits_34 hs
  · replace hf := (if_neg h1).symm.trans hf
    by_cases h2 : (mI M a0 4) = (1 : Int32)
    · replace hf := (if_pos h2).symm.trans hf
      refine G.lookup 4 35 (off := 31) dX6_lowestBits_4 (by decide +kernel) (by rw [h2]; decide +kernel) (by decide) ?_
      refine G.iload_n 35 1 dX6_lowestBits_35 rfl rfl ?_
      refine G.i2s 36 dX6_lowestBits_36 ?_
      subst hf
      exact G.rI 37 hq dX6_lowestBits_37 hs
    · replace hf := (if_neg h2).symm.trans hf
      have t_h1 := ti (0 : Int32) (0) (by decide +kernel) h1
      have t_h2 := ti (1 : Int32) (1) (by decide +kernel) h2
      refine G.lookup 4 38 dX6_lowestBits_4 (by decide +kernel) (lk_d (by intro a ha; simp at ha; omega)) (by decide) ?_
      refine G.iload_n 38 1 dX6_lowestBits_38 rfl rfl ?_
      subst hf
      exact G.rI 39 hq dX6_lowestBits_39 hs
abbrev Y_X6_tellsNumber : My := (cX6_tellsNumber, RX6, 2)
def rm_X6_tellsNumber : Room := { frames := 3, cells := 0, slots := 0, locals := 243 }
theorem dX6_tellsNumber_0 : decode cX6_tellsNumber 0 = .ok (.aload_n 0, 1) := by decide +kernel
theorem dX6_tellsNumber_1 : decode cX6_tellsNumber 1 = .ok (.iload_n 1, 1) := by decide +kernel
theorem dX6_tellsNumber_2 : decode cX6_tellsNumber 2 = .ok (.invokevirtual 56, 3) := by decide +kernel
theorem dX6_tellsNumber_5 : decode cX6_tellsNumber 5 = .ok (.ifCond .eq 20, 3) := by decide +kernel
theorem dX6_tellsNumber_8 : decode cX6_tellsNumber 8 = .ok (.aload_n 0, 1) := by decide +kernel
theorem dX6_tellsNumber_9 : decode cX6_tellsNumber 9 = .ok (.getfield 22, 3) := by decide +kernel
theorem dX6_tellsNumber_12 : decode cX6_tellsNumber 12 = .ok (.iload_n 1, 1) := by decide +kernel
theorem dX6_tellsNumber_13 : decode cX6_tellsNumber 13 = .ok (.iaload, 1) := by decide +kernel
theorem dX6_tellsNumber_14 : decode cX6_tellsNumber 14 = .ok (.aload_n 0, 1) := by decide +kernel
theorem dX6_tellsNumber_15 : decode cX6_tellsNumber 15 = .ok (.invokevirtual 60, 3) := by decide +kernel
theorem dX6_tellsNumber_18 : decode cX6_tellsNumber 18 = .ok (.if_icmp .eq 7, 3) := by decide +kernel
theorem dX6_tellsNumber_21 : decode cX6_tellsNumber 21 = .ok (.iconst 1, 1) := by decide +kernel
theorem dX6_tellsNumber_22 : decode cX6_tellsNumber 22 = .ok (.goto 4, 3) := by decide +kernel
theorem dX6_tellsNumber_25 : decode cX6_tellsNumber 25 = .ok (.iconst 0, 1) := by decide +kernel
theorem dX6_tellsNumber_26 : decode cX6_tellsNumber 26 = .ok (.ireturn, 1) := by decide +kernel
def f_X6_tellsNumber (a0 : Nat) (x1 : Int32) (M : Mem) : Option Int32 := if (f_X6_hasPlace a0 x1 M) = 0 then some (0 : Int32) else gd (inR x1 80) (if (mI M (a0 + 2) x1.toNatClampNeg) = (f_X6_leastNumber a0 M) then some (0 : Int32) else some (1 : Int32))
set_option maxRecDepth 100000 in
set_option maxHeartbeats 4000000 in
theorem c_X6_tellsNumber (Z : Sys) {M : Mem} (hs : St M) (a0 : Nat) (x1 : Int32) (k_a0 : K0[a0]? = some (6, 7)) {q : Int32} (hf : f_X6_tellsNumber a0 x1 M = some q) : Ct Z yX6_tellsNumber cX6_tellsNumber 2 (some .boolean) rm_X6_tellsNumber [.ref (zs Z + a0), .int x1] M False (PostZ q M) := by
  refine Ct.of (by decide +kernel) (Nat.le_of_ble_eq_true rfl) (fun X hR hq _ => ?_)
  show G Z X Y_X6_tellsNumber False 0 0 0 [(0, .ref (zs Z + a0)), (1, .int x1)] [] M
  replace hq : RetOk Z X (some .boolean) False (PostZ q M) 0 0 := hq
  unfold f_X6_tellsNumber at hf
  refine G.aload_n 0 0 dX6_tellsNumber_0 rfl rfl ?_
  refine G.iload_n 1 1 dX6_tellsNumber_1 rfl rfl ?_
  refine G.cvZ 2 (As := [.int x1]) ck_6 (hs.k k_a0) (c_X6_hasPlace Z hs a0 x1 k_a0 rfl) mk_X6_hasPlace vk_X6_hasPlace rfl wd_531 hR (by decide +kernel) ⟨rfl, rfl⟩ rfl (Nat.le_of_ble_eq_true rfl) dX6_tellsNumber_2 (fun hs1 z2 => ?_)
  refine G.if_eq 5 25 dX6_tellsNumber_5 (by decide) (fun h3 => ?_) (fun h3 => ?_)
  · replace hf := (if_pos h3).symm.trans hf
    refine G.iconst 25 (0 : Int32) dX6_tellsNumber_25 (by decide +kernel) ?_
    (have hf9 := Option.some.inj hf; subst hf9)
    exact G.rZ 26 hq dX6_tellsNumber_26 hs1 (Or.inl rfl)
  · replace hf := (if_neg h3).symm.trans hf
    refine G.aload_n 8 0 dX6_tellsNumber_8 rfl rfl ?_
    refine G.getp 9 ck_6 6 (a0 + 2) (hs1.k k_a0) (pt_6_6 hs1 k_a0).1 (by decide) (by decide +kernel) wd_383 dX6_tellsNumber_9 ?_
    refine G.iload_n 12 1 dX6_tellsNumber_12 rfl rfl ?_
    obtain ⟨g4, hf⟩ := gd_e hf
    refine G.ia 13 x1.toNatClampNeg (hs1.k (pt_6_6 hs1 k_a0).2) g4 rfl dX6_tellsNumber_13 ?_
    refine G.aload_n 14 0 dX6_tellsNumber_14 rfl rfl ?_
    refine G.cvI 15 (As := []) ck_6 (hs1.k k_a0) (c_X6_leastNumber Z hs1 a0 k_a0 rfl) mk_X6_leastNumber vk_X6_leastNumber rfl wd_536 hR (by decide +kernel) ⟨rfl, rfl⟩ rfl (Nat.le_of_ble_eq_true rfl) dX6_tellsNumber_15 (fun hs5 => ?_)
    refine G.icmp_eq 18 25 dX6_tellsNumber_18 (by decide) (fun h7 => ?_) (fun h7 => ?_)
    · replace hf := (if_pos h7).symm.trans hf
      refine G.iconst 25 (0 : Int32) dX6_tellsNumber_25 (by decide +kernel) ?_
      (have hf9 := Option.some.inj hf; subst hf9)
      exact G.rZ 26 hq dX6_tellsNumber_26 hs5 (Or.inl rfl)
    · replace hf := (if_neg h7).symm.trans hf
      refine G.iconst 21 (1 : Int32) dX6_tellsNumber_21 (by decide +kernel) ?_
      refine G.goto 22 26 dX6_tellsNumber_22 (by decide) ?_
      (have hf9 := Option.some.inj hf; subst hf9)
      exact G.rZ 26 hq dX6_tellsNumber_26 hs5 (Or.inr rfl)
abbrev Y_X7_areFew : My := (cX7_areFew, RX7, 1)
def rm_X7_areFew : Room := { frames := 1, cells := 0, slots := 0, locals := 200 }
theorem dX7_areFew_0 : decode cX7_areFew 0 = .ok (.aload_n 0, 1) := by decide +kernel
theorem dX7_areFew_1 : decode cX7_areFew 1 = .ok (.getfield 15, 3) := by decide +kernel
theorem dX7_areFew_4 : decode cX7_areFew 4 = .ok (.bipush 14, 2) := by decide +kernel
theorem dX7_areFew_6 : decode cX7_areFew 6 = .ok (.if_icmp .gt 7, 3) := by decide +kernel
theorem dX7_areFew_9 : decode cX7_areFew 9 = .ok (.iconst 1, 1) := by decide +kernel
theorem dX7_areFew_10 : decode cX7_areFew 10 = .ok (.goto 4, 3) := by decide +kernel
theorem dX7_areFew_13 : decode cX7_areFew 13 = .ok (.iconst 0, 1) := by decide +kernel
theorem dX7_areFew_14 : decode cX7_areFew 14 = .ok (.ireturn, 1) := by decide +kernel
def f_X7_areFew (M : Mem) : Int32 := if (14 : Int32) < (mI M 254 1) then (0 : Int32) else (1 : Int32)
set_option maxRecDepth 100000 in
set_option maxHeartbeats 4000000 in
theorem c_X7_areFew (Z : Sys) {M : Mem} (hs : St M) {q : Int32} (hf : f_X7_areFew M = q) : Ct Z yX7_areFew cX7_areFew 1 (some .boolean) rm_X7_areFew [.ref (zs Z + 254)] M False (PostZ q M) := by
  refine Ct.of (by decide +kernel) (Nat.le_of_ble_eq_true rfl) (fun X hR hq _ => ?_)
  show G Z X Y_X7_areFew False 0 0 0 [(0, .ref (zs Z + 254))] [] M
  replace hq : RetOk Z X (some .boolean) False (PostZ q M) 0 0 := hq
  unfold f_X7_areFew at hf
  refine G.aload_n 0 0 dX7_areFew_0 rfl rfl ?_
  refine G.geti 1 ck_7 1 (hs.k k0_254) (by decide) (by decide +kernel) wd_314 dX7_areFew_1 ?_
  refine G.bipush 4 (14 : Int32) dX7_areFew_4 (by decide +kernel) ?_
  refine G.icmp_gt 6 13 dX7_areFew_6 (by decide) (fun h1 => ?_) (fun h1 => ?_)
  · replace hf := (if_pos h1).symm.trans hf
    refine G.iconst 13 (0 : Int32) dX7_areFew_13 (by decide +kernel) ?_
    subst hf
    exact G.rZ 14 hq dX7_areFew_14 hs (Or.inl rfl)
  · replace hf := (if_neg h1).symm.trans hf
    refine G.iconst 9 (1 : Int32) dX7_areFew_9 (by decide +kernel) ?_
    refine G.goto 10 14 dX7_areFew_10 (by decide) ?_
    subst hf
    exact G.rZ 14 hq dX7_areFew_14 hs (Or.inr rfl)
abbrev Y_X7_areSome : My := (cX7_areSome, RX7, 1)
def rm_X7_areSome : Room := { frames := 1, cells := 0, slots := 0, locals := 200 }
theorem dX7_areSome_0 : decode cX7_areSome 0 = .ok (.aload_n 0, 1) := by decide +kernel
theorem dX7_areSome_1 : decode cX7_areSome 1 = .ok (.getfield 22, 3) := by decide +kernel
theorem dX7_areSome_4 : decode cX7_areSome 4 = .ok (.ifCond .le 18, 3) := by decide +kernel
theorem dX7_areSome_7 : decode cX7_areSome 7 = .ok (.aload_n 0, 1) := by decide +kernel
theorem dX7_areSome_8 : decode cX7_areSome 8 = .ok (.getfield 22, 3) := by decide +kernel
theorem dX7_areSome_11 : decode cX7_areSome 11 = .ok (.aload_n 0, 1) := by decide +kernel
theorem dX7_areSome_12 : decode cX7_areSome 12 = .ok (.getfield 15, 3) := by decide +kernel
theorem dX7_areSome_15 : decode cX7_areSome 15 = .ok (.if_icmp .ge 7, 3) := by decide +kernel
theorem dX7_areSome_18 : decode cX7_areSome 18 = .ok (.iconst 1, 1) := by decide +kernel
theorem dX7_areSome_19 : decode cX7_areSome 19 = .ok (.goto 4, 3) := by decide +kernel
theorem dX7_areSome_22 : decode cX7_areSome 22 = .ok (.iconst 0, 1) := by decide +kernel
theorem dX7_areSome_23 : decode cX7_areSome 23 = .ok (.ireturn, 1) := by decide +kernel
def f_X7_areSome (M : Mem) : Int32 := if (mI M 254 3) ≤ 0 then (0 : Int32) else if (mI M 254 1) ≤ (mI M 254 3) then (0 : Int32) else (1 : Int32)
set_option maxRecDepth 100000 in
set_option maxHeartbeats 4000000 in
theorem c_X7_areSome (Z : Sys) {M : Mem} (hs : St M) {q : Int32} (hf : f_X7_areSome M = q) : Ct Z yX7_areSome cX7_areSome 1 (some .boolean) rm_X7_areSome [.ref (zs Z + 254)] M False (PostZ q M) := by
  refine Ct.of (by decide +kernel) (Nat.le_of_ble_eq_true rfl) (fun X hR hq _ => ?_)
  show G Z X Y_X7_areSome False 0 0 0 [(0, .ref (zs Z + 254))] [] M
  replace hq : RetOk Z X (some .boolean) False (PostZ q M) 0 0 := hq
  unfold f_X7_areSome at hf
  refine G.aload_n 0 0 dX7_areSome_0 rfl rfl ?_
  refine G.geti 1 ck_7 3 (hs.k k0_254) (by decide) (by decide +kernel) wd_316 dX7_areSome_1 ?_
  refine G.if_le 4 22 dX7_areSome_4 (by decide) (fun h1 => ?_) (fun h1 => ?_)
  · replace hf := (if_pos h1).symm.trans hf
    refine G.iconst 22 (0 : Int32) dX7_areSome_22 (by decide +kernel) ?_
    subst hf
    exact G.rZ 23 hq dX7_areSome_23 hs (Or.inl rfl)
  · replace hf := (if_neg h1).symm.trans hf
    refine G.aload_n 7 0 dX7_areSome_7 rfl rfl ?_
    refine G.geti 8 ck_7 3 (hs.k k0_254) (by decide) (by decide +kernel) wd_316 dX7_areSome_8 ?_
    refine G.aload_n 11 0 dX7_areSome_11 rfl rfl ?_
    refine G.geti 12 ck_7 1 (hs.k k0_254) (by decide) (by decide +kernel) wd_314 dX7_areSome_12 ?_
    refine G.icmp_ge 15 22 dX7_areSome_15 (by decide) (fun h2 => ?_) (fun h2 => ?_)
    · replace hf := (if_pos h2).symm.trans hf
      refine G.iconst 22 (0 : Int32) dX7_areSome_22 (by decide +kernel) ?_
      subst hf
      exact G.rZ 23 hq dX7_areSome_23 hs (Or.inl rfl)
    · replace hf := (if_neg h2).symm.trans hf
      refine G.iconst 18 (1 : Int32) dX7_areSome_18 (by decide +kernel) ?_
      refine G.goto 19 23 dX7_areSome_19 (by decide) ?_
      subst hf
      exact G.rZ 23 hq dX7_areSome_23 hs (Or.inr rfl)
abbrev Y_X7_sharesIn : My := (cX7_sharesIn, RX7, 4)
def rm_X7_sharesIn : Room := { frames := 1, cells := 0, slots := 0, locals := 200 }
theorem dX7_sharesIn_0 : decode cX7_sharesIn 0 = .ok (.iconst 0, 1) := by decide +kernel
theorem dX7_sharesIn_1 : decode cX7_sharesIn 1 = .ok (.istore_n 2, 1) := by decide +kernel
theorem dX7_sharesIn_2 : decode cX7_sharesIn 2 = .ok (.iconst 0, 1) := by decide +kernel
theorem dX7_sharesIn_3 : decode cX7_sharesIn 3 = .ok (.istore_n 3, 1) := by decide +kernel
theorem dX7_sharesIn_4 : decode cX7_sharesIn 4 = .ok (.iload_n 3, 1) := by decide +kernel
theorem dX7_sharesIn_5 : decode cX7_sharesIn 5 = .ok (.aload_n 0, 1) := by decide +kernel
theorem dX7_sharesIn_6 : decode cX7_sharesIn 6 = .ok (.getfield 15, 3) := by decide +kernel
theorem dX7_sharesIn_9 : decode cX7_sharesIn 9 = .ok (.if_icmp .ge 24, 3) := by decide +kernel
theorem dX7_sharesIn_12 : decode cX7_sharesIn 12 = .ok (.iload_n 2, 1) := by decide +kernel
theorem dX7_sharesIn_13 : decode cX7_sharesIn 13 = .ok (.iload_n 1, 1) := by decide +kernel
theorem dX7_sharesIn_14 : decode cX7_sharesIn 14 = .ok (.iload_n 3, 1) := by decide +kernel
theorem dX7_sharesIn_15 : decode cX7_sharesIn 15 = .ok (.ishr, 1) := by decide +kernel
theorem dX7_sharesIn_16 : decode cX7_sharesIn 16 = .ok (.iconst 1, 1) := by decide +kernel
theorem dX7_sharesIn_17 : decode cX7_sharesIn 17 = .ok (.iand, 1) := by decide +kernel
theorem dX7_sharesIn_18 : decode cX7_sharesIn 18 = .ok (.aload_n 0, 1) := by decide +kernel
theorem dX7_sharesIn_19 : decode cX7_sharesIn 19 = .ok (.getfield 9, 3) := by decide +kernel
theorem dX7_sharesIn_22 : decode cX7_sharesIn 22 = .ok (.iload_n 3, 1) := by decide +kernel
theorem dX7_sharesIn_23 : decode cX7_sharesIn 23 = .ok (.iaload, 1) := by decide +kernel
theorem dX7_sharesIn_24 : decode cX7_sharesIn 24 = .ok (.imul, 1) := by decide +kernel
theorem dX7_sharesIn_25 : decode cX7_sharesIn 25 = .ok (.iadd, 1) := by decide +kernel
theorem dX7_sharesIn_26 : decode cX7_sharesIn 26 = .ok (.istore_n 2, 1) := by decide +kernel
theorem dX7_sharesIn_27 : decode cX7_sharesIn 27 = .ok (.iinc 3 1, 3) := by decide +kernel
theorem dX7_sharesIn_30 : decode cX7_sharesIn 30 = .ok (.goto (-26), 3) := by decide +kernel
theorem dX7_sharesIn_33 : decode cX7_sharesIn 33 = .ok (.iload_n 2, 1) := by decide +kernel
theorem dX7_sharesIn_34 : decode cX7_sharesIn 34 = .ok (.ireturn, 1) := by decide +kernel
def L_X7_sharesIn_4 : Nat → Int32 → Int32 → Int32 → Mem → Option Int32
  | 0, _, _, _, _ => none
  | n + 1, x1, x2, x3, M => if (mI M 254 1) ≤ x3 then some x2 else gd (inR x3 30) (L_X7_sharesIn_4 n x1 (x2 + (((x1 >>> (x3 &&& 31)) &&& (1 : Int32)) * (mI M 255 x3.toNatClampNeg))) (x3 + 1) M)
def f_X7_sharesIn (x1 : Int32) (M : Mem) : Option Int32 := L_X7_sharesIn_4 FU x1 (0 : Int32) (0 : Int32) M
set_option maxRecDepth 100000 in
set_option maxHeartbeats 4000000 in
theorem l_X7_sharesIn_4 (Z : Sys) (X : Cx) (hR : xR X = rm_X7_sharesIn) {q : Int32} {M : Mem} (hq : RetOk Z X (some .int) False (PostI q M) 0 0) : ∀ (n : Nat) (x1 : Int32) (x2 : Int32) (x3 : Int32) (hs : St M) (hf : L_X7_sharesIn_4 n x1 x2 x3 M = some q), G Z X Y_X7_sharesIn False 0 0 4 [(0, .ref (zs Z + 254)), (1, .int x1), (2, .int x2), (3, .int x3)] [] M := by
  intro n
  induction n with
  | zero => intro x1 x2 x3 hs  hf; cases hf
  | succ n ih =>
    intro x1 x2 x3 hs  hf
    unfold L_X7_sharesIn_4 at hf
    refine G.iload_n 4 3 dX7_sharesIn_4 rfl rfl ?_
    refine G.aload_n 5 0 dX7_sharesIn_5 rfl rfl ?_
    refine G.geti 6 ck_7 1 (hs.k k0_254) (by decide) (by decide +kernel) wd_314 dX7_sharesIn_6 ?_
    refine G.icmp_ge 9 33 dX7_sharesIn_9 (by decide) (fun h1 => ?_) (fun h1 => ?_)
    · replace hf := (if_pos h1).symm.trans hf
      refine G.iload_n 33 2 dX7_sharesIn_33 rfl rfl ?_
      (have hf9 := Option.some.inj hf; subst hf9)
      exact G.rI 34 hq dX7_sharesIn_34 hs
    · replace hf := (if_neg h1).symm.trans hf
      refine G.iload_n 12 2 dX7_sharesIn_12 rfl rfl ?_
      refine G.iload_n 13 1 dX7_sharesIn_13 rfl rfl ?_
      refine G.iload_n 14 3 dX7_sharesIn_14 rfl rfl ?_
      refine G.ishr 15 dX7_sharesIn_15 ?_
      refine G.iconst 16 (1 : Int32) dX7_sharesIn_16 (by decide +kernel) ?_
      refine G.iand 17 dX7_sharesIn_17 ?_
      refine G.aload_n 18 0 dX7_sharesIn_18 rfl rfl ?_
      refine G.getp 19 ck_7 0 255 (hs.k k0_254) (pc_7_0 hs) (by decide) (by decide +kernel) wd_313 dX7_sharesIn_19 ?_
      refine G.iload_n 22 3 dX7_sharesIn_22 rfl rfl ?_
      obtain ⟨g2, hf⟩ := gd_e hf
      refine G.ia 23 x3.toNatClampNeg (hs.k k0_255) g2 rfl dX7_sharesIn_23 ?_
      refine G.imul 24 dX7_sharesIn_24 ?_
      refine G.iadd 25 dX7_sharesIn_25 ?_
      refine G.istore_n 26 [(2, .int (x2 + (((x1 >>> (x3 &&& 31)) &&& (1 : Int32)) * (mI M 255 x3.toNatClampNeg)))), (0, .ref (zs Z + 254)), (1, .int x1), (3, .int x3)] dX7_sharesIn_26 rfl (Nat.le_of_ble_eq_true rfl) rfl ?_
      refine G.iinc 27 3 (x3 + 1) [(3, .int (x3 + 1)), (2, .int (x2 + (((x1 >>> (x3 &&& 31)) &&& (1 : Int32)) * (mI M 255 x3.toNatClampNeg)))), (0, .ref (zs Z + 254)), (1, .int x1)] dX7_sharesIn_27 rfl (congrArg (fun z => x3 + z) (by decide +kernel)) (Nat.le_of_ble_eq_true rfl) rfl ?_
      refine G.goto 30 4 dX7_sharesIn_30 (by decide) ?_
      refine G.locs [2, 3, 1, 0] rfl ?_
      exact ih x1 (x2 + (((x1 >>> (x3 &&& 31)) &&& (1 : Int32)) * (mI M 255 x3.toNatClampNeg))) (x3 + 1) hs hf
set_option maxRecDepth 100000 in
set_option maxHeartbeats 4000000 in
theorem c_X7_sharesIn (Z : Sys) {M : Mem} (hs : St M) (x1 : Int32) {q : Int32} (hf : f_X7_sharesIn x1 M = some q) : Ct Z yX7_sharesIn cX7_sharesIn 4 (some .int) rm_X7_sharesIn [.ref (zs Z + 254), .int x1] M False (PostI q M) := by
  refine Ct.of (by decide +kernel) (Nat.le_of_ble_eq_true rfl) (fun X hR hq _ => ?_)
  show G Z X Y_X7_sharesIn False 0 0 0 [(0, .ref (zs Z + 254)), (1, .int x1)] [] M
  replace hq : RetOk Z X (some .int) False (PostI q M) 0 0 := hq
  unfold f_X7_sharesIn at hf
  refine G.iconst 0 (0 : Int32) dX7_sharesIn_0 (by decide +kernel) ?_
  refine G.istore_n 1 [(2, .int (0 : Int32)), (0, .ref (zs Z + 254)), (1, .int x1)] dX7_sharesIn_1 rfl (Nat.le_of_ble_eq_true rfl) rfl ?_
  refine G.iconst 2 (0 : Int32) dX7_sharesIn_2 (by decide +kernel) ?_
  refine G.istore_n 3 [(3, .int (0 : Int32)), (2, .int (0 : Int32)), (0, .ref (zs Z + 254)), (1, .int x1)] dX7_sharesIn_3 rfl (Nat.le_of_ble_eq_true rfl) rfl ?_
  refine G.locs [2, 3, 1, 0] rfl ?_
  exact l_X7_sharesIn_4 Z X hR hq FU x1 (0 : Int32) (0 : Int32) hs hf
