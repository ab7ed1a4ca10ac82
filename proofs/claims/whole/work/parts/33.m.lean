abbrev Y_X9_product : My := (cX9_product, RX9, 4)
def rm_X9_product : Room := { frames := 5, cells := 0, slots := 0, locals := 287 }
theorem dX9_product_0 : decode cX9_product 0 = .ok (.aload_n 0, 1) := by decide +kernel
theorem dX9_product_1 : decode cX9_product 1 = .ok (.invokevirtual 262, 3) := by decide +kernel
theorem dX9_product_4 : decode cX9_product 4 = .ok (.istore_n 1, 1) := by decide +kernel
theorem dX9_product_5 : decode cX9_product 5 = .ok (.aload_n 0, 1) := by decide +kernel
theorem dX9_product_6 : decode cX9_product 6 = .ok (.getfield 230, 3) := by decide +kernel
theorem dX9_product_9 : decode cX9_product 9 = .ok (.ifCond .eq 68, 3) := by decide +kernel
theorem dX9_product_12 : decode cX9_product 12 = .ok (.aload_n 0, 1) := by decide +kernel
theorem dX9_product_13 : decode cX9_product 13 = .ok (.invokevirtual 234, 3) := by decide +kernel
theorem dX9_product_16 : decode cX9_product 16 = .ok (.bipush 42, 2) := by decide +kernel
theorem dX9_product_18 : decode cX9_product 18 = .ok (.if_icmp .eq 12, 3) := by decide +kernel
theorem dX9_product_21 : decode cX9_product 21 = .ok (.aload_n 0, 1) := by decide +kernel
theorem dX9_product_22 : decode cX9_product 22 = .ok (.invokevirtual 234, 3) := by decide +kernel
theorem dX9_product_25 : decode cX9_product 25 = .ok (.bipush 37, 2) := by decide +kernel
theorem dX9_product_27 : decode cX9_product 27 = .ok (.if_icmp .ne 50, 3) := by decide +kernel
theorem dX9_product_30 : decode cX9_product 30 = .ok (.aload_n 0, 1) := by decide +kernel
theorem dX9_product_31 : decode cX9_product 31 = .ok (.invokevirtual 234, 3) := by decide +kernel
theorem dX9_product_34 : decode cX9_product 34 = .ok (.istore_n 2, 1) := by decide +kernel
theorem dX9_product_35 : decode cX9_product 35 = .ok (.aload_n 0, 1) := by decide +kernel
theorem dX9_product_36 : decode cX9_product 36 = .ok (.dup, 1) := by decide +kernel
theorem dX9_product_37 : decode cX9_product 37 = .ok (.getfield 221, 3) := by decide +kernel
theorem dX9_product_40 : decode cX9_product 40 = .ok (.iconst 1, 1) := by decide +kernel
theorem dX9_product_41 : decode cX9_product 41 = .ok (.iadd, 1) := by decide +kernel
theorem dX9_product_42 : decode cX9_product 42 = .ok (.putfield 221, 3) := by decide +kernel
theorem dX9_product_45 : decode cX9_product 45 = .ok (.aload_n 0, 1) := by decide +kernel
theorem dX9_product_46 : decode cX9_product 46 = .ok (.invokevirtual 262, 3) := by decide +kernel
theorem dX9_product_49 : decode cX9_product 49 = .ok (.istore_n 3, 1) := by decide +kernel
theorem dX9_product_50 : decode cX9_product 50 = .ok (.iload_n 2, 1) := by decide +kernel
theorem dX9_product_51 : decode cX9_product 51 = .ok (.bipush 42, 2) := by decide +kernel
theorem dX9_product_53 : decode cX9_product 53 = .ok (.if_icmp .ne 9, 3) := by decide +kernel
theorem dX9_product_56 : decode cX9_product 56 = .ok (.iload_n 1, 1) := by decide +kernel
theorem dX9_product_57 : decode cX9_product 57 = .ok (.iload_n 3, 1) := by decide +kernel
theorem dX9_product_58 : decode cX9_product 58 = .ok (.imul, 1) := by decide +kernel
theorem dX9_product_59 : decode cX9_product 59 = .ok (.goto 14, 3) := by decide +kernel
theorem dX9_product_62 : decode cX9_product 62 = .ok (.iload_n 3, 1) := by decide +kernel
theorem dX9_product_63 : decode cX9_product 63 = .ok (.ifCond .ne 7, 3) := by decide +kernel
theorem dX9_product_66 : decode cX9_product 66 = .ok (.iconst 0, 1) := by decide +kernel
theorem dX9_product_67 : decode cX9_product 67 = .ok (.goto 6, 3) := by decide +kernel
theorem dX9_product_70 : decode cX9_product 70 = .ok (.iload_n 1, 1) := by decide +kernel
theorem dX9_product_71 : decode cX9_product 71 = .ok (.iload_n 3, 1) := by decide +kernel
theorem dX9_product_72 : decode cX9_product 72 = .ok (.irem, 1) := by decide +kernel
theorem dX9_product_73 : decode cX9_product 73 = .ok (.istore_n 1, 1) := by decide +kernel
theorem dX9_product_74 : decode cX9_product 74 = .ok (.goto (-69), 3) := by decide +kernel
theorem dX9_product_77 : decode cX9_product 77 = .ok (.iload_n 1, 1) := by decide +kernel
theorem dX9_product_78 : decode cX9_product 78 = .ok (.ireturn, 1) := by decide +kernel
def B_X9_product_30 (rc_5 : Int32 → Mem → Option (Int32 × Mem)) (x1 : Int32) (M : Mem) : Option (Int32 × Mem) := (f_X9_sign M).bind fun q13 => (f_X9_atom (sI M 284 21 ((mI M 284 21) + (1 : Int32)))).bind fun q17 => if q13 = (42 : Int32) then rc_5 (x1 * q17.1) q17.2 else if q17.1 = 0 then rc_5 (0 : Int32) q17.2 else gd (¬ q17.1 = 0) (rc_5 (jrem x1 q17.1) q17.2)
def L_X9_product_5 : Nat → Int32 → Mem → Option (Int32 × Mem)
  | 0, _, _ => none
  | n + 1, x1, M => if (mI M 284 27) = 0 then some (x1, M) else (f_X9_sign M).bind fun q8 => if q8 = (42 : Int32) then B_X9_product_30 (L_X9_product_5 n) x1 M else (f_X9_sign M).bind fun q24 => if q24 = (37 : Int32) then B_X9_product_30 (L_X9_product_5 n) x1 M else some (x1, M)
def f_X9_product (M : Mem) : Option (Int32 × Mem) := (f_X9_atom M).bind fun q3 => L_X9_product_5 FU q3.1 q3.2
set_option maxRecDepth 100000 in
set_option maxHeartbeats 4000000 in
theorem b_X9_product_30 (Z : Sys) (X : Cx) (hR : xR X = rm_X9_product) {q : Int32 × Mem} (hq : RetOk Z X (some .int) False (PostI q.1 q.2) 0 0) (rc_5 : Int32 → Mem → Option (Int32 × Mem)) (hrc_5 : ∀ (x1 : Int32) (M : Mem), St M → rc_5 x1 M = some q → G Z X Y_X9_product False 0 0 5 [(0, .ref (zs Z + 284)), (1, .int x1)] [] M) (x1 : Int32) {M : Mem} (hs : St M) (hf : B_X9_product_30 rc_5 x1 M = some q) : G Z X Y_X9_product False 0 0 30 [(0, .ref (zs Z + 284)), (1, .int x1)] [] M := by
  unfold B_X9_product_30 at hf
  refine G.aload_n 30 0 dX9_product_30 rfl rfl ?_
  obtain ⟨q13, e14, hf⟩ := bd_e hf
  refine G.cvI 31 (As := []) ck_9 (hs.k k0_284) (c_X9_sign Z hs e14) mk_X9_sign vk_X9_sign rfl wd_1673 hR (by decide +kernel) ⟨rfl, rfl⟩ rfl (Nat.le_of_ble_eq_true rfl) dX9_product_31 (fun hs11 => ?_)
  refine G.istore_n 34 [(2, .int q13), (0, .ref (zs Z + 284)), (1, .int x1)] dX9_product_34 rfl (Nat.le_of_ble_eq_true rfl) rfl ?_
  refine G.aload_n 35 1 dX9_product_35 rfl rfl ?_
  refine G.dup 36 dX9_product_36 rfl ?_
  refine G.geti 37 ck_9 21 (hs11.k k0_284) (by decide) (by decide +kernel) wd_1326 dX9_product_37 ?_
  refine G.iconst 40 (1 : Int32) dX9_product_40 (by decide +kernel) ?_
  refine G.iadd 41 dX9_product_41 ?_
  refine G.puti 42 ck_9 21 (hs11.k k0_284) (by decide) (by decide +kernel) rfl wd_1326 rfl rfl dX9_product_42 ?_
  refine G.aload_n 45 1 dX9_product_45 rfl rfl ?_
  obtain ⟨q17, e18, hf⟩ := bd_e hf
  refine G.cvI 46 (As := []) ck_9 ((St.i hs11).k k0_284) (c_X9_atom Z (St.i hs11) e18) mk_X9_atom vk_X9_atom rfl wd_1707 hR (by decide +kernel) ⟨rfl, rfl⟩ rfl (Nat.le_of_ble_eq_true rfl) dX9_product_46 (fun hs15 => ?_)
  refine G.istore_n 49 [(3, .int q17.1), (2, .int q13), (0, .ref (zs Z + 284)), (1, .int x1)] dX9_product_49 rfl (Nat.le_of_ble_eq_true rfl) rfl ?_
  refine G.iload_n 50 1 dX9_product_50 rfl rfl ?_
  refine G.bipush 51 (42 : Int32) dX9_product_51 (by decide +kernel) ?_
  refine G.icmp_ne 53 62 dX9_product_53 (by decide) (fun h19 => ?_) (fun h19 => ?_)
  · replace hf := (if_neg h19).symm.trans hf
    refine G.iload_n 62 0 dX9_product_62 rfl rfl ?_
    refine G.if_ne 63 70 dX9_product_63 (by decide) (fun h20 => ?_) (fun h20 => ?_)
    · replace hf := (if_neg h20).symm.trans hf
      refine G.iload_n 70 3 dX9_product_70 rfl rfl ?_
      refine G.iload_n 71 0 dX9_product_71 rfl rfl ?_
      obtain ⟨g21, hf⟩ := gd_e hf
      refine G.iremJ 72 dX9_product_72 g21 ?_
      refine G.istore_n 73 [(1, .int (jrem x1 q17.1)), (3, .int q17.1), (2, .int q13), (0, .ref (zs Z + 284))] dX9_product_73 rfl (Nat.le_of_ble_eq_true rfl) rfl ?_
      refine G.goto 74 5 dX9_product_74 (by decide) ?_
      refine G.locs [3, 0] rfl ?_
      exact hrc_5 (jrem x1 q17.1) q17.2 hs15 hf
    · replace hf := (if_pos h20).symm.trans hf
      refine G.iconst 66 (0 : Int32) dX9_product_66 (by decide +kernel) ?_
      refine G.goto 67 73 dX9_product_67 (by decide) ?_
      refine G.istore_n 73 [(1, .int (0 : Int32)), (3, .int q17.1), (2, .int q13), (0, .ref (zs Z + 284))] dX9_product_73 rfl (Nat.le_of_ble_eq_true rfl) rfl ?_
      refine G.goto 74 5 dX9_product_74 (by decide) ?_
      refine G.locs [3, 0] rfl ?_
      exact hrc_5 (0 : Int32) q17.2 hs15 hf
  · replace hf := (if_pos h19).symm.trans hf
    refine G.iload_n 56 3 dX9_product_56 rfl rfl ?_
    refine G.iload_n 57 0 dX9_product_57 rfl rfl ?_
    refine G.imul 58 dX9_product_58 ?_
    refine G.goto 59 73 dX9_product_59 (by decide) ?_
    refine G.istore_n 73 [(1, .int (x1 * q17.1)), (3, .int q17.1), (2, .int q13), (0, .ref (zs Z + 284))] dX9_product_73 rfl (Nat.le_of_ble_eq_true rfl) rfl ?_
    refine G.goto 74 5 dX9_product_74 (by decide) ?_
    refine G.locs [3, 0] rfl ?_
    exact hrc_5 (x1 * q17.1) q17.2 hs15 hf
set_option maxRecDepth 100000 in
set_option maxHeartbeats 4000000 in
theorem l_X9_product_5 (Z : Sys) (X : Cx) (hR : xR X = rm_X9_product) {q : Int32 × Mem} (hq : RetOk Z X (some .int) False (PostI q.1 q.2) 0 0) : ∀ (n : Nat) (x1 : Int32) (M : Mem) (hs : St M) (hf : L_X9_product_5 n x1 M = some q), G Z X Y_X9_product False 0 0 5 [(0, .ref (zs Z + 284)), (1, .int x1)] [] M := by
  intro n
  induction n with
  | zero => intro x1 M hs  hf; cases hf
  | succ n ih =>
    intro x1 M hs  hf
    unfold L_X9_product_5 at hf
    refine G.aload_n 5 0 dX9_product_5 rfl rfl ?_
    refine G.geti 6 ck_9 27 (hs.k k0_284) (by decide) (by decide +kernel) wd_1332 dX9_product_6 ?_
    refine G.if_eq 9 77 dX9_product_9 (by decide) (fun h5 => ?_) (fun h5 => ?_)
    · replace hf := (if_pos h5).symm.trans hf
      refine G.iload_n 77 1 dX9_product_77 rfl rfl ?_
      (have hf9 := Option.some.inj hf; subst hf9)
      exact G.rI 78 hq dX9_product_78 hs
    · replace hf := (if_neg h5).symm.trans hf
      refine G.aload_n 12 0 dX9_product_12 rfl rfl ?_
      obtain ⟨q8, e9, hf⟩ := bd_e hf
      refine G.cvI 13 (As := []) ck_9 (hs.k k0_284) (c_X9_sign Z hs e9) mk_X9_sign vk_X9_sign rfl wd_1673 hR (by decide +kernel) ⟨rfl, rfl⟩ rfl (Nat.le_of_ble_eq_true rfl) dX9_product_13 (fun hs6 => ?_)
      refine G.bipush 16 (42 : Int32) dX9_product_16 (by decide +kernel) ?_
      refine G.icmp_eq 18 30 dX9_product_18 (by decide) (fun h10 => ?_) (fun h10 => ?_)
      · replace hf := (if_pos h10).symm.trans hf
        exact b_X9_product_30 Z X hR hq (L_X9_product_5 n) ih x1 hs6 hf
      · replace hf := (if_neg h10).symm.trans hf
        refine G.aload_n 21 0 dX9_product_21 rfl rfl ?_
        obtain ⟨q24, e25, hf⟩ := bd_e hf
        refine G.cvI 22 (As := []) ck_9 (hs6.k k0_284) (c_X9_sign Z hs6 e25) mk_X9_sign vk_X9_sign rfl wd_1673 hR (by decide +kernel) ⟨rfl, rfl⟩ rfl (Nat.le_of_ble_eq_true rfl) dX9_product_22 (fun hs22 => ?_)
        refine G.bipush 25 (37 : Int32) dX9_product_25 (by decide +kernel) ?_
        refine G.icmp_ne 27 77 dX9_product_27 (by decide) (fun h26 => ?_) (fun h26 => ?_)
        · replace hf := (if_neg h26).symm.trans hf
          refine G.iload_n 77 1 dX9_product_77 rfl rfl ?_
          (have hf9 := Option.some.inj hf; subst hf9)
          exact G.rI 78 hq dX9_product_78 hs22
        · replace hf := (if_pos h26).symm.trans hf
          exact b_X9_product_30 Z X hR hq (L_X9_product_5 n) ih x1 hs22 hf
set_option maxRecDepth 100000 in
set_option maxHeartbeats 4000000 in
theorem c_X9_product (Z : Sys) {M : Mem} (hs : St M) {q : Int32 × Mem} (hf : f_X9_product M = some q) : Ct Z yX9_product cX9_product 4 (some .int) rm_X9_product [.ref (zs Z + 284)] M False (PostI q.1 q.2) := by
  refine Ct.of (by decide +kernel) (Nat.le_of_ble_eq_true rfl) (fun X hR hq _ => ?_)
  show G Z X Y_X9_product False 0 0 0 [(0, .ref (zs Z + 284))] [] M
  replace hq : RetOk Z X (some .int) False (PostI q.1 q.2) 0 0 := hq
  unfold f_X9_product at hf
  refine G.aload_n 0 0 dX9_product_0 rfl rfl ?_
  obtain ⟨q3, e4, hf⟩ := bd_e hf
  refine G.cvI 1 (As := []) ck_9 (hs.k k0_284) (c_X9_atom Z hs e4) mk_X9_atom vk_X9_atom rfl wd_1707 hR (by decide +kernel) ⟨rfl, rfl⟩ rfl (Nat.le_of_ble_eq_true rfl) dX9_product_1 (fun hs1 => ?_)
  refine G.istore_n 4 [(1, .int q3.1), (0, .ref (zs Z + 284))] dX9_product_4 rfl (Nat.le_of_ble_eq_true rfl) rfl ?_
  refine G.locs [1, 0] rfl ?_
  exact l_X9_product_5 Z X hR hq FU q3.1 q3.2 hs1 hf
abbrev Y_X9_sum_ : My := (cX9_sum_, RX9, 4)
def rm_X9_sum_ : Room := { frames := 6, cells := 0, slots := 0, locals := 310 }
theorem dX9_sum__0 : decode cX9_sum_ 0 = .ok (.aload_n 0, 1) := by decide +kernel
theorem dX9_sum__1 : decode cX9_sum_ 1 = .ok (.invokevirtual 259, 3) := by decide +kernel
theorem dX9_sum__4 : decode cX9_sum_ 4 = .ok (.istore_n 1, 1) := by decide +kernel
theorem dX9_sum__5 : decode cX9_sum_ 5 = .ok (.aload_n 0, 1) := by decide +kernel
theorem dX9_sum__6 : decode cX9_sum_ 6 = .ok (.getfield 230, 3) := by decide +kernel
theorem dX9_sum__9 : decode cX9_sum_ 9 = .ok (.ifCond .eq 60, 3) := by decide +kernel
theorem dX9_sum__12 : decode cX9_sum_ 12 = .ok (.aload_n 0, 1) := by decide +kernel
theorem dX9_sum__13 : decode cX9_sum_ 13 = .ok (.invokevirtual 234, 3) := by decide +kernel
theorem dX9_sum__16 : decode cX9_sum_ 16 = .ok (.bipush 43, 2) := by decide +kernel
theorem dX9_sum__18 : decode cX9_sum_ 18 = .ok (.if_icmp .eq 12, 3) := by decide +kernel
theorem dX9_sum__21 : decode cX9_sum_ 21 = .ok (.aload_n 0, 1) := by decide +kernel
theorem dX9_sum__22 : decode cX9_sum_ 22 = .ok (.invokevirtual 234, 3) := by decide +kernel
theorem dX9_sum__25 : decode cX9_sum_ 25 = .ok (.bipush 45, 2) := by decide +kernel
theorem dX9_sum__27 : decode cX9_sum_ 27 = .ok (.if_icmp .ne 42, 3) := by decide +kernel
theorem dX9_sum__30 : decode cX9_sum_ 30 = .ok (.aload_n 0, 1) := by decide +kernel
theorem dX9_sum__31 : decode cX9_sum_ 31 = .ok (.invokevirtual 234, 3) := by decide +kernel
theorem dX9_sum__34 : decode cX9_sum_ 34 = .ok (.istore_n 2, 1) := by decide +kernel
theorem dX9_sum__35 : decode cX9_sum_ 35 = .ok (.aload_n 0, 1) := by decide +kernel
theorem dX9_sum__36 : decode cX9_sum_ 36 = .ok (.dup, 1) := by decide +kernel
theorem dX9_sum__37 : decode cX9_sum_ 37 = .ok (.getfield 221, 3) := by decide +kernel
theorem dX9_sum__40 : decode cX9_sum_ 40 = .ok (.iconst 1, 1) := by decide +kernel
theorem dX9_sum__41 : decode cX9_sum_ 41 = .ok (.iadd, 1) := by decide +kernel
theorem dX9_sum__42 : decode cX9_sum_ 42 = .ok (.putfield 221, 3) := by decide +kernel
theorem dX9_sum__45 : decode cX9_sum_ 45 = .ok (.aload_n 0, 1) := by decide +kernel
theorem dX9_sum__46 : decode cX9_sum_ 46 = .ok (.invokevirtual 259, 3) := by decide +kernel
theorem dX9_sum__49 : decode cX9_sum_ 49 = .ok (.istore_n 3, 1) := by decide +kernel
theorem dX9_sum__50 : decode cX9_sum_ 50 = .ok (.iload_n 2, 1) := by decide +kernel
theorem dX9_sum__51 : decode cX9_sum_ 51 = .ok (.bipush 43, 2) := by decide +kernel
theorem dX9_sum__53 : decode cX9_sum_ 53 = .ok (.if_icmp .ne 9, 3) := by decide +kernel
theorem dX9_sum__56 : decode cX9_sum_ 56 = .ok (.iload_n 1, 1) := by decide +kernel
theorem dX9_sum__57 : decode cX9_sum_ 57 = .ok (.iload_n 3, 1) := by decide +kernel
theorem dX9_sum__58 : decode cX9_sum_ 58 = .ok (.iadd, 1) := by decide +kernel
theorem dX9_sum__59 : decode cX9_sum_ 59 = .ok (.goto 6, 3) := by decide +kernel
theorem dX9_sum__62 : decode cX9_sum_ 62 = .ok (.iload_n 1, 1) := by decide +kernel
theorem dX9_sum__63 : decode cX9_sum_ 63 = .ok (.iload_n 3, 1) := by decide +kernel
theorem dX9_sum__64 : decode cX9_sum_ 64 = .ok (.isub, 1) := by decide +kernel
theorem dX9_sum__65 : decode cX9_sum_ 65 = .ok (.istore_n 1, 1) := by decide +kernel
theorem dX9_sum__66 : decode cX9_sum_ 66 = .ok (.goto (-61), 3) := by decide +kernel
theorem dX9_sum__69 : decode cX9_sum_ 69 = .ok (.iload_n 1, 1) := by decide +kernel
theorem dX9_sum__70 : decode cX9_sum_ 70 = .ok (.ireturn, 1) := by decide +kernel
def B_X9_sum__30 (rc_5 : Int32 → Mem → Option (Int32 × Mem)) (x1 : Int32) (M : Mem) : Option (Int32 × Mem) := (f_X9_sign M).bind fun q13 => (f_X9_product (sI M 284 21 ((mI M 284 21) + (1 : Int32)))).bind fun q17 => if q13 = (43 : Int32) then rc_5 (x1 + q17.1) q17.2 else rc_5 (x1 - q17.1) q17.2
def L_X9_sum__5 : Nat → Int32 → Mem → Option (Int32 × Mem)
  | 0, _, _ => none
  | n + 1, x1, M => if (mI M 284 27) = 0 then some (x1, M) else (f_X9_sign M).bind fun q8 => if q8 = (43 : Int32) then B_X9_sum__30 (L_X9_sum__5 n) x1 M else (f_X9_sign M).bind fun q22 => if q22 = (45 : Int32) then B_X9_sum__30 (L_X9_sum__5 n) x1 M else some (x1, M)
def f_X9_sum_ (M : Mem) : Option (Int32 × Mem) := (f_X9_product M).bind fun q3 => L_X9_sum__5 FU q3.1 q3.2
set_option maxRecDepth 100000 in
set_option maxHeartbeats 4000000 in
theorem b_X9_sum__30 (Z : Sys) (X : Cx) (hR : xR X = rm_X9_sum_) {q : Int32 × Mem} (hq : RetOk Z X (some .int) False (PostI q.1 q.2) 0 0) (rc_5 : Int32 → Mem → Option (Int32 × Mem)) (hrc_5 : ∀ (x1 : Int32) (M : Mem), St M → rc_5 x1 M = some q → G Z X Y_X9_sum_ False 0 0 5 [(0, .ref (zs Z + 284)), (1, .int x1)] [] M) (x1 : Int32) {M : Mem} (hs : St M) (hf : B_X9_sum__30 rc_5 x1 M = some q) : G Z X Y_X9_sum_ False 0 0 30 [(0, .ref (zs Z + 284)), (1, .int x1)] [] M := by
  unfold B_X9_sum__30 at hf
  refine G.aload_n 30 0 dX9_sum__30 rfl rfl ?_
  obtain ⟨q13, e14, hf⟩ := bd_e hf
  refine G.cvI 31 (As := []) ck_9 (hs.k k0_284) (c_X9_sign Z hs e14) mk_X9_sign vk_X9_sign rfl wd_1673 hR (by decide +kernel) ⟨rfl, rfl⟩ rfl (Nat.le_of_ble_eq_true rfl) dX9_sum__31 (fun hs11 => ?_)
  refine G.istore_n 34 [(2, .int q13), (0, .ref (zs Z + 284)), (1, .int x1)] dX9_sum__34 rfl (Nat.le_of_ble_eq_true rfl) rfl ?_
  refine G.aload_n 35 1 dX9_sum__35 rfl rfl ?_
  refine G.dup 36 dX9_sum__36 rfl ?_
  refine G.geti 37 ck_9 21 (hs11.k k0_284) (by decide) (by decide +kernel) wd_1326 dX9_sum__37 ?_
  refine G.iconst 40 (1 : Int32) dX9_sum__40 (by decide +kernel) ?_
  refine G.iadd 41 dX9_sum__41 ?_
  refine G.puti 42 ck_9 21 (hs11.k k0_284) (by decide) (by decide +kernel) rfl wd_1326 rfl rfl dX9_sum__42 ?_
  refine G.aload_n 45 1 dX9_sum__45 rfl rfl ?_
  obtain ⟨q17, e18, hf⟩ := bd_e hf
  refine G.cvI 46 (As := []) ck_9 ((St.i hs11).k k0_284) (c_X9_product Z (St.i hs11) e18) mk_X9_product vk_X9_product rfl wd_1703 hR (by decide +kernel) ⟨rfl, rfl⟩ rfl (Nat.le_of_ble_eq_true rfl) dX9_sum__46 (fun hs15 => ?_)
  refine G.istore_n 49 [(3, .int q17.1), (2, .int q13), (0, .ref (zs Z + 284)), (1, .int x1)] dX9_sum__49 rfl (Nat.le_of_ble_eq_true rfl) rfl ?_
  refine G.iload_n 50 1 dX9_sum__50 rfl rfl ?_
  refine G.bipush 51 (43 : Int32) dX9_sum__51 (by decide +kernel) ?_
  refine G.icmp_ne 53 62 dX9_sum__53 (by decide) (fun h19 => ?_) (fun h19 => ?_)
  · replace hf := (if_neg h19).symm.trans hf
    refine G.iload_n 62 3 dX9_sum__62 rfl rfl ?_
    refine G.iload_n 63 0 dX9_sum__63 rfl rfl ?_
    refine G.isub 64 dX9_sum__64 ?_
    refine G.istore_n 65 [(1, .int (x1 - q17.1)), (3, .int q17.1), (2, .int q13), (0, .ref (zs Z + 284))] dX9_sum__65 rfl (Nat.le_of_ble_eq_true rfl) rfl ?_
    refine G.goto 66 5 dX9_sum__66 (by decide) ?_
    refine G.locs [3, 0] rfl ?_
    exact hrc_5 (x1 - q17.1) q17.2 hs15 hf
  · replace hf := (if_pos h19).symm.trans hf
    refine G.iload_n 56 3 dX9_sum__56 rfl rfl ?_
    refine G.iload_n 57 0 dX9_sum__57 rfl rfl ?_
    refine G.iadd 58 dX9_sum__58 ?_
    refine G.goto 59 65 dX9_sum__59 (by decide) ?_
    refine G.istore_n 65 [(1, .int (x1 + q17.1)), (3, .int q17.1), (2, .int q13), (0, .ref (zs Z + 284))] dX9_sum__65 rfl (Nat.le_of_ble_eq_true rfl) rfl ?_
    refine G.goto 66 5 dX9_sum__66 (by decide) ?_
    refine G.locs [3, 0] rfl ?_
    exact hrc_5 (x1 + q17.1) q17.2 hs15 hf
set_option maxRecDepth 100000 in
set_option maxHeartbeats 4000000 in
theorem l_X9_sum__5 (Z : Sys) (X : Cx) (hR : xR X = rm_X9_sum_) {q : Int32 × Mem} (hq : RetOk Z X (some .int) False (PostI q.1 q.2) 0 0) : ∀ (n : Nat) (x1 : Int32) (M : Mem) (hs : St M) (hf : L_X9_sum__5 n x1 M = some q), G Z X Y_X9_sum_ False 0 0 5 [(0, .ref (zs Z + 284)), (1, .int x1)] [] M := by
  intro n
  induction n with
  | zero => intro x1 M hs  hf; cases hf
  | succ n ih =>
    intro x1 M hs  hf
    unfold L_X9_sum__5 at hf
    refine G.aload_n 5 0 dX9_sum__5 rfl rfl ?_
    refine G.geti 6 ck_9 27 (hs.k k0_284) (by decide) (by decide +kernel) wd_1332 dX9_sum__6 ?_
    refine G.if_eq 9 69 dX9_sum__9 (by decide) (fun h5 => ?_) (fun h5 => ?_)
    · replace hf := (if_pos h5).symm.trans hf
      refine G.iload_n 69 1 dX9_sum__69 rfl rfl ?_
      (have hf9 := Option.some.inj hf; subst hf9)
      exact G.rI 70 hq dX9_sum__70 hs
    · replace hf := (if_neg h5).symm.trans hf
      refine G.aload_n 12 0 dX9_sum__12 rfl rfl ?_
      obtain ⟨q8, e9, hf⟩ := bd_e hf
      refine G.cvI 13 (As := []) ck_9 (hs.k k0_284) (c_X9_sign Z hs e9) mk_X9_sign vk_X9_sign rfl wd_1673 hR (by decide +kernel) ⟨rfl, rfl⟩ rfl (Nat.le_of_ble_eq_true rfl) dX9_sum__13 (fun hs6 => ?_)
      refine G.bipush 16 (43 : Int32) dX9_sum__16 (by decide +kernel) ?_
      refine G.icmp_eq 18 30 dX9_sum__18 (by decide) (fun h10 => ?_) (fun h10 => ?_)
      · replace hf := (if_pos h10).symm.trans hf
        exact b_X9_sum__30 Z X hR hq (L_X9_sum__5 n) ih x1 hs6 hf
      · replace hf := (if_neg h10).symm.trans hf
        refine G.aload_n 21 0 dX9_sum__21 rfl rfl ?_
        obtain ⟨q22, e23, hf⟩ := bd_e hf
        refine G.cvI 22 (As := []) ck_9 (hs6.k k0_284) (c_X9_sign Z hs6 e23) mk_X9_sign vk_X9_sign rfl wd_1673 hR (by decide +kernel) ⟨rfl, rfl⟩ rfl (Nat.le_of_ble_eq_true rfl) dX9_sum__22 (fun hs20 => ?_)
        refine G.bipush 25 (45 : Int32) dX9_sum__25 (by decide +kernel) ?_
        refine G.icmp_ne 27 69 dX9_sum__27 (by decide) (fun h24 => ?_) (fun h24 => ?_)
        · replace hf := (if_neg h24).symm.trans hf
          refine G.iload_n 69 1 dX9_sum__69 rfl rfl ?_
          (have hf9 := Option.some.inj hf; subst hf9)
          exact G.rI 70 hq dX9_sum__70 hs20
        · replace hf := (if_pos h24).symm.trans hf
          exact b_X9_sum__30 Z X hR hq (L_X9_sum__5 n) ih x1 hs20 hf
set_option maxRecDepth 100000 in
set_option maxHeartbeats 4000000 in
theorem c_X9_sum_ (Z : Sys) {M : Mem} (hs : St M) {q : Int32 × Mem} (hf : f_X9_sum_ M = some q) : Ct Z yX9_sum_ cX9_sum_ 4 (some .int) rm_X9_sum_ [.ref (zs Z + 284)] M False (PostI q.1 q.2) := by
  refine Ct.of (by decide +kernel) (Nat.le_of_ble_eq_true rfl) (fun X hR hq _ => ?_)
  show G Z X Y_X9_sum_ False 0 0 0 [(0, .ref (zs Z + 284))] [] M
  replace hq : RetOk Z X (some .int) False (PostI q.1 q.2) 0 0 := hq
  unfold f_X9_sum_ at hf
  refine G.aload_n 0 0 dX9_sum__0 rfl rfl ?_
  obtain ⟨q3, e4, hf⟩ := bd_e hf
  refine G.cvI 1 (As := []) ck_9 (hs.k k0_284) (c_X9_product Z hs e4) mk_X9_product vk_X9_product rfl wd_1703 hR (by decide +kernel) ⟨rfl, rfl⟩ rfl (Nat.le_of_ble_eq_true rfl) dX9_sum__1 (fun hs1 => ?_)
  refine G.istore_n 4 [(1, .int q3.1), (0, .ref (zs Z + 284))] dX9_sum__4 rfl (Nat.le_of_ble_eq_true rfl) rfl ?_
  refine G.locs [1, 0] rfl ?_
  exact l_X9_sum__5 Z X hR hq FU q3.1 q3.2 hs1 hf
abbrev Y_X9_test : My := (cX9_test, RX9, 4)
theorem dX9_test_0 : decode cX9_test 0 = .ok (.aload_n 0, 1) := by decide +kernel
theorem dX9_test_1 : decode cX9_test 1 = .ok (.getfield 230, 3) := by decide +kernel
theorem dX9_test_4 : decode cX9_test 4 = .ok (.ifCond .ne 5, 3) := by decide +kernel
theorem dX9_test_7 : decode cX9_test 7 = .ok (.iconst 0, 1) := by decide +kernel
theorem dX9_test_8 : decode cX9_test 8 = .ok (.ireturn, 1) := by decide +kernel
theorem dX9_test_9 : decode cX9_test 9 = .ok (.aload_n 0, 1) := by decide +kernel
theorem dX9_test_10 : decode cX9_test 10 = .ok (.bipush 33, 2) := by decide +kernel
theorem dX9_test_12 : decode cX9_test 12 = .ok (.invokevirtual 241, 3) := by decide +kernel
theorem dX9_test_15 : decode cX9_test 15 = .ok (.ifCond .eq 16, 3) := by decide +kernel
theorem dX9_test_18 : decode cX9_test 18 = .ok (.aload_n 0, 1) := by decide +kernel
theorem dX9_test_19 : decode cX9_test 19 = .ok (.invokevirtual 244, 3) := by decide +kernel
theorem dX9_test_22 : decode cX9_test 22 = .ok (.ifCond .ne 7, 3) := by decide +kernel
theorem dX9_test_25 : decode cX9_test 25 = .ok (.iconst 1, 1) := by decide +kernel
theorem dX9_test_26 : decode cX9_test 26 = .ok (.goto 4, 3) := by decide +kernel
theorem dX9_test_29 : decode cX9_test 29 = .ok (.iconst 0, 1) := by decide +kernel
theorem dX9_test_30 : decode cX9_test 30 = .ok (.ireturn, 1) := by decide +kernel
theorem dX9_test_31 : decode cX9_test 31 = .ok (.aload_n 0, 1) := by decide +kernel
theorem dX9_test_32 : decode cX9_test 32 = .ok (.invokevirtual 234, 3) := by decide +kernel
theorem dX9_test_35 : decode cX9_test 35 = .ok (.bipush 40, 2) := by decide +kernel
theorem dX9_test_37 : decode cX9_test 37 = .ok (.if_icmp .ne 68, 3) := by decide +kernel
theorem dX9_test_40 : decode cX9_test 40 = .ok (.aload_n 0, 1) := by decide +kernel
theorem dX9_test_41 : decode cX9_test 41 = .ok (.getfield 247, 3) := by decide +kernel
theorem dX9_test_44 : decode cX9_test 44 = .ok (.bipush 8, 2) := by decide +kernel
theorem dX9_test_46 : decode cX9_test 46 = .ok (.if_icmp .ne 8, 3) := by decide +kernel
theorem dX9_test_49 : decode cX9_test 49 = .ok (.aload_n 0, 1) := by decide +kernel
theorem dX9_test_50 : decode cX9_test 50 = .ok (.invokevirtual 250, 3) := by decide +kernel
theorem dX9_test_53 : decode cX9_test 53 = .ok (.ireturn, 1) := by decide +kernel
theorem dX9_test_54 : decode cX9_test 54 = .ok (.aload_n 0, 1) := by decide +kernel
theorem dX9_test_55 : decode cX9_test 55 = .ok (.dup, 1) := by decide +kernel
theorem dX9_test_56 : decode cX9_test 56 = .ok (.getfield 221, 3) := by decide +kernel
theorem dX9_test_59 : decode cX9_test 59 = .ok (.iconst 1, 1) := by decide +kernel
theorem dX9_test_60 : decode cX9_test 60 = .ok (.iadd, 1) := by decide +kernel
theorem dX9_test_61 : decode cX9_test 61 = .ok (.putfield 221, 3) := by decide +kernel
theorem dX9_test_64 : decode cX9_test 64 = .ok (.aload_n 0, 1) := by decide +kernel
theorem dX9_test_65 : decode cX9_test 65 = .ok (.dup, 1) := by decide +kernel
theorem dX9_test_66 : decode cX9_test 66 = .ok (.getfield 247, 3) := by decide +kernel
theorem dX9_test_69 : decode cX9_test 69 = .ok (.iconst 1, 1) := by decide +kernel
theorem dX9_test_70 : decode cX9_test 70 = .ok (.iadd, 1) := by decide +kernel
theorem dX9_test_71 : decode cX9_test 71 = .ok (.putfield 247, 3) := by decide +kernel
theorem dX9_test_74 : decode cX9_test 74 = .ok (.aload_n 0, 1) := by decide +kernel
theorem dX9_test_75 : decode cX9_test 75 = .ok (.invokevirtual 253, 3) := by decide +kernel
theorem dX9_test_78 : decode cX9_test 78 = .ok (.istore_n 1, 1) := by decide +kernel
theorem dX9_test_79 : decode cX9_test 79 = .ok (.aload_n 0, 1) := by decide +kernel
theorem dX9_test_80 : decode cX9_test 80 = .ok (.bipush 41, 2) := by decide +kernel
theorem dX9_test_82 : decode cX9_test 82 = .ok (.invokevirtual 241, 3) := by decide +kernel
theorem dX9_test_85 : decode cX9_test 85 = .ok (.ifCond .ne 8, 3) := by decide +kernel
theorem dX9_test_88 : decode cX9_test 88 = .ok (.aload_n 0, 1) := by decide +kernel
theorem dX9_test_89 : decode cX9_test 89 = .ok (.invokevirtual 250, 3) := by decide +kernel
theorem dX9_test_92 : decode cX9_test 92 = .ok (.ireturn, 1) := by decide +kernel
theorem dX9_test_93 : decode cX9_test 93 = .ok (.aload_n 0, 1) := by decide +kernel
theorem dX9_test_94 : decode cX9_test 94 = .ok (.dup, 1) := by decide +kernel
theorem dX9_test_95 : decode cX9_test 95 = .ok (.getfield 247, 3) := by decide +kernel
theorem dX9_test_98 : decode cX9_test 98 = .ok (.iconst 1, 1) := by decide +kernel
theorem dX9_test_99 : decode cX9_test 99 = .ok (.isub, 1) := by decide +kernel
theorem dX9_test_100 : decode cX9_test 100 = .ok (.putfield 247, 3) := by decide +kernel
theorem dX9_test_103 : decode cX9_test 103 = .ok (.iload_n 1, 1) := by decide +kernel
theorem dX9_test_104 : decode cX9_test 104 = .ok (.ireturn, 1) := by decide +kernel
theorem dX9_test_105 : decode cX9_test 105 = .ok (.aload_n 0, 1) := by decide +kernel
theorem dX9_test_106 : decode cX9_test 106 = .ok (.invokevirtual 256, 3) := by decide +kernel
theorem dX9_test_109 : decode cX9_test 109 = .ok (.istore_n 1, 1) := by decide +kernel
theorem dX9_test_110 : decode cX9_test 110 = .ok (.aload_n 0, 1) := by decide +kernel
theorem dX9_test_111 : decode cX9_test 111 = .ok (.invokevirtual 234, 3) := by decide +kernel
theorem dX9_test_114 : decode cX9_test 114 = .ok (.istore_n 2, 1) := by decide +kernel
theorem dX9_test_115 : decode cX9_test 115 = .ok (.aload_n 0, 1) := by decide +kernel
theorem dX9_test_116 : decode cX9_test 116 = .ok (.getfield 230, 3) := by decide +kernel
theorem dX9_test_119 : decode cX9_test 119 = .ok (.ifCond .eq 21, 3) := by decide +kernel
theorem dX9_test_122 : decode cX9_test 122 = .ok (.iload_n 2, 1) := by decide +kernel
theorem dX9_test_123 : decode cX9_test 123 = .ok (.bipush 60, 2) := by decide +kernel
theorem dX9_test_125 : decode cX9_test 125 = .ok (.if_icmp .eq 20, 3) := by decide +kernel
theorem dX9_test_128 : decode cX9_test 128 = .ok (.iload_n 2, 1) := by decide +kernel
theorem dX9_test_129 : decode cX9_test 129 = .ok (.bipush 62, 2) := by decide +kernel
theorem dX9_test_131 : decode cX9_test 131 = .ok (.if_icmp .eq 14, 3) := by decide +kernel
theorem dX9_test_134 : decode cX9_test 134 = .ok (.iload_n 2, 1) := by decide +kernel
theorem dX9_test_135 : decode cX9_test 135 = .ok (.bipush 61, 2) := by decide +kernel
theorem dX9_test_137 : decode cX9_test 137 = .ok (.if_icmp .eq 8, 3) := by decide +kernel
theorem dX9_test_140 : decode cX9_test 140 = .ok (.aload_n 0, 1) := by decide +kernel
theorem dX9_test_141 : decode cX9_test 141 = .ok (.invokevirtual 250, 3) := by decide +kernel
theorem dX9_test_144 : decode cX9_test 144 = .ok (.ireturn, 1) := by decide +kernel
theorem dX9_test_145 : decode cX9_test 145 = .ok (.aload_n 0, 1) := by decide +kernel
theorem dX9_test_146 : decode cX9_test 146 = .ok (.dup, 1) := by decide +kernel
theorem dX9_test_147 : decode cX9_test 147 = .ok (.getfield 221, 3) := by decide +kernel
theorem dX9_test_150 : decode cX9_test 150 = .ok (.iconst 1, 1) := by decide +kernel
theorem dX9_test_151 : decode cX9_test 151 = .ok (.iadd, 1) := by decide +kernel
theorem dX9_test_152 : decode cX9_test 152 = .ok (.putfield 221, 3) := by decide +kernel
theorem dX9_test_155 : decode cX9_test 155 = .ok (.aload_n 0, 1) := by decide +kernel
theorem dX9_test_156 : decode cX9_test 156 = .ok (.invokevirtual 256, 3) := by decide +kernel
theorem dX9_test_159 : decode cX9_test 159 = .ok (.istore_n 3, 1) := by decide +kernel
theorem dX9_test_160 : decode cX9_test 160 = .ok (.iload_n 2, 1) := by decide +kernel
theorem dX9_test_161 : decode cX9_test 161 = .ok (.bipush 60, 2) := by decide +kernel
theorem dX9_test_163 : decode cX9_test 163 = .ok (.if_icmp .ne 16, 3) := by decide +kernel
theorem dX9_test_166 : decode cX9_test 166 = .ok (.iload_n 1, 1) := by decide +kernel
theorem dX9_test_167 : decode cX9_test 167 = .ok (.iload_n 3, 1) := by decide +kernel
theorem dX9_test_168 : decode cX9_test 168 = .ok (.if_icmp .ge 7, 3) := by decide +kernel
theorem dX9_test_171 : decode cX9_test 171 = .ok (.iconst 1, 1) := by decide +kernel
theorem dX9_test_172 : decode cX9_test 172 = .ok (.goto 36, 3) := by decide +kernel
theorem dX9_test_175 : decode cX9_test 175 = .ok (.iconst 0, 1) := by decide +kernel
theorem dX9_test_176 : decode cX9_test 176 = .ok (.goto 32, 3) := by decide +kernel
theorem dX9_test_179 : decode cX9_test 179 = .ok (.iload_n 2, 1) := by decide +kernel
theorem dX9_test_180 : decode cX9_test 180 = .ok (.bipush 62, 2) := by decide +kernel
theorem dX9_test_182 : decode cX9_test 182 = .ok (.if_icmp .ne 16, 3) := by decide +kernel
theorem dX9_test_185 : decode cX9_test 185 = .ok (.iload_n 1, 1) := by decide +kernel
theorem dX9_test_186 : decode cX9_test 186 = .ok (.iload_n 3, 1) := by decide +kernel
theorem dX9_test_187 : decode cX9_test 187 = .ok (.if_icmp .le 7, 3) := by decide +kernel
theorem dX9_test_190 : decode cX9_test 190 = .ok (.iconst 1, 1) := by decide +kernel
theorem dX9_test_191 : decode cX9_test 191 = .ok (.goto 17, 3) := by decide +kernel
theorem dX9_test_194 : decode cX9_test 194 = .ok (.iconst 0, 1) := by decide +kernel
theorem dX9_test_195 : decode cX9_test 195 = .ok (.goto 13, 3) := by decide +kernel
theorem dX9_test_198 : decode cX9_test 198 = .ok (.iload_n 1, 1) := by decide +kernel
theorem dX9_test_199 : decode cX9_test 199 = .ok (.iload_n 3, 1) := by decide +kernel
theorem dX9_test_200 : decode cX9_test 200 = .ok (.if_icmp .ne 7, 3) := by decide +kernel
theorem dX9_test_203 : decode cX9_test 203 = .ok (.iconst 1, 1) := by decide +kernel
theorem dX9_test_204 : decode cX9_test 204 = .ok (.goto 4, 3) := by decide +kernel
theorem dX9_test_207 : decode cX9_test 207 = .ok (.iconst 0, 1) := by decide +kernel
theorem dX9_test_208 : decode cX9_test 208 = .ok (.ireturn, 1) := by decide +kernel
def B_X9_test_140 (rec : Nat → Mem → Option (Int32 × Mem)) (M : Mem) : Option (Int32 × Mem) := (f_X9_breaks M).bind fun q23 => some (q23.1, q23.2)
def B_X9_test_145 (rec : Nat → Mem → Option (Int32 × Mem)) (x1 : Int32) (x2 : Int32) (M : Mem) : Option (Int32 × Mem) := (f_X9_sum_ (sI M 284 21 ((mI M 284 21) + (1 : Int32)))).bind fun q28 => if x2 = (60 : Int32) then if q28.1 ≤ x1 then some ((0 : Int32), q28.2) else some ((1 : Int32), q28.2) else if x2 = (62 : Int32) then if x1 ≤ q28.1 then some ((0 : Int32), q28.2) else some ((1 : Int32), q28.2) else if x1 = q28.1 then some ((1 : Int32), q28.2) else some ((0 : Int32), q28.2)
def f_X9_test (rec : Nat → Mem → Option (Int32 × Mem)) (M : Mem) : Option (Int32 × Mem) := if (mI M 284 27) = 0 then some ((0 : Int32), M) else (f_X9_takes (33 : Int32) M).bind fun q4 => if q4.1 = 0 then (f_X9_sign q4.2).bind fun q9 => if q9 = (40 : Int32) then if (mI q4.2 284 24) = (8 : Int32) then (f_X9_breaks q4.2).bind fun q53 => some (q53.1, q53.2) else (rec 0 (sI (sI q4.2 284 21 ((mI q4.2 284 21) + (1 : Int32))) 284 24 ((mI (sI q4.2 284 21 ((mI q4.2 284 21) + (1 : Int32))) 284 24) + (1 : Int32)))).bind fun q40 => (f_X9_takes (41 : Int32) q40.2).bind fun q44 => if q44.1 = 0 then (f_X9_breaks q44.2).bind fun q49 => some (q49.1, q49.2) else some (q40.1, (sI q44.2 284 24 ((mI q44.2 284 24) - (1 : Int32)))) else (f_X9_sum_ q4.2).bind fun q14 => (f_X9_sign q14.2).bind fun q18 => if (mI q14.2 284 27) = 0 then B_X9_test_140 rec q14.2 else if q18 = (60 : Int32) then B_X9_test_145 rec q14.1 q18 q14.2 else if q18 = (62 : Int32) then B_X9_test_145 rec q14.1 q18 q14.2 else if q18 = (61 : Int32) then B_X9_test_145 rec q14.1 q18 q14.2 else B_X9_test_140 rec q14.2 else (rec 2 q4.2).bind fun q57 => if q57.1 = 0 then some ((1 : Int32), q57.2) else some ((0 : Int32), q57.2)
set_option maxRecDepth 100000 in
set_option maxHeartbeats 4000000 in
theorem b_X9_test_140 (Z : Sys) (X : Cx) (d : Nat) (hR : xR X = (rmP (d + 1))) (rec : Nat → Mem → Option (Int32 × Mem)) (hrec : RecOk Z d rec) {q : Int32 × Mem} (hq : RetOk Z X (some .boolean) False (PostZ q.1 q.2) 0 0) {M : Mem} (hs : St M) (hf : B_X9_test_140 rec M = some q) : G Z X Y_X9_test False 0 0 140 [(0, .ref (zs Z + 284))] [] M := by
  unfold B_X9_test_140 at hf
  refine G.aload_n 140 0 dX9_test_140 rfl rfl ?_
  obtain ⟨q23, e24, hf⟩ := bd_e hf
  refine G.cvZ 141 (As := []) ck_9 (hs.k k0_284) (c_X9_breaks Z hs e24) mk_X9_breaks vk_X9_breaks rfl wd_1695 hR (rmP_c (by decide +kernel)) ⟨rfl, rfl⟩ rfl (Nat.le_of_ble_eq_true rfl) dX9_test_141 (fun hs21 z22 => ?_)
  (have hf9 := Option.some.inj hf; subst hf9)
  exact G.rZ 144 hq dX9_test_144 hs21 z22
set_option maxRecDepth 100000 in
set_option maxHeartbeats 4000000 in
theorem b_X9_test_145 (Z : Sys) (X : Cx) (d : Nat) (hR : xR X = (rmP (d + 1))) (rec : Nat → Mem → Option (Int32 × Mem)) (hrec : RecOk Z d rec) {q : Int32 × Mem} (hq : RetOk Z X (some .boolean) False (PostZ q.1 q.2) 0 0) (x1 : Int32) (x2 : Int32) {M : Mem} (hs : St M) (hf : B_X9_test_145 rec x1 x2 M = some q) : G Z X Y_X9_test False 0 0 145 [(0, .ref (zs Z + 284)), (1, .int x1), (2, .int x2)] [] M := by
  unfold B_X9_test_145 at hf
  refine G.aload_n 145 0 dX9_test_145 rfl rfl ?_
  refine G.dup 146 dX9_test_146 rfl ?_
  refine G.geti 147 ck_9 21 (hs.k k0_284) (by decide) (by decide +kernel) wd_1326 dX9_test_147 ?_
  refine G.iconst 150 (1 : Int32) dX9_test_150 (by decide +kernel) ?_
  refine G.iadd 151 dX9_test_151 ?_
  refine G.puti 152 ck_9 21 (hs.k k0_284) (by decide) (by decide +kernel) rfl wd_1326 rfl rfl dX9_test_152 ?_
  refine G.aload_n 155 0 dX9_test_155 rfl rfl ?_
  obtain ⟨q28, e29, hf⟩ := bd_e hf
  refine G.cvI 156 (As := []) ck_9 ((St.i hs).k k0_284) (c_X9_sum_ Z (St.i hs) e29) mk_X9_sum_ vk_X9_sum_ rfl wd_1699 hR (rmP_c (by decide +kernel)) ⟨rfl, rfl⟩ rfl (Nat.le_of_ble_eq_true rfl) dX9_test_156 (fun hs26 => ?_)
  refine G.istore_n 159 [(3, .int q28.1), (0, .ref (zs Z + 284)), (1, .int x1), (2, .int x2)] dX9_test_159 rfl (Nat.le_of_ble_eq_true rfl) rfl ?_
  refine G.iload_n 160 3 dX9_test_160 rfl rfl ?_
  refine G.bipush 161 (60 : Int32) dX9_test_161 (by decide +kernel) ?_
  refine G.icmp_ne 163 179 dX9_test_163 (by decide) (fun h30 => ?_) (fun h30 => ?_)
  · replace hf := (if_neg h30).symm.trans hf
    refine G.iload_n 179 3 dX9_test_179 rfl rfl ?_
    refine G.bipush 180 (62 : Int32) dX9_test_180 (by decide +kernel) ?_
    refine G.icmp_ne 182 198 dX9_test_182 (by decide) (fun h31 => ?_) (fun h31 => ?_)
    · replace hf := (if_neg h31).symm.trans hf
      refine G.iload_n 198 2 dX9_test_198 rfl rfl ?_
      refine G.iload_n 199 0 dX9_test_199 rfl rfl ?_
      refine G.icmp_ne 200 207 dX9_test_200 (by decide) (fun h32 => ?_) (fun h32 => ?_)
      · replace hf := (if_neg h32).symm.trans hf
        refine G.iconst 207 (0 : Int32) dX9_test_207 (by decide +kernel) ?_
        (have hf9 := Option.some.inj hf; subst hf9)
        exact G.rZ 208 hq dX9_test_208 hs26 (Or.inl rfl)
      · replace hf := (if_pos h32).symm.trans hf
        refine G.iconst 203 (1 : Int32) dX9_test_203 (by decide +kernel) ?_
        refine G.goto 204 208 dX9_test_204 (by decide) ?_
        (have hf9 := Option.some.inj hf; subst hf9)
        exact G.rZ 208 hq dX9_test_208 hs26 (Or.inr rfl)
    · replace hf := (if_pos h31).symm.trans hf
      refine G.iload_n 185 2 dX9_test_185 rfl rfl ?_
      refine G.iload_n 186 0 dX9_test_186 rfl rfl ?_
      refine G.icmp_le 187 194 dX9_test_187 (by decide) (fun h33 => ?_) (fun h33 => ?_)
      · replace hf := (if_pos h33).symm.trans hf
        refine G.iconst 194 (0 : Int32) dX9_test_194 (by decide +kernel) ?_
        refine G.goto 195 208 dX9_test_195 (by decide) ?_
        (have hf9 := Option.some.inj hf; subst hf9)
        exact G.rZ 208 hq dX9_test_208 hs26 (Or.inl rfl)
      · replace hf := (if_neg h33).symm.trans hf
        refine G.iconst 190 (1 : Int32) dX9_test_190 (by decide +kernel) ?_
        refine G.goto 191 208 dX9_test_191 (by decide) ?_
        (have hf9 := Option.some.inj hf; subst hf9)
        exact G.rZ 208 hq dX9_test_208 hs26 (Or.inr rfl)
  · replace hf := (if_pos h30).symm.trans hf
    refine G.iload_n 166 2 dX9_test_166 rfl rfl ?_
    refine G.iload_n 167 0 dX9_test_167 rfl rfl ?_
    refine G.icmp_ge 168 175 dX9_test_168 (by decide) (fun h34 => ?_) (fun h34 => ?_)
    · replace hf := (if_pos h34).symm.trans hf
      refine G.iconst 175 (0 : Int32) dX9_test_175 (by decide +kernel) ?_
      refine G.goto 176 208 dX9_test_176 (by decide) ?_
      (have hf9 := Option.some.inj hf; subst hf9)
      exact G.rZ 208 hq dX9_test_208 hs26 (Or.inl rfl)
    · replace hf := (if_neg h34).symm.trans hf
      refine G.iconst 171 (1 : Int32) dX9_test_171 (by decide +kernel) ?_
      refine G.goto 172 208 dX9_test_172 (by decide) ?_
      (have hf9 := Option.some.inj hf; subst hf9)
      exact G.rZ 208 hq dX9_test_208 hs26 (Or.inr rfl)
set_option maxRecDepth 100000 in
set_option maxHeartbeats 4000000 in
theorem c_X9_test (Z : Sys) (d : Nat) (rec : Nat → Mem → Option (Int32 × Mem)) (hrec : RecOk Z d rec) {M : Mem} (hs : St M) {q : Int32 × Mem} (hf : f_X9_test rec M = some q) : Ct Z yX9_test cX9_test 4 (some .boolean) (rmP (d + 1)) [.ref (zs Z + 284)] M False (PostZ q.1 q.2) := by
  refine Ct.of (by decide +kernel) (Nat.le_of_ble_eq_true rfl) (fun X hR hq _ => ?_)
  show G Z X Y_X9_test False 0 0 0 [(0, .ref (zs Z + 284))] [] M
  replace hq : RetOk Z X (some .boolean) False (PostZ q.1 q.2) 0 0 := hq
  unfold f_X9_test at hf
  refine G.aload_n 0 0 dX9_test_0 rfl rfl ?_
  refine G.geti 1 ck_9 27 (hs.k k0_284) (by decide) (by decide +kernel) wd_1332 dX9_test_1 ?_
  refine G.if_ne 4 9 dX9_test_4 (by decide) (fun h1 => ?_) (fun h1 => ?_)
  · replace hf := (if_neg h1).symm.trans hf
    refine G.aload_n 9 0 dX9_test_9 rfl rfl ?_
    refine G.bipush 10 (33 : Int32) dX9_test_10 (by decide +kernel) ?_
    obtain ⟨q4, e5, hf⟩ := bd_e hf
    refine G.cvZ 12 (As := [.int (33 : Int32)]) ck_9 (hs.k k0_284) (c_X9_takes Z hs (33 : Int32) e5) mk_X9_takes vk_X9_takes rfl wd_1679 hR (rmP_c (by decide +kernel)) ⟨rfl, rfl⟩ rfl (Nat.le_of_ble_eq_true rfl) dX9_test_12 (fun hs2 z3 => ?_)
    refine G.if_eq 15 31 dX9_test_15 (by decide) (fun h6 => ?_) (fun h6 => ?_)
    · replace hf := (if_pos h6).symm.trans hf
      refine G.aload_n 31 0 dX9_test_31 rfl rfl ?_
      obtain ⟨q9, e10, hf⟩ := bd_e hf
      refine G.cvI 32 (As := []) ck_9 (hs2.k k0_284) (c_X9_sign Z hs2 e10) mk_X9_sign vk_X9_sign rfl wd_1673 hR (rmP_c (by decide +kernel)) ⟨rfl, rfl⟩ rfl (Nat.le_of_ble_eq_true rfl) dX9_test_32 (fun hs7 => ?_)
      refine G.bipush 35 (40 : Int32) dX9_test_35 (by decide +kernel) ?_
      refine G.icmp_ne 37 105 dX9_test_37 (by decide) (fun h11 => ?_) (fun h11 => ?_)
      · replace hf := (if_neg h11).symm.trans hf
        refine G.aload_n 105 0 dX9_test_105 rfl rfl ?_
        obtain ⟨q14, e15, hf⟩ := bd_e hf
        refine G.cvI 106 (As := []) ck_9 (hs7.k k0_284) (c_X9_sum_ Z hs7 e15) mk_X9_sum_ vk_X9_sum_ rfl wd_1699 hR (rmP_c (by decide +kernel)) ⟨rfl, rfl⟩ rfl (Nat.le_of_ble_eq_true rfl) dX9_test_106 (fun hs12 => ?_)
        refine G.istore_n 109 [(1, .int q14.1), (0, .ref (zs Z + 284))] dX9_test_109 rfl (Nat.le_of_ble_eq_true rfl) rfl ?_
        refine G.aload_n 110 1 dX9_test_110 rfl rfl ?_
        obtain ⟨q18, e19, hf⟩ := bd_e hf
        refine G.cvI 111 (As := []) ck_9 (hs12.k k0_284) (c_X9_sign Z hs12 e19) mk_X9_sign vk_X9_sign rfl wd_1673 hR (rmP_c (by decide +kernel)) ⟨rfl, rfl⟩ rfl (Nat.le_of_ble_eq_true rfl) dX9_test_111 (fun hs16 => ?_)
        refine G.istore_n 114 [(2, .int q18), (1, .int q14.1), (0, .ref (zs Z + 284))] dX9_test_114 rfl (Nat.le_of_ble_eq_true rfl) rfl ?_
        refine G.aload_n 115 2 dX9_test_115 rfl rfl ?_
        refine G.geti 116 ck_9 27 (hs16.k k0_284) (by decide) (by decide +kernel) wd_1332 dX9_test_116 ?_
        refine G.if_eq 119 140 dX9_test_119 (by decide) (fun h20 => ?_) (fun h20 => ?_)
        · replace hf := (if_pos h20).symm.trans hf
          refine G.locs [2] rfl ?_
          exact b_X9_test_140 Z X d hR rec hrec hq hs16 hf
        · replace hf := (if_neg h20).symm.trans hf
          refine G.iload_n 122 0 dX9_test_122 rfl rfl ?_
          refine G.bipush 123 (60 : Int32) dX9_test_123 (by decide +kernel) ?_
          refine G.icmp_eq 125 145 dX9_test_125 (by decide) (fun h25 => ?_) (fun h25 => ?_)
          · replace hf := (if_pos h25).symm.trans hf
            refine G.locs [2, 1, 0] rfl ?_
            exact b_X9_test_145 Z X d hR rec hrec hq q14.1 q18 hs16 hf
          · replace hf := (if_neg h25).symm.trans hf
            refine G.iload_n 128 0 dX9_test_128 rfl rfl ?_
            refine G.bipush 129 (62 : Int32) dX9_test_129 (by decide +kernel) ?_
            refine G.icmp_eq 131 145 dX9_test_131 (by decide) (fun h35 => ?_) (fun h35 => ?_)
            · replace hf := (if_pos h35).symm.trans hf
              refine G.locs [2, 1, 0] rfl ?_
              exact b_X9_test_145 Z X d hR rec hrec hq q14.1 q18 hs16 hf
            · replace hf := (if_neg h35).symm.trans hf
              refine G.iload_n 134 0 dX9_test_134 rfl rfl ?_
              refine G.bipush 135 (61 : Int32) dX9_test_135 (by decide +kernel) ?_
              refine G.icmp_eq 137 145 dX9_test_137 (by decide) (fun h36 => ?_) (fun h36 => ?_)
              · replace hf := (if_pos h36).symm.trans hf
                refine G.locs [2, 1, 0] rfl ?_
                exact b_X9_test_145 Z X d hR rec hrec hq q14.1 q18 hs16 hf
              · replace hf := (if_neg h36).symm.trans hf
                refine G.locs [2] rfl ?_
                exact b_X9_test_140 Z X d hR rec hrec hq hs16 hf
      · replace hf := (if_pos h11).symm.trans hf
        refine G.aload_n 40 0 dX9_test_40 rfl rfl ?_
        refine G.geti 41 ck_9 24 (hs7.k k0_284) (by decide) (by decide +kernel) wd_1329 dX9_test_41 ?_
        refine G.bipush 44 (8 : Int32) dX9_test_44 (by decide +kernel) ?_
        refine G.icmp_ne 46 54 dX9_test_46 (by decide) (fun h37 => ?_) (fun h37 => ?_)
        · replace hf := (if_neg h37).symm.trans hf
          refine G.aload_n 54 0 dX9_test_54 rfl rfl ?_
          refine G.dup 55 dX9_test_55 rfl ?_
          refine G.geti 56 ck_9 21 (hs7.k k0_284) (by decide) (by decide +kernel) wd_1326 dX9_test_56 ?_
          refine G.iconst 59 (1 : Int32) dX9_test_59 (by decide +kernel) ?_
          refine G.iadd 60 dX9_test_60 ?_
          refine G.puti 61 ck_9 21 (hs7.k k0_284) (by decide) (by decide +kernel) rfl wd_1326 rfl rfl dX9_test_61 ?_
          refine G.aload_n 64 0 dX9_test_64 rfl rfl ?_
          refine G.dup 65 dX9_test_65 rfl ?_
          refine G.geti 66 ck_9 24 ((St.i hs7).k k0_284) (by decide) (by decide +kernel) wd_1329 dX9_test_66 ?_
          refine G.iconst 69 (1 : Int32) dX9_test_69 (by decide +kernel) ?_
          refine G.iadd 70 dX9_test_70 ?_
          refine G.puti 71 ck_9 24 ((St.i hs7).k k0_284) (by decide) (by decide +kernel) rfl wd_1329 rfl rfl dX9_test_71 ?_
          refine G.aload_n 74 0 dX9_test_74 rfl rfl ?_
          obtain ⟨q40, e41, hf⟩ := bd_e hf
          refine G.cvZ 75 (As := []) ck_9 ((St.i (St.i hs7)).k k0_284) (hrec.o (St.i (St.i hs7)) e41) mk_X9_or vk_X9_or rfl wd_1683 hR (rmP_r (by decide)) ⟨rfl, rfl⟩ rfl (Nat.le_of_ble_eq_true rfl) dX9_test_75 (fun hs38 z39 => ?_)
          refine G.istore_n 78 [(1, .int q40.1), (0, .ref (zs Z + 284))] dX9_test_78 rfl (Nat.le_of_ble_eq_true rfl) rfl ?_
          refine G.aload_n 79 1 dX9_test_79 rfl rfl ?_
          refine G.bipush 80 (41 : Int32) dX9_test_80 (by decide +kernel) ?_
          obtain ⟨q44, e45, hf⟩ := bd_e hf
          refine G.cvZ 82 (As := [.int (41 : Int32)]) ck_9 (hs38.k k0_284) (c_X9_takes Z hs38 (41 : Int32) e45) mk_X9_takes vk_X9_takes rfl wd_1679 hR (rmP_c (by decide +kernel)) ⟨rfl, rfl⟩ rfl (Nat.le_of_ble_eq_true rfl) dX9_test_82 (fun hs42 z43 => ?_)
          refine G.if_ne 85 93 dX9_test_85 (by decide) (fun h46 => ?_) (fun h46 => ?_)
          · replace hf := (if_neg h46).symm.trans hf
            refine G.aload_n 93 1 dX9_test_93 rfl rfl ?_
            refine G.dup 94 dX9_test_94 rfl ?_
            refine G.geti 95 ck_9 24 (hs42.k k0_284) (by decide) (by decide +kernel) wd_1329 dX9_test_95 ?_
            refine G.iconst 98 (1 : Int32) dX9_test_98 (by decide +kernel) ?_
            refine G.isub 99 dX9_test_99 ?_
            refine G.puti 100 ck_9 24 (hs42.k k0_284) (by decide) (by decide +kernel) rfl wd_1329 rfl rfl dX9_test_100 ?_
            refine G.iload_n 103 0 dX9_test_103 rfl rfl ?_
            (have hf9 := Option.some.inj hf; subst hf9)
            exact G.rZ 104 hq dX9_test_104 (St.i hs42) z39
          · replace hf := (if_pos h46).symm.trans hf
            refine G.aload_n 88 1 dX9_test_88 rfl rfl ?_
            obtain ⟨q49, e50, hf⟩ := bd_e hf
            refine G.cvZ 89 (As := []) ck_9 (hs42.k k0_284) (c_X9_breaks Z hs42 e50) mk_X9_breaks vk_X9_breaks rfl wd_1695 hR (rmP_c (by decide +kernel)) ⟨rfl, rfl⟩ rfl (Nat.le_of_ble_eq_true rfl) dX9_test_89 (fun hs47 z48 => ?_)
            (have hf9 := Option.some.inj hf; subst hf9)
            exact G.rZ 92 hq dX9_test_92 hs47 z48
        · replace hf := (if_pos h37).symm.trans hf
          refine G.aload_n 49 0 dX9_test_49 rfl rfl ?_
          obtain ⟨q53, e54, hf⟩ := bd_e hf
          refine G.cvZ 50 (As := []) ck_9 (hs7.k k0_284) (c_X9_breaks Z hs7 e54) mk_X9_breaks vk_X9_breaks rfl wd_1695 hR (rmP_c (by decide +kernel)) ⟨rfl, rfl⟩ rfl (Nat.le_of_ble_eq_true rfl) dX9_test_50 (fun hs51 z52 => ?_)
          (have hf9 := Option.some.inj hf; subst hf9)
          exact G.rZ 53 hq dX9_test_53 hs51 z52
    · replace hf := (if_neg h6).symm.trans hf
      refine G.aload_n 18 0 dX9_test_18 rfl rfl ?_
      obtain ⟨q57, e58, hf⟩ := bd_e hf
      refine G.cvZ 19 (As := []) ck_9 (hs2.k k0_284) (hrec.t hs2 e58) mk_X9_test vk_X9_test rfl wd_1691 hR (rmP_r (by decide)) ⟨rfl, rfl⟩ rfl (Nat.le_of_ble_eq_true rfl) dX9_test_19 (fun hs55 z56 => ?_)
      refine G.if_ne 22 29 dX9_test_22 (by decide) (fun h59 => ?_) (fun h59 => ?_)
      · replace hf := (if_neg h59).symm.trans hf
        refine G.iconst 29 (0 : Int32) dX9_test_29 (by decide +kernel) ?_
        (have hf9 := Option.some.inj hf; subst hf9)
        exact G.rZ 30 hq dX9_test_30 hs55 (Or.inl rfl)
      · replace hf := (if_pos h59).symm.trans hf
        refine G.iconst 25 (1 : Int32) dX9_test_25 (by decide +kernel) ?_
        refine G.goto 26 30 dX9_test_26 (by decide) ?_
        (have hf9 := Option.some.inj hf; subst hf9)
        exact G.rZ 30 hq dX9_test_30 hs55 (Or.inr rfl)
  · replace hf := (if_pos h1).symm.trans hf
    refine G.iconst 7 (0 : Int32) dX9_test_7 (by decide +kernel) ?_
    (have hf9 := Option.some.inj hf; subst hf9)
    exact G.rZ 8 hq dX9_test_8 hs (Or.inl rfl)
abbrev Y_X9_and : My := (cX9_and, RX9, 3)
theorem dX9_and_0 : decode cX9_and 0 = .ok (.aload_n 0, 1) := by decide +kernel
theorem dX9_and_1 : decode cX9_and 1 = .ok (.invokevirtual 244, 3) := by decide +kernel
theorem dX9_and_4 : decode cX9_and 4 = .ok (.istore_n 1, 1) := by decide +kernel
theorem dX9_and_5 : decode cX9_and 5 = .ok (.aload_n 0, 1) := by decide +kernel
theorem dX9_and_6 : decode cX9_and 6 = .ok (.bipush 38, 2) := by decide +kernel
theorem dX9_and_8 : decode cX9_and 8 = .ok (.invokevirtual 241, 3) := by decide +kernel
theorem dX9_and_11 : decode cX9_and 11 = .ok (.ifCond .eq 25, 3) := by decide +kernel
theorem dX9_and_14 : decode cX9_and 14 = .ok (.aload_n 0, 1) := by decide +kernel
theorem dX9_and_15 : decode cX9_and 15 = .ok (.invokevirtual 244, 3) := by decide +kernel
theorem dX9_and_18 : decode cX9_and 18 = .ok (.istore_n 2, 1) := by decide +kernel
theorem dX9_and_19 : decode cX9_and 19 = .ok (.iload_n 1, 1) := by decide +kernel
theorem dX9_and_20 : decode cX9_and 20 = .ok (.ifCond .eq 11, 3) := by decide +kernel
theorem dX9_and_23 : decode cX9_and 23 = .ok (.iload_n 2, 1) := by decide +kernel
theorem dX9_and_24 : decode cX9_and 24 = .ok (.ifCond .eq 7, 3) := by decide +kernel
theorem dX9_and_27 : decode cX9_and 27 = .ok (.iconst 1, 1) := by decide +kernel
theorem dX9_and_28 : decode cX9_and 28 = .ok (.goto 4, 3) := by decide +kernel
theorem dX9_and_31 : decode cX9_and 31 = .ok (.iconst 0, 1) := by decide +kernel
theorem dX9_and_32 : decode cX9_and 32 = .ok (.istore_n 1, 1) := by decide +kernel
theorem dX9_and_33 : decode cX9_and 33 = .ok (.goto (-28), 3) := by decide +kernel
theorem dX9_and_36 : decode cX9_and 36 = .ok (.iload_n 1, 1) := by decide +kernel
theorem dX9_and_37 : decode cX9_and 37 = .ok (.ireturn, 1) := by decide +kernel
def B_X9_and_31 (rec : Nat → Mem → Option (Int32 × Mem)) (rc_5 : Int32 → Mem → Option (Int32 × Mem)) (M : Mem) : Option (Int32 × Mem) := rc_5 (0 : Int32) M
def L_X9_and_5 (rec : Nat → Mem → Option (Int32 × Mem)) : Nat → Int32 → Mem → Option (Int32 × Mem)
  | 0, _, _ => none
  | n + 1, x1, M => (f_X9_takes (38 : Int32) M).bind fun q7 => if q7.1 = 0 then gd (x1 = 0 ∨ x1 = 1) (some (x1, q7.2)) else (rec 2 q7.2).bind fun q13 => if x1 = 0 then B_X9_and_31 rec (L_X9_and_5 rec n) q13.2 else if q13.1 = 0 then B_X9_and_31 rec (L_X9_and_5 rec n) q13.2 else L_X9_and_5 rec n (1 : Int32) q13.2
def f_X9_and (rec : Nat → Mem → Option (Int32 × Mem)) (M : Mem) : Option (Int32 × Mem) := (rec 2 M).bind fun q3 => L_X9_and_5 rec FU q3.1 q3.2
set_option maxRecDepth 100000 in
set_option maxHeartbeats 4000000 in
theorem b_X9_and_31 (Z : Sys) (X : Cx) (d : Nat) (hR : xR X = (rmP (d + 1))) (rec : Nat → Mem → Option (Int32 × Mem)) (hrec : RecOk Z d rec) {q : Int32 × Mem} (hq : RetOk Z X (some .boolean) False (PostZ q.1 q.2) 0 0) (rc_5 : Int32 → Mem → Option (Int32 × Mem)) (hrc_5 : ∀ (x1 : Int32) (M : Mem), St M → rc_5 x1 M = some q → G Z X Y_X9_and False 0 0 5 [(0, .ref (zs Z + 284)), (1, .int x1)] [] M) {M : Mem} (hs : St M) (hf : B_X9_and_31 rec rc_5 M = some q) : G Z X Y_X9_and False 0 0 31 [(0, .ref (zs Z + 284))] [] M := by
  unfold B_X9_and_31 at hf
  refine G.iconst 31 (0 : Int32) dX9_and_31 (by decide +kernel) ?_
  refine G.istore_n 32 [(1, .int (0 : Int32)), (0, .ref (zs Z + 284))] dX9_and_32 rfl (Nat.le_of_ble_eq_true rfl) rfl ?_
  refine G.goto 33 5 dX9_and_33 (by decide) ?_
  refine G.locs [1, 0] rfl ?_
  exact hrc_5 (0 : Int32) M hs hf
set_option maxRecDepth 100000 in
set_option maxHeartbeats 4000000 in
theorem l_X9_and_5 (Z : Sys) (X : Cx) (d : Nat) (hR : xR X = (rmP (d + 1))) (rec : Nat → Mem → Option (Int32 × Mem)) (hrec : RecOk Z d rec) {q : Int32 × Mem} (hq : RetOk Z X (some .boolean) False (PostZ q.1 q.2) 0 0) : ∀ (n : Nat) (x1 : Int32) (M : Mem) (hs : St M) (hf : L_X9_and_5 rec n x1 M = some q), G Z X Y_X9_and False 0 0 5 [(0, .ref (zs Z + 284)), (1, .int x1)] [] M := by
  intro n
  induction n with
  | zero => intro x1 M hs  hf; cases hf
  | succ n ih =>
    intro x1 M hs  hf
    unfold L_X9_and_5 at hf
    refine G.aload_n 5 0 dX9_and_5 rfl rfl ?_
    refine G.bipush 6 (38 : Int32) dX9_and_6 (by decide +kernel) ?_
    obtain ⟨q7, e8, hf⟩ := bd_e hf
    refine G.cvZ 8 (As := [.int (38 : Int32)]) ck_9 (hs.k k0_284) (c_X9_takes Z hs (38 : Int32) e8) mk_X9_takes vk_X9_takes rfl wd_1679 hR (rmP_c (by decide +kernel)) ⟨rfl, rfl⟩ rfl (Nat.le_of_ble_eq_true rfl) dX9_and_8 (fun hs5 z6 => ?_)
    refine G.if_eq 11 36 dX9_and_11 (by decide) (fun h9 => ?_) (fun h9 => ?_)
    · replace hf := (if_pos h9).symm.trans hf
      refine G.iload_n 36 1 dX9_and_36 rfl rfl ?_
      obtain ⟨g10, hf⟩ := gd_e hf
      (have hf9 := Option.some.inj hf; subst hf9)
      exact G.rZ 37 hq dX9_and_37 hs5 g10
    · replace hf := (if_neg h9).symm.trans hf
      refine G.aload_n 14 0 dX9_and_14 rfl rfl ?_
      obtain ⟨q13, e14, hf⟩ := bd_e hf
      refine G.cvZ 15 (As := []) ck_9 (hs5.k k0_284) (hrec.t hs5 e14) mk_X9_test vk_X9_test rfl wd_1691 hR (rmP_r (by decide)) ⟨rfl, rfl⟩ rfl (Nat.le_of_ble_eq_true rfl) dX9_and_15 (fun hs11 z12 => ?_)
      refine G.istore_n 18 [(2, .int q13.1), (0, .ref (zs Z + 284)), (1, .int x1)] dX9_and_18 rfl (Nat.le_of_ble_eq_true rfl) rfl ?_
      refine G.iload_n 19 2 dX9_and_19 rfl rfl ?_
      refine G.if_eq 20 31 dX9_and_20 (by decide) (fun h15 => ?_) (fun h15 => ?_)
      · replace hf := (if_pos h15).symm.trans hf
        refine G.locs [1] rfl ?_
        exact b_X9_and_31 Z X d hR rec hrec hq (L_X9_and_5 rec n) ih hs11 hf
      · replace hf := (if_neg h15).symm.trans hf
        refine G.iload_n 23 0 dX9_and_23 rfl rfl ?_
        refine G.if_eq 24 31 dX9_and_24 (by decide) (fun h16 => ?_) (fun h16 => ?_)
        · replace hf := (if_pos h16).symm.trans hf
          refine G.locs [1] rfl ?_
          exact b_X9_and_31 Z X d hR rec hrec hq (L_X9_and_5 rec n) ih hs11 hf
        · replace hf := (if_neg h16).symm.trans hf
          refine G.iconst 27 (1 : Int32) dX9_and_27 (by decide +kernel) ?_
          refine G.goto 28 32 dX9_and_28 (by decide) ?_
          refine G.istore_n 32 [(1, .int (1 : Int32)), (2, .int q13.1), (0, .ref (zs Z + 284))] dX9_and_32 rfl (Nat.le_of_ble_eq_true rfl) rfl ?_
          refine G.goto 33 5 dX9_and_33 (by decide) ?_
          refine G.locs [2, 0] rfl ?_
          exact ih (1 : Int32) q13.2 hs11 hf
set_option maxRecDepth 100000 in
set_option maxHeartbeats 4000000 in
theorem c_X9_and (Z : Sys) (d : Nat) (rec : Nat → Mem → Option (Int32 × Mem)) (hrec : RecOk Z d rec) {M : Mem} (hs : St M) {q : Int32 × Mem} (hf : f_X9_and rec M = some q) : Ct Z yX9_and cX9_and 3 (some .boolean) (rmP (d + 1)) [.ref (zs Z + 284)] M False (PostZ q.1 q.2) := by
  refine Ct.of (by decide +kernel) (Nat.le_of_ble_eq_true rfl) (fun X hR hq _ => ?_)
  show G Z X Y_X9_and False 0 0 0 [(0, .ref (zs Z + 284))] [] M
  replace hq : RetOk Z X (some .boolean) False (PostZ q.1 q.2) 0 0 := hq
  unfold f_X9_and at hf
  refine G.aload_n 0 0 dX9_and_0 rfl rfl ?_
  obtain ⟨q3, e4, hf⟩ := bd_e hf
  refine G.cvZ 1 (As := []) ck_9 (hs.k k0_284) (hrec.t hs e4) mk_X9_test vk_X9_test rfl wd_1691 hR (rmP_r (by decide)) ⟨rfl, rfl⟩ rfl (Nat.le_of_ble_eq_true rfl) dX9_and_1 (fun hs1 z2 => ?_)
  refine G.istore_n 4 [(1, .int q3.1), (0, .ref (zs Z + 284))] dX9_and_4 rfl (Nat.le_of_ble_eq_true rfl) rfl ?_
  refine G.locs [1, 0] rfl ?_
  exact l_X9_and_5 Z X d hR rec hrec hq FU q3.1 q3.2 hs1 hf
def f_grp : Nat → Nat → Mem → Option (Int32 × Mem)
  | 0, _, _ => none
  | d + 1, t, M => if t = 0 then f_X9_or (f_grp d) M else if t = 1 then f_X9_and (f_grp d) M else f_X9_test (f_grp d) M
theorem grp_ok (Z : Sys) : ∀ d : Nat, RecOk Z d (f_grp d)
  | 0 => fun M _ q => ⟨fun e => absurd e (by simp [f_grp]), fun e => absurd e (by simp [f_grp]), fun e => absurd e (by simp [f_grp])⟩
  | d + 1 => fun M hs q => ⟨fun e => c_X9_or Z d (f_grp d) (grp_ok Z d) hs e, fun e => c_X9_and Z d (f_grp d) (grp_ok Z d) hs e, fun e => c_X9_test Z d (f_grp d) (grp_ok Z d) hs e⟩
theorem c_grp_o (Z : Sys) (d : Nat) {M : Mem} (hs : St M) {q : Int32 × Mem} (e : f_grp d 0 M = some q) : Ct Z yX9_or cX9_or 3 (some .boolean) (rmP d) [.ref (zs Z + 284)] M False (PostZ q.1 q.2) := (grp_ok Z d).o hs e
abbrev Y_X9_becomes : My := (cX9_becomes, RX9, 4)
def rm_X9_becomes : Room := { frames := 1, cells := 0, slots := 0, locals := 200 }
theorem dX9_becomes_0 : decode cX9_becomes 0 = .ok (.aload_n 0, 1) := by decide +kernel
theorem dX9_becomes_1 : decode cX9_becomes 1 = .ok (.getfield 9, 3) := by decide +kernel
theorem dX9_becomes_4 : decode cX9_becomes 4 = .ok (.iload_n 1, 1) := by decide +kernel
theorem dX9_becomes_5 : decode cX9_becomes 5 = .ok (.iaload, 1) := by decide +kernel
theorem dX9_becomes_6 : decode cX9_becomes 6 = .ok (.istore_n 3, 1) := by decide +kernel
theorem dX9_becomes_7 : decode cX9_becomes 7 = .ok (.aload_n 0, 1) := by decide +kernel
theorem dX9_becomes_8 : decode cX9_becomes 8 = .ok (.getfield 9, 3) := by decide +kernel
theorem dX9_becomes_11 : decode cX9_becomes 11 = .ok (.iload_n 1, 1) := by decide +kernel
theorem dX9_becomes_12 : decode cX9_becomes 12 = .ok (.iload_n 2, 1) := by decide +kernel
theorem dX9_becomes_13 : decode cX9_becomes 13 = .ok (.iastore, 1) := by decide +kernel
theorem dX9_becomes_14 : decode cX9_becomes 14 = .ok (.iload_n 3, 1) := by decide +kernel
theorem dX9_becomes_15 : decode cX9_becomes 15 = .ok (.ireturn, 1) := by decide +kernel
def f_X9_becomes (x1 : Int32) (x2 : Int32) (M : Mem) : Option (Int32 × Mem) := gd (inR x1 1194) (some ((mI M 285 x1.toNatClampNeg), (sI M 285 x1.toNatClampNeg x2)))
set_option maxRecDepth 100000 in
set_option maxHeartbeats 4000000 in
theorem c_X9_becomes (Z : Sys) {M : Mem} (hs : St M) (x1 : Int32) (x2 : Int32) {q : Int32 × Mem} (hf : f_X9_becomes x1 x2 M = some q) : Ct Z yX9_becomes cX9_becomes 4 (some .int) rm_X9_becomes [.ref (zs Z + 284), .int x1, .int x2] M False (PostI q.1 q.2) := by
  refine Ct.of (by decide +kernel) (Nat.le_of_ble_eq_true rfl) (fun X hR hq _ => ?_)
  show G Z X Y_X9_becomes False 0 0 0 [(0, .ref (zs Z + 284)), (1, .int x1), (2, .int x2)] [] M
  replace hq : RetOk Z X (some .int) False (PostI q.1 q.2) 0 0 := hq
  unfold f_X9_becomes at hf
  refine G.aload_n 0 0 dX9_becomes_0 rfl rfl ?_
  refine G.getp 1 ck_9 0 285 (hs.k k0_284) (pc_9_0 hs) (by decide) (by decide +kernel) wd_1305 dX9_becomes_1 ?_
  refine G.iload_n 4 1 dX9_becomes_4 rfl rfl ?_
  obtain ⟨g1, hf⟩ := gd_e hf
  refine G.ia 5 x1.toNatClampNeg (hs.k k0_285) g1 rfl dX9_becomes_5 ?_
  refine G.istore_n 6 [(3, .int (mI M 285 x1.toNatClampNeg)), (0, .ref (zs Z + 284)), (1, .int x1), (2, .int x2)] dX9_becomes_6 rfl (Nat.le_of_ble_eq_true rfl) rfl ?_
  refine G.aload_n 7 1 dX9_becomes_7 rfl rfl ?_
  refine G.getp 8 ck_9 0 285 (hs.k k0_284) (pc_9_0 hs) (by decide) (by decide +kernel) wd_1305 dX9_becomes_8 ?_
  refine G.iload_n 11 2 dX9_becomes_11 rfl rfl ?_
  refine G.iload_n 12 3 dX9_becomes_12 rfl rfl ?_
  refine G.ist 13 x1.toNatClampNeg (hs.k k0_285) g1 rfl dX9_becomes_13 ?_
  refine G.iload_n 14 0 dX9_becomes_14 rfl rfl ?_
  (have hf9 := Option.some.inj hf; subst hf9)
  exact G.rI 15 hq dX9_becomes_15 (St.i hs)
abbrev Y_X9_begins : My := (cX9_begins, RX9, 5)
def rm_X9_begins : Room := { frames := 1, cells := 0, slots := 0, locals := 200 }
theorem dX9_begins_0 : decode cX9_begins 0 = .ok (.aload_n 0, 1) := by decide +kernel
theorem dX9_begins_1 : decode cX9_begins 1 = .ok (.aload_n 1, 1) := by decide +kernel
theorem dX9_begins_2 : decode cX9_begins 2 = .ok (.putfield 55, 3) := by decide +kernel
theorem dX9_begins_5 : decode cX9_begins 5 = .ok (.aload_n 0, 1) := by decide +kernel
theorem dX9_begins_6 : decode cX9_begins 6 = .ok (.iload_n 2, 1) := by decide +kernel
theorem dX9_begins_7 : decode cX9_begins 7 = .ok (.putfield 227, 3) := by decide +kernel
theorem dX9_begins_10 : decode cX9_begins 10 = .ok (.aload_n 0, 1) := by decide +kernel
theorem dX9_begins_11 : decode cX9_begins 11 = .ok (.iload_n 3, 1) := by decide +kernel
theorem dX9_begins_12 : decode cX9_begins 12 = .ok (.putfield 224, 3) := by decide +kernel
theorem dX9_begins_15 : decode cX9_begins 15 = .ok (.aload_n 0, 1) := by decide +kernel
theorem dX9_begins_16 : decode cX9_begins 16 = .ok (.iload 4, 2) := by decide +kernel
theorem dX9_begins_18 : decode cX9_begins 18 = .ok (.putfield 268, 3) := by decide +kernel
theorem dX9_begins_21 : decode cX9_begins 21 = .ok (.aload_n 0, 1) := by decide +kernel
theorem dX9_begins_22 : decode cX9_begins 22 = .ok (.iconst 0, 1) := by decide +kernel
theorem dX9_begins_23 : decode cX9_begins 23 = .ok (.putfield 221, 3) := by decide +kernel
theorem dX9_begins_26 : decode cX9_begins 26 = .ok (.aload_n 0, 1) := by decide +kernel
theorem dX9_begins_27 : decode cX9_begins 27 = .ok (.iconst 0, 1) := by decide +kernel
theorem dX9_begins_28 : decode cX9_begins 28 = .ok (.putfield 247, 3) := by decide +kernel
theorem dX9_begins_31 : decode cX9_begins 31 = .ok (.aload_n 0, 1) := by decide +kernel
theorem dX9_begins_32 : decode cX9_begins 32 = .ok (.iconst 1, 1) := by decide +kernel
theorem dX9_begins_33 : decode cX9_begins 33 = .ok (.putfield 230, 3) := by decide +kernel
theorem dX9_begins_36 : decode cX9_begins 36 = .ok (.return_, 1) := by decide +kernel
def f_X9_begins (a1 : Nat) (x2 : Int32) (x3 : Int32) (x4 : Int32) (M : Mem) : Option Mem := gd (a1 = 290 ∨ a1 = 285) (some (sI (sI (sI (sI (sI (sI (sP M 284 26 a1) 284 22 x2) 284 23 x3) 284 25 x4) 284 21 (0 : Int32)) 284 24 (0 : Int32)) 284 27 (1 : Int32)))
set_option maxRecDepth 100000 in
set_option maxHeartbeats 4000000 in
theorem c_X9_begins (Z : Sys) {M : Mem} (hs : St M) (a1 : Nat) (x2 : Int32) (x3 : Int32) (x4 : Int32) (k_a1 : K0[a1]? = some (10, (ln a1))) {q : Mem} (hf : f_X9_begins a1 x2 x3 x4 M = some q) : Ct Z yX9_begins cX9_begins 5 none rm_X9_begins [.ref (zs Z + 284), .ref (zs Z + a1), .int x2, .int x3, .int x4] M False (PostV q) := by
  refine Ct.of (by decide +kernel) (Nat.le_of_ble_eq_true rfl) (fun X hR hq _ => ?_)
  show G Z X Y_X9_begins False 0 0 0 [(0, .ref (zs Z + 284)), (1, .ref (zs Z + a1)), (2, .int x2), (3, .int x3), (4, .int x4)] [] M
  replace hq : RetOk Z X none False (PostV q) 0 0 := hq
  unfold f_X9_begins at hf
  refine G.aload_n 0 0 dX9_begins_0 rfl rfl ?_
  refine G.aload_n 1 1 dX9_begins_1 rfl rfl ?_
  obtain ⟨g1, hf⟩ := gd_e hf
  refine G.putp 2 ck_9 26 (hs.k k0_284) (by decide) (by decide +kernel) (Or.inl rfl) wd_1331 (fun _ => rfl) (fun _ => rfl) dX9_begins_2 ?_
  refine G.aload_n 5 0 dX9_begins_5 rfl rfl ?_
  refine G.iload_n 6 2 dX9_begins_6 rfl rfl ?_
  refine G.puti 7 ck_9 22 ((St.t hs g1).k k0_284) (by decide) (by decide +kernel) rfl wd_1327 rfl rfl dX9_begins_7 ?_
  refine G.aload_n 10 0 dX9_begins_10 rfl rfl ?_
  refine G.iload_n 11 3 dX9_begins_11 rfl rfl ?_
  refine G.puti 12 ck_9 23 ((St.i (St.t hs g1)).k k0_284) (by decide) (by decide +kernel) rfl wd_1328 rfl rfl dX9_begins_12 ?_
  refine G.aload_n 15 0 dX9_begins_15 rfl rfl ?_
  refine G.iload 16 4 dX9_begins_16 rfl ?_
  refine G.puti 18 ck_9 25 ((St.i (St.i (St.t hs g1))).k k0_284) (by decide) (by decide +kernel) rfl wd_1330 rfl rfl dX9_begins_18 ?_
  refine G.aload_n 21 0 dX9_begins_21 rfl rfl ?_
  refine G.iconst 22 (0 : Int32) dX9_begins_22 (by decide +kernel) ?_
  refine G.puti 23 ck_9 21 ((St.i (St.i (St.i (St.t hs g1)))).k k0_284) (by decide) (by decide +kernel) rfl wd_1326 rfl rfl dX9_begins_23 ?_
  refine G.aload_n 26 0 dX9_begins_26 rfl rfl ?_
  refine G.iconst 27 (0 : Int32) dX9_begins_27 (by decide +kernel) ?_
  refine G.puti 28 ck_9 24 ((St.i (St.i (St.i (St.i (St.t hs g1))))).k k0_284) (by decide) (by decide +kernel) rfl wd_1329 rfl rfl dX9_begins_28 ?_
  refine G.aload_n 31 0 dX9_begins_31 rfl rfl ?_
  refine G.iconst 32 (1 : Int32) dX9_begins_32 (by decide +kernel) ?_
  refine G.puti 33 ck_9 27 ((St.i (St.i (St.i (St.i (St.i (St.t hs g1)))))).k k0_284) (by decide) (by decide +kernel) rfl wd_1332 rfl rfl dX9_begins_33 ?_
  (have hf9 := Option.some.inj hf; subst hf9)
  exact G.rV 36 hq dX9_begins_36 (St.i (St.i (St.i (St.i (St.i (St.i (St.t hs g1)))))))
abbrev Y_X9_bits : My := (cX9_bits, RX9, 3)
def rm_X9_bits : Room := { frames := 1, cells := 0, slots := 0, locals := 200 }
theorem dX9_bits_0 : decode cX9_bits 0 = .ok (.iconst 0, 1) := by decide +kernel
theorem dX9_bits_1 : decode cX9_bits 1 = .ok (.istore_n 1, 1) := by decide +kernel
theorem dX9_bits_2 : decode cX9_bits 2 = .ok (.iload_n 0, 1) := by decide +kernel
theorem dX9_bits_3 : decode cX9_bits 3 = .ok (.istore_n 2, 1) := by decide +kernel
theorem dX9_bits_4 : decode cX9_bits 4 = .ok (.iload_n 2, 1) := by decide +kernel
theorem dX9_bits_5 : decode cX9_bits 5 = .ok (.ifCond .le 16, 3) := by decide +kernel
theorem dX9_bits_8 : decode cX9_bits 8 = .ok (.iload_n 1, 1) := by decide +kernel
theorem dX9_bits_9 : decode cX9_bits 9 = .ok (.iload_n 2, 1) := by decide +kernel
theorem dX9_bits_10 : decode cX9_bits 10 = .ok (.iconst 1, 1) := by decide +kernel
theorem dX9_bits_11 : decode cX9_bits 11 = .ok (.iand, 1) := by decide +kernel
theorem dX9_bits_12 : decode cX9_bits 12 = .ok (.iadd, 1) := by decide +kernel
theorem dX9_bits_13 : decode cX9_bits 13 = .ok (.istore_n 1, 1) := by decide +kernel
theorem dX9_bits_14 : decode cX9_bits 14 = .ok (.iload_n 2, 1) := by decide +kernel
theorem dX9_bits_15 : decode cX9_bits 15 = .ok (.iconst 1, 1) := by decide +kernel
theorem dX9_bits_16 : decode cX9_bits 16 = .ok (.ishr, 1) := by decide +kernel
theorem dX9_bits_17 : decode cX9_bits 17 = .ok (.istore_n 2, 1) := by decide +kernel
theorem dX9_bits_18 : decode cX9_bits 18 = .ok (.goto (-14), 3) := by decide +kernel
theorem dX9_bits_21 : decode cX9_bits 21 = .ok (.iload_n 1, 1) := by decide +kernel
theorem dX9_bits_22 : decode cX9_bits 22 = .ok (.ireturn, 1) := by decide +kernel
def L_X9_bits_4 : Nat → Int32 → Int32 → Option Int32
  | 0, _, _ => none
  | n + 1, x1, x2 => if x2 ≤ 0 then some x1 else L_X9_bits_4 n (x1 + (x2 &&& (1 : Int32))) (x2 >>> ((1 : Int32) &&& 31))
def f_X9_bits (x0 : Int32) : Option Int32 := L_X9_bits_4 FU (0 : Int32) x0
set_option maxRecDepth 100000 in
set_option maxHeartbeats 4000000 in
theorem l_X9_bits_4 (Z : Sys) (X : Cx) (hR : xR X = rm_X9_bits) {q : Int32} {M : Mem} (hq : RetOk Z X (some .int) False (PostI q M) 0 0) : ∀ (n : Nat) (x1 : Int32) (x2 : Int32) (hs : St M) (hf : L_X9_bits_4 n x1 x2 = some q), G Z X Y_X9_bits False 0 0 4 [(1, .int x1), (2, .int x2)] [] M := by
  intro n
  induction n with
  | zero => intro x1 x2 hs  hf; cases hf
  | succ n ih =>
    intro x1 x2 hs  hf
    unfold L_X9_bits_4 at hf
    refine G.iload_n 4 1 dX9_bits_4 rfl rfl ?_
    refine G.if_le 5 21 dX9_bits_5 (by decide) (fun h1 => ?_) (fun h1 => ?_)
    · replace hf := (if_pos h1).symm.trans hf
      refine G.iload_n 21 0 dX9_bits_21 rfl rfl ?_
      (have hf9 := Option.some.inj hf; subst hf9)
      exact G.rI 22 hq dX9_bits_22 hs
    · replace hf := (if_neg h1).symm.trans hf
      refine G.iload_n 8 0 dX9_bits_8 rfl rfl ?_
      refine G.iload_n 9 1 dX9_bits_9 rfl rfl ?_
      refine G.iconst 10 (1 : Int32) dX9_bits_10 (by decide +kernel) ?_
      refine G.iand 11 dX9_bits_11 ?_
      refine G.iadd 12 dX9_bits_12 ?_
      refine G.istore_n 13 [(1, .int (x1 + (x2 &&& (1 : Int32)))), (2, .int x2)] dX9_bits_13 rfl (Nat.le_of_ble_eq_true rfl) rfl ?_
      refine G.iload_n 14 1 dX9_bits_14 rfl rfl ?_
      refine G.iconst 15 (1 : Int32) dX9_bits_15 (by decide +kernel) ?_
      refine G.ishr 16 dX9_bits_16 ?_
      refine G.istore_n 17 [(2, .int (x2 >>> ((1 : Int32) &&& 31))), (1, .int (x1 + (x2 &&& (1 : Int32))))] dX9_bits_17 rfl (Nat.le_of_ble_eq_true rfl) rfl ?_
      refine G.goto 18 4 dX9_bits_18 (by decide) ?_
      refine G.locs [1, 0] rfl ?_
      exact ih (x1 + (x2 &&& (1 : Int32))) (x2 >>> ((1 : Int32) &&& 31)) hs hf
set_option maxRecDepth 100000 in
set_option maxHeartbeats 4000000 in
theorem c_X9_bits (Z : Sys) {M : Mem} (hs : St M) (x0 : Int32) {q : Int32} (hf : f_X9_bits x0 = some q) : Ct Z yX9_bits cX9_bits 3 (some .int) rm_X9_bits [.int x0] M False (PostI q M) := by
  refine Ct.of (by decide +kernel) (Nat.le_of_ble_eq_true rfl) (fun X hR hq _ => ?_)
  show G Z X Y_X9_bits False 0 0 0 [(0, .int x0)] [] M
  replace hq : RetOk Z X (some .int) False (PostI q M) 0 0 := hq
  unfold f_X9_bits at hf
  refine G.iconst 0 (0 : Int32) dX9_bits_0 (by decide +kernel) ?_
  refine G.istore_n 1 [(1, .int (0 : Int32)), (0, .int x0)] dX9_bits_1 rfl (Nat.le_of_ble_eq_true rfl) rfl ?_
  refine G.iload_n 2 1 dX9_bits_2 rfl rfl ?_
  refine G.istore_n 3 [(2, .int x0), (1, .int (0 : Int32)), (0, .int x0)] dX9_bits_3 rfl (Nat.le_of_ble_eq_true rfl) rfl ?_
  refine G.locs [1, 0] rfl ?_
  exact l_X9_bits_4 Z X hR hq FU (0 : Int32) x0 hs hf
abbrev Y_X9_isShelf : My := (cX9_isShelf, RX9, 1)
def rm_X9_isShelf : Room := { frames := 2, cells := 0, slots := 0, locals := 225 }
theorem dX9_isShelf_0 : decode cX9_isShelf 0 = .ok (.iload_n 0, 1) := by decide +kernel
theorem dX9_isShelf_1 : decode cX9_isShelf 1 = .ok (.i2l, 1) := by decide +kernel
theorem dX9_isShelf_2 : decode cX9_isShelf 2 = .ok (.lconst 0, 1) := by decide +kernel
theorem dX9_isShelf_3 : decode cX9_isShelf 3 = .ok (.ldc2_w 66, 3) := by decide +kernel
theorem dX9_isShelf_6 : decode cX9_isShelf 6 = .ok (.invokestatic 62, 3) := by decide +kernel
theorem dX9_isShelf_9 : decode cX9_isShelf 9 = .ok (.ireturn, 1) := by decide +kernel
def f_X9_isShelf (x0 : Int32) : Int32 := (f_X9_isIn x0.toInt64 (0 : Int64) (7 : Int64))
set_option maxRecDepth 100000 in
set_option maxHeartbeats 4000000 in
theorem c_X9_isShelf (Z : Sys) {M : Mem} (hs : St M) (x0 : Int32) {q : Int32} (hf : f_X9_isShelf x0 = q) : Ct Z yX9_isShelf cX9_isShelf 1 (some .boolean) rm_X9_isShelf [.int x0] M False (PostZ q M) := by
  refine Ct.of (by decide +kernel) (Nat.le_of_ble_eq_true rfl) (fun X hR hq _ => ?_)
  show G Z X Y_X9_isShelf False 0 0 0 [(0, .int x0)] [] M
  replace hq : RetOk Z X (some .boolean) False (PostZ q M) 0 0 := hq
  unfold f_X9_isShelf at hf
  refine G.iload_n 0 0 dX9_isShelf_0 rfl rfl ?_
  refine G.i2l 1 dX9_isShelf_1 ?_
  refine G.lconst 2 (0 : Int64) dX9_isShelf_2 (by decide +kernel) ?_
  refine G.ldc2 3 (7 : Int64) wd_1423 dX9_isShelf_3 ?_
  refine G.csZ 6 (As := [.long x0.toInt64, .long (0 : Int64), .long (7 : Int64)]) (c_X9_isIn Z hs x0.toInt64 (0 : Int64) (7 : Int64) rfl) mk_X9_isIn wd_1400 wd_1399 hR (by decide +kernel) ⟨rfl, rfl⟩ rfl (Nat.le_of_ble_eq_true rfl) dX9_isShelf_6 (fun hs1 z2 => ?_)
  subst hf
  exact G.rZ 9 hq dX9_isShelf_9 hs1 z2
abbrev Y_X9_copy : My := (cX9_copy, RX9, 8)
def rm_X9_copy : Room := { frames := 3, cells := 0, slots := 0, locals := 245 }
theorem dX9_copy_0 : decode cX9_copy 0 = .ok (.iload_n 1, 1) := by decide +kernel
theorem dX9_copy_1 : decode cX9_copy 1 = .ok (.invokestatic 111, 3) := by decide +kernel
theorem dX9_copy_4 : decode cX9_copy 4 = .ok (.ifCond .eq 10, 3) := by decide +kernel
theorem dX9_copy_7 : decode cX9_copy 7 = .ok (.iload_n 3, 1) := by decide +kernel
theorem dX9_copy_8 : decode cX9_copy 8 = .ok (.invokestatic 111, 3) := by decide +kernel
theorem dX9_copy_11 : decode cX9_copy 11 = .ok (.ifCond .ne 5, 3) := by decide +kernel
theorem dX9_copy_14 : decode cX9_copy 14 = .ok (.iconst (-1), 1) := by decide +kernel
theorem dX9_copy_15 : decode cX9_copy 15 = .ok (.ireturn, 1) := by decide +kernel
theorem dX9_copy_16 : decode cX9_copy 16 = .ok (.aload_n 0, 1) := by decide +kernel
theorem dX9_copy_17 : decode cX9_copy 17 = .ok (.getfield 16, 3) := by decide +kernel
theorem dX9_copy_20 : decode cX9_copy 20 = .ok (.iload_n 1, 1) := by decide +kernel
theorem dX9_copy_21 : decode cX9_copy 21 = .ok (.iaload, 1) := by decide +kernel
theorem dX9_copy_22 : decode cX9_copy 22 = .ok (.ifCond .eq 12, 3) := by decide +kernel
theorem dX9_copy_25 : decode cX9_copy 25 = .ok (.aload_n 0, 1) := by decide +kernel
theorem dX9_copy_26 : decode cX9_copy 26 = .ok (.getfield 16, 3) := by decide +kernel
theorem dX9_copy_29 : decode cX9_copy 29 = .ok (.iload_n 3, 1) := by decide +kernel
theorem dX9_copy_30 : decode cX9_copy 30 = .ok (.iaload, 1) := by decide +kernel
theorem dX9_copy_31 : decode cX9_copy 31 = .ok (.ifCond .ne 6, 3) := by decide +kernel
theorem dX9_copy_34 : decode cX9_copy 34 = .ok (.bipush (-11), 2) := by decide +kernel
theorem dX9_copy_36 : decode cX9_copy 36 = .ok (.ireturn, 1) := by decide +kernel
theorem dX9_copy_37 : decode cX9_copy 37 = .ok (.aload_n 0, 1) := by decide +kernel
theorem dX9_copy_38 : decode cX9_copy 38 = .ok (.getfield 16, 3) := by decide +kernel
theorem dX9_copy_41 : decode cX9_copy 41 = .ok (.iload_n 1, 1) := by decide +kernel
theorem dX9_copy_42 : decode cX9_copy 42 = .ok (.iaload, 1) := by decide +kernel
theorem dX9_copy_43 : decode cX9_copy 43 = .ok (.iconst 2, 1) := by decide +kernel
theorem dX9_copy_44 : decode cX9_copy 44 = .ok (.if_icmp .ne 28, 3) := by decide +kernel
theorem dX9_copy_47 : decode cX9_copy 47 = .ok (.aload_n 0, 1) := by decide +kernel
theorem dX9_copy_48 : decode cX9_copy 48 = .ok (.getfield 16, 3) := by decide +kernel
theorem dX9_copy_51 : decode cX9_copy 51 = .ok (.iload_n 3, 1) := by decide +kernel
theorem dX9_copy_52 : decode cX9_copy 52 = .ok (.iaload, 1) := by decide +kernel
theorem dX9_copy_53 : decode cX9_copy 53 = .ok (.iconst 2, 1) := by decide +kernel
theorem dX9_copy_54 : decode cX9_copy 54 = .ok (.if_icmp .ne 18, 3) := by decide +kernel
theorem dX9_copy_57 : decode cX9_copy 57 = .ok (.aload_n 0, 1) := by decide +kernel
theorem dX9_copy_58 : decode cX9_copy 58 = .ok (.getfield 19, 3) := by decide +kernel
theorem dX9_copy_61 : decode cX9_copy 61 = .ok (.iload_n 1, 1) := by decide +kernel
theorem dX9_copy_62 : decode cX9_copy 62 = .ok (.iaload, 1) := by decide +kernel
theorem dX9_copy_63 : decode cX9_copy 63 = .ok (.aload_n 0, 1) := by decide +kernel
theorem dX9_copy_64 : decode cX9_copy 64 = .ok (.getfield 19, 3) := by decide +kernel
theorem dX9_copy_67 : decode cX9_copy 67 = .ok (.iload_n 3, 1) := by decide +kernel
theorem dX9_copy_68 : decode cX9_copy 68 = .ok (.iaload, 1) := by decide +kernel
theorem dX9_copy_69 : decode cX9_copy 69 = .ok (.if_icmp .eq 6, 3) := by decide +kernel
theorem dX9_copy_72 : decode cX9_copy 72 = .ok (.bipush (-12), 2) := by decide +kernel
theorem dX9_copy_74 : decode cX9_copy 74 = .ok (.ireturn, 1) := by decide +kernel
theorem dX9_copy_75 : decode cX9_copy 75 = .ok (.iload 5, 2) := by decide +kernel
theorem dX9_copy_77 : decode cX9_copy 77 = .ok (.ifCond .lt 39, 3) := by decide +kernel
theorem dX9_copy_80 : decode cX9_copy 80 = .ok (.iload_n 2, 1) := by decide +kernel
theorem dX9_copy_81 : decode cX9_copy 81 = .ok (.ifCond .lt 35, 3) := by decide +kernel
theorem dX9_copy_84 : decode cX9_copy 84 = .ok (.iload 4, 2) := by decide +kernel
theorem dX9_copy_86 : decode cX9_copy 86 = .ok (.ifCond .lt 30, 3) := by decide +kernel
theorem dX9_copy_89 : decode cX9_copy 89 = .ok (.iload 5, 2) := by decide +kernel
theorem dX9_copy_91 : decode cX9_copy 91 = .ok (.aload_n 0, 1) := by decide +kernel
theorem dX9_copy_92 : decode cX9_copy 92 = .ok (.getfield 22, 3) := by decide +kernel
theorem dX9_copy_95 : decode cX9_copy 95 = .ok (.iload_n 1, 1) := by decide +kernel
theorem dX9_copy_96 : decode cX9_copy 96 = .ok (.iaload, 1) := by decide +kernel
theorem dX9_copy_97 : decode cX9_copy 97 = .ok (.iload_n 2, 1) := by decide +kernel
theorem dX9_copy_98 : decode cX9_copy 98 = .ok (.isub, 1) := by decide +kernel
theorem dX9_copy_99 : decode cX9_copy 99 = .ok (.if_icmp .gt 17, 3) := by decide +kernel
theorem dX9_copy_102 : decode cX9_copy 102 = .ok (.iload 5, 2) := by decide +kernel
theorem dX9_copy_104 : decode cX9_copy 104 = .ok (.aload_n 0, 1) := by decide +kernel
theorem dX9_copy_105 : decode cX9_copy 105 = .ok (.getfield 22, 3) := by decide +kernel
theorem dX9_copy_108 : decode cX9_copy 108 = .ok (.iload_n 3, 1) := by decide +kernel
theorem dX9_copy_109 : decode cX9_copy 109 = .ok (.iaload, 1) := by decide +kernel
theorem dX9_copy_110 : decode cX9_copy 110 = .ok (.iload 4, 2) := by decide +kernel
theorem dX9_copy_112 : decode cX9_copy 112 = .ok (.isub, 1) := by decide +kernel
theorem dX9_copy_113 : decode cX9_copy 113 = .ok (.if_icmp .le 6, 3) := by decide +kernel
theorem dX9_copy_116 : decode cX9_copy 116 = .ok (.bipush (-13), 2) := by decide +kernel
theorem dX9_copy_118 : decode cX9_copy 118 = .ok (.ireturn, 1) := by decide +kernel
theorem dX9_copy_119 : decode cX9_copy 119 = .ok (.iconst 0, 1) := by decide +kernel
theorem dX9_copy_120 : decode cX9_copy 120 = .ok (.istore 6, 2) := by decide +kernel
theorem dX9_copy_122 : decode cX9_copy 122 = .ok (.iload 6, 2) := by decide +kernel
theorem dX9_copy_124 : decode cX9_copy 124 = .ok (.iload 5, 2) := by decide +kernel
theorem dX9_copy_126 : decode cX9_copy 126 = .ok (.if_icmp .ge 58, 3) := by decide +kernel
theorem dX9_copy_129 : decode cX9_copy 129 = .ok (.iload_n 2, 1) := by decide +kernel
theorem dX9_copy_130 : decode cX9_copy 130 = .ok (.iload 4, 2) := by decide +kernel
theorem dX9_copy_132 : decode cX9_copy 132 = .ok (.if_icmp .le 8, 3) := by decide +kernel
theorem dX9_copy_135 : decode cX9_copy 135 = .ok (.iload 6, 2) := by decide +kernel
theorem dX9_copy_137 : decode cX9_copy 137 = .ok (.goto 10, 3) := by decide +kernel
theorem dX9_copy_140 : decode cX9_copy 140 = .ok (.iload 5, 2) := by decide +kernel
theorem dX9_copy_142 : decode cX9_copy 142 = .ok (.iconst 1, 1) := by decide +kernel
theorem dX9_copy_143 : decode cX9_copy 143 = .ok (.isub, 1) := by decide +kernel
theorem dX9_copy_144 : decode cX9_copy 144 = .ok (.iload 6, 2) := by decide +kernel
theorem dX9_copy_146 : decode cX9_copy 146 = .ok (.isub, 1) := by decide +kernel
theorem dX9_copy_147 : decode cX9_copy 147 = .ok (.istore 7, 2) := by decide +kernel
theorem dX9_copy_149 : decode cX9_copy 149 = .ok (.aload_n 0, 1) := by decide +kernel
theorem dX9_copy_150 : decode cX9_copy 150 = .ok (.getfield 25, 3) := by decide +kernel
theorem dX9_copy_153 : decode cX9_copy 153 = .ok (.bipush 80, 2) := by decide +kernel
theorem dX9_copy_155 : decode cX9_copy 155 = .ok (.iload_n 3, 1) := by decide +kernel
theorem dX9_copy_156 : decode cX9_copy 156 = .ok (.imul, 1) := by decide +kernel
theorem dX9_copy_157 : decode cX9_copy 157 = .ok (.iload 4, 2) := by decide +kernel
theorem dX9_copy_159 : decode cX9_copy 159 = .ok (.iadd, 1) := by decide +kernel
theorem dX9_copy_160 : decode cX9_copy 160 = .ok (.iload 7, 2) := by decide +kernel
theorem dX9_copy_162 : decode cX9_copy 162 = .ok (.iadd, 1) := by decide +kernel
theorem dX9_copy_163 : decode cX9_copy 163 = .ok (.aload_n 0, 1) := by decide +kernel
theorem dX9_copy_164 : decode cX9_copy 164 = .ok (.getfield 25, 3) := by decide +kernel
theorem dX9_copy_167 : decode cX9_copy 167 = .ok (.bipush 80, 2) := by decide +kernel
theorem dX9_copy_169 : decode cX9_copy 169 = .ok (.iload_n 1, 1) := by decide +kernel
theorem dX9_copy_170 : decode cX9_copy 170 = .ok (.imul, 1) := by decide +kernel
theorem dX9_copy_171 : decode cX9_copy 171 = .ok (.iload_n 2, 1) := by decide +kernel
theorem dX9_copy_172 : decode cX9_copy 172 = .ok (.iadd, 1) := by decide +kernel
theorem dX9_copy_173 : decode cX9_copy 173 = .ok (.iload 7, 2) := by decide +kernel
theorem dX9_copy_175 : decode cX9_copy 175 = .ok (.iadd, 1) := by decide +kernel
theorem dX9_copy_176 : decode cX9_copy 176 = .ok (.iaload, 1) := by decide +kernel
theorem dX9_copy_177 : decode cX9_copy 177 = .ok (.iastore, 1) := by decide +kernel
theorem dX9_copy_178 : decode cX9_copy 178 = .ok (.iinc 6 1, 3) := by decide +kernel
theorem dX9_copy_181 : decode cX9_copy 181 = .ok (.goto (-59), 3) := by decide +kernel
theorem dX9_copy_184 : decode cX9_copy 184 = .ok (.iload 5, 2) := by decide +kernel
theorem dX9_copy_186 : decode cX9_copy 186 = .ok (.ireturn, 1) := by decide +kernel
def L_X9_copy_122 : Nat → Int32 → Int32 → Int32 → Int32 → Int32 → Int32 → Mem → Option (Int32 × Mem)
  | 0, _, _, _, _, _, _, _ => none
  | n + 1, x1, x2, x3, x4, x5, x6, M => if x5 ≤ x6 then some (x5, M) else if x2 ≤ x4 then gd (inR ((((80 : Int32) * x1) + x2) + ((x5 - (1 : Int32)) - x6)) 640) (gd (inR ((((80 : Int32) * x3) + x4) + ((x5 - (1 : Int32)) - x6)) 640) (L_X9_copy_122 n x1 x2 x3 x4 x5 (x6 + 1) (sI M 290 ((((80 : Int32) * x3) + x4) + ((x5 - (1 : Int32)) - x6)).toNatClampNeg (mI M 290 ((((80 : Int32) * x1) + x2) + ((x5 - (1 : Int32)) - x6)).toNatClampNeg)))) else gd (inR ((((80 : Int32) * x1) + x2) + x6) 640) (gd (inR ((((80 : Int32) * x3) + x4) + x6) 640) (L_X9_copy_122 n x1 x2 x3 x4 x5 (x6 + 1) (sI M 290 ((((80 : Int32) * x3) + x4) + x6).toNatClampNeg (mI M 290 ((((80 : Int32) * x1) + x2) + x6).toNatClampNeg))))
def f_X9_copy (x1 : Int32) (x2 : Int32) (x3 : Int32) (x4 : Int32) (x5 : Int32) (M : Mem) : Option (Int32 × Mem) := if (f_X9_isShelf x1) = 0 then some ((-1 : Int32), M) else if (f_X9_isShelf x3) = 0 then some ((-1 : Int32), M) else gd (inR x1 8) (if (mI M 287 x1.toNatClampNeg) = 0 then some ((-11 : Int32), M) else gd (inR x3 8) (if (mI M 287 x3.toNatClampNeg) = 0 then some ((-11 : Int32), M) else if (mI M 287 x1.toNatClampNeg) = (2 : Int32) then if (mI M 287 x3.toNatClampNeg) = (2 : Int32) then if (mI M 288 x1.toNatClampNeg) = (mI M 288 x3.toNatClampNeg) then if x5 < 0 then some ((-13 : Int32), M) else if x2 < 0 then some ((-13 : Int32), M) else if x4 < 0 then some ((-13 : Int32), M) else if ((mI M 289 x1.toNatClampNeg) - x2) < x5 then some ((-13 : Int32), M) else if x5 ≤ ((mI M 289 x3.toNatClampNeg) - x4) then L_X9_copy_122 FU x1 x2 x3 x4 x5 (0 : Int32) M else some ((-13 : Int32), M) else some ((-12 : Int32), M) else some ((-12 : Int32), M) else some ((-12 : Int32), M)))
set_option maxRecDepth 100000 in
set_option maxHeartbeats 4000000 in
theorem l_X9_copy_122 (Z : Sys) (X : Cx) (hR : xR X = rm_X9_copy) {q : Int32 × Mem} (hq : RetOk Z X (some .int) False (PostI q.1 q.2) 0 0) : ∀ (n : Nat) (x1 : Int32) (x2 : Int32) (x3 : Int32) (x4 : Int32) (x5 : Int32) (x6 : Int32) (M : Mem) (hs : St M) (hf : L_X9_copy_122 n x1 x2 x3 x4 x5 x6 M = some q), G Z X Y_X9_copy False 0 0 122 [(0, .ref (zs Z + 284)), (1, .int x1), (2, .int x2), (3, .int x3), (4, .int x4), (5, .int x5), (6, .int x6)] [] M := by
  intro n
  induction n with
  | zero => intro x1 x2 x3 x4 x5 x6 M hs  hf; cases hf
  | succ n ih =>
    intro x1 x2 x3 x4 x5 x6 M hs  hf
    unfold L_X9_copy_122 at hf
    refine G.iload 122 6 dX9_copy_122 rfl ?_
    refine G.iload 124 5 dX9_copy_124 rfl ?_
    refine G.icmp_ge 126 184 dX9_copy_126 (by decide) (fun h19 => ?_) (fun h19 => ?_)
    · replace hf := (if_pos h19).symm.trans hf
      refine G.iload 184 5 dX9_copy_184 rfl ?_
      (have hf9 := Option.some.inj hf; subst hf9)
      exact G.rI 186 hq dX9_copy_186 hs
    · replace hf := (if_neg h19).symm.trans hf
      refine G.iload_n 129 2 dX9_copy_129 rfl rfl ?_
      refine G.iload 130 4 dX9_copy_130 rfl ?_
      refine G.icmp_le 132 140 dX9_copy_132 (by decide) (fun h20 => ?_) (fun h20 => ?_)
      · replace hf := (if_pos h20).symm.trans hf
        refine G.iload 140 5 dX9_copy_140 rfl ?_
        refine G.iconst 142 (1 : Int32) dX9_copy_142 (by decide +kernel) ?_
        refine G.isub 143 dX9_copy_143 ?_
        refine G.iload 144 6 dX9_copy_144 rfl ?_
        refine G.isub 146 dX9_copy_146 ?_
        refine G.istore 147 [(7, .int ((x5 - (1 : Int32)) - x6)), (0, .ref (zs Z + 284)), (1, .int x1), (2, .int x2), (3, .int x3), (4, .int x4), (5, .int x5), (6, .int x6)] dX9_copy_147 (Nat.le_of_ble_eq_true rfl) rfl ?_
        refine G.aload_n 149 1 dX9_copy_149 rfl rfl ?_
        refine G.getp 150 ck_9 5 290 (hs.k k0_284) (pc_9_5 hs) (by decide) (by decide +kernel) wd_1310 dX9_copy_150 ?_
        refine G.bipush 153 (80 : Int32) dX9_copy_153 (by decide +kernel) ?_
        refine G.iload_n 155 4 dX9_copy_155 rfl rfl ?_
        refine G.imul 156 dX9_copy_156 ?_
        refine G.iload 157 5 dX9_copy_157 rfl ?_
        refine G.iadd 159 dX9_copy_159 ?_
        refine G.iload 160 0 dX9_copy_160 rfl ?_
        refine G.iadd 162 dX9_copy_162 ?_
        refine G.aload_n 163 1 dX9_copy_163 rfl rfl ?_
        refine G.getp 164 ck_9 5 290 (hs.k k0_284) (pc_9_5 hs) (by decide) (by decide +kernel) wd_1310 dX9_copy_164 ?_
        refine G.bipush 167 (80 : Int32) dX9_copy_167 (by decide +kernel) ?_
        refine G.iload_n 169 2 dX9_copy_169 rfl rfl ?_
        refine G.imul 170 dX9_copy_170 ?_
        refine G.iload_n 171 3 dX9_copy_171 rfl rfl ?_
        refine G.iadd 172 dX9_copy_172 ?_
        refine G.iload 173 0 dX9_copy_173 rfl ?_
        refine G.iadd 175 dX9_copy_175 ?_
        obtain ⟨g21, hf⟩ := gd_e hf
        refine G.ia 176 ((((80 : Int32) * x1) + x2) + ((x5 - (1 : Int32)) - x6)).toNatClampNeg (hs.k k0_290) g21 rfl dX9_copy_176 ?_
        obtain ⟨g22, hf⟩ := gd_e hf
        refine G.ist 177 ((((80 : Int32) * x3) + x4) + ((x5 - (1 : Int32)) - x6)).toNatClampNeg (hs.k k0_290) g22 rfl dX9_copy_177 ?_
        refine G.iinc 178 7 (x6 + 1) [(6, .int (x6 + 1)), (7, .int ((x5 - (1 : Int32)) - x6)), (0, .ref (zs Z + 284)), (1, .int x1), (2, .int x2), (3, .int x3), (4, .int x4), (5, .int x5)] dX9_copy_178 rfl (congrArg (fun z => x6 + z) (by decide +kernel)) (Nat.le_of_ble_eq_true rfl) rfl ?_
        refine G.goto 181 122 dX9_copy_181 (by decide) ?_
        refine G.locs [2, 3, 4, 5, 6, 7, 0] rfl ?_
        exact ih x1 x2 x3 x4 x5 (x6 + 1) (sI M 290 ((((80 : Int32) * x3) + x4) + ((x5 - (1 : Int32)) - x6)).toNatClampNeg (mI M 290 ((((80 : Int32) * x1) + x2) + ((x5 - (1 : Int32)) - x6)).toNatClampNeg)) (St.i hs) hf
      · replace hf := (if_neg h20).symm.trans hf
        refine G.iload 135 6 dX9_copy_135 rfl ?_
        refine G.goto 137 147 dX9_copy_137 (by decide) ?_
        refine G.istore 147 [(7, .int x6), (0, .ref (zs Z + 284)), (1, .int x1), (2, .int x2), (3, .int x3), (4, .int x4), (5, .int x5), (6, .int x6)] dX9_copy_147 (Nat.le_of_ble_eq_true rfl) rfl ?_
        refine G.aload_n 149 1 dX9_copy_149 rfl rfl ?_
        refine G.getp 150 ck_9 5 290 (hs.k k0_284) (pc_9_5 hs) (by decide) (by decide +kernel) wd_1310 dX9_copy_150 ?_
        refine G.bipush 153 (80 : Int32) dX9_copy_153 (by decide +kernel) ?_
        refine G.iload_n 155 4 dX9_copy_155 rfl rfl ?_
        refine G.imul 156 dX9_copy_156 ?_
        refine G.iload 157 5 dX9_copy_157 rfl ?_
        refine G.iadd 159 dX9_copy_159 ?_
        refine G.iload 160 0 dX9_copy_160 rfl ?_
        refine G.iadd 162 dX9_copy_162 ?_
        refine G.aload_n 163 1 dX9_copy_163 rfl rfl ?_
        refine G.getp 164 ck_9 5 290 (hs.k k0_284) (pc_9_5 hs) (by decide) (by decide +kernel) wd_1310 dX9_copy_164 ?_
        refine G.bipush 167 (80 : Int32) dX9_copy_167 (by decide +kernel) ?_
        refine G.iload_n 169 2 dX9_copy_169 rfl rfl ?_
        refine G.imul 170 dX9_copy_170 ?_
        refine G.iload_n 171 3 dX9_copy_171 rfl rfl ?_
        refine G.iadd 172 dX9_copy_172 ?_
        refine G.iload 173 0 dX9_copy_173 rfl ?_
        refine G.iadd 175 dX9_copy_175 ?_
        obtain ⟨g23, hf⟩ := gd_e hf
        refine G.ia 176 ((((80 : Int32) * x1) + x2) + x6).toNatClampNeg (hs.k k0_290) g23 rfl dX9_copy_176 ?_
        obtain ⟨g24, hf⟩ := gd_e hf
        refine G.ist 177 ((((80 : Int32) * x3) + x4) + x6).toNatClampNeg (hs.k k0_290) g24 rfl dX9_copy_177 ?_
        refine G.iinc 178 7 (x6 + 1) [(6, .int (x6 + 1)), (7, .int x6), (0, .ref (zs Z + 284)), (1, .int x1), (2, .int x2), (3, .int x3), (4, .int x4), (5, .int x5)] dX9_copy_178 rfl (congrArg (fun z => x6 + z) (by decide +kernel)) (Nat.le_of_ble_eq_true rfl) rfl ?_
        refine G.goto 181 122 dX9_copy_181 (by decide) ?_
        refine G.locs [2, 3, 4, 5, 6, 7, 0] rfl ?_
        exact ih x1 x2 x3 x4 x5 (x6 + 1) (sI M 290 ((((80 : Int32) * x3) + x4) + x6).toNatClampNeg (mI M 290 ((((80 : Int32) * x1) + x2) + x6).toNatClampNeg)) (St.i hs) hf
set_option maxRecDepth 100000 in
set_option maxHeartbeats 4000000 in
theorem c_X9_copy (Z : Sys) {M : Mem} (hs : St M) (x1 : Int32) (x2 : Int32) (x3 : Int32) (x4 : Int32) (x5 : Int32) {q : Int32 × Mem} (hf : f_X9_copy x1 x2 x3 x4 x5 M = some q) : Ct Z yX9_copy cX9_copy 8 (some .int) rm_X9_copy [.ref (zs Z + 284), .int x1, .int x2, .int x3, .int x4, .int x5] M False (PostI q.1 q.2) := by
  refine Ct.of (by decide +kernel) (Nat.le_of_ble_eq_true rfl) (fun X hR hq _ => ?_)
  show G Z X Y_X9_copy False 0 0 0 [(0, .ref (zs Z + 284)), (1, .int x1), (2, .int x2), (3, .int x3), (4, .int x4), (5, .int x5)] [] M
  replace hq : RetOk Z X (some .int) False (PostI q.1 q.2) 0 0 := hq
  unfold f_X9_copy at hf
  refine G.iload_n 0 1 dX9_copy_0 rfl rfl ?_
  refine G.csZ 1 (As := [.int x1]) (c_X9_isShelf Z hs x1 rfl) mk_X9_isShelf wd_1470 wd_1469 hR (by decide +kernel) ⟨rfl, rfl⟩ rfl (Nat.le_of_ble_eq_true rfl) dX9_copy_1 (fun hs1 z2 => ?_)
  refine G.if_eq 4 14 dX9_copy_4 (by decide) (fun h3 => ?_) (fun h3 => ?_)
  · replace hf := (if_pos h3).symm.trans hf
    refine G.iconst 14 (-1 : Int32) dX9_copy_14 (by decide +kernel) ?_
    (have hf9 := Option.some.inj hf; subst hf9)
    exact G.rI 15 hq dX9_copy_15 hs1
  · replace hf := (if_neg h3).symm.trans hf
    refine G.iload_n 7 3 dX9_copy_7 rfl rfl ?_
    refine G.csZ 8 (As := [.int x3]) (c_X9_isShelf Z hs1 x3 rfl) mk_X9_isShelf wd_1470 wd_1469 hR (by decide +kernel) ⟨rfl, rfl⟩ rfl (Nat.le_of_ble_eq_true rfl) dX9_copy_8 (fun hs4 z5 => ?_)
    refine G.if_ne 11 16 dX9_copy_11 (by decide) (fun h6 => ?_) (fun h6 => ?_)
    · replace hf := (if_neg h6).symm.trans hf
      refine G.aload_n 16 0 dX9_copy_16 rfl rfl ?_
      refine G.getp 17 ck_9 2 287 (hs4.k k0_284) (pc_9_2 hs4) (by decide) (by decide +kernel) wd_1307 dX9_copy_17 ?_
      refine G.iload_n 20 1 dX9_copy_20 rfl rfl ?_
      obtain ⟨g7, hf⟩ := gd_e hf
      refine G.ia 21 x1.toNatClampNeg (hs4.k k0_287) g7 rfl dX9_copy_21 ?_
      refine G.if_eq 22 34 dX9_copy_22 (by decide) (fun h8 => ?_) (fun h8 => ?_)
      · replace hf := (if_pos h8).symm.trans hf
        refine G.bipush 34 (-11 : Int32) dX9_copy_34 (by decide +kernel) ?_
        (have hf9 := Option.some.inj hf; subst hf9)
        exact G.rI 36 hq dX9_copy_36 hs4
      · replace hf := (if_neg h8).symm.trans hf
        refine G.aload_n 25 0 dX9_copy_25 rfl rfl ?_
        refine G.getp 26 ck_9 2 287 (hs4.k k0_284) (pc_9_2 hs4) (by decide) (by decide +kernel) wd_1307 dX9_copy_26 ?_
        refine G.iload_n 29 3 dX9_copy_29 rfl rfl ?_
        obtain ⟨g9, hf⟩ := gd_e hf
        refine G.ia 30 x3.toNatClampNeg (hs4.k k0_287) g9 rfl dX9_copy_30 ?_
        refine G.if_ne 31 37 dX9_copy_31 (by decide) (fun h10 => ?_) (fun h10 => ?_)
        · replace hf := (if_neg h10).symm.trans hf
          refine G.aload_n 37 0 dX9_copy_37 rfl rfl ?_
          refine G.getp 38 ck_9 2 287 (hs4.k k0_284) (pc_9_2 hs4) (by decide) (by decide +kernel) wd_1307 dX9_copy_38 ?_
          refine G.iload_n 41 1 dX9_copy_41 rfl rfl ?_
          refine G.ia 42 x1.toNatClampNeg (hs4.k k0_287) g7 rfl dX9_copy_42 ?_
          refine G.iconst 43 (2 : Int32) dX9_copy_43 (by decide +kernel) ?_
          refine G.icmp_ne 44 72 dX9_copy_44 (by decide) (fun h11 => ?_) (fun h11 => ?_)
          · replace hf := (if_neg h11).symm.trans hf
            refine G.bipush 72 (-12 : Int32) dX9_copy_72 (by decide +kernel) ?_
            (have hf9 := Option.some.inj hf; subst hf9)
            exact G.rI 74 hq dX9_copy_74 hs4
          · replace hf := (if_pos h11).symm.trans hf
            refine G.aload_n 47 0 dX9_copy_47 rfl rfl ?_
            refine G.getp 48 ck_9 2 287 (hs4.k k0_284) (pc_9_2 hs4) (by decide) (by decide +kernel) wd_1307 dX9_copy_48 ?_
            refine G.iload_n 51 3 dX9_copy_51 rfl rfl ?_
            refine G.ia 52 x3.toNatClampNeg (hs4.k k0_287) g9 rfl dX9_copy_52 ?_
            refine G.iconst 53 (2 : Int32) dX9_copy_53 (by decide +kernel) ?_
            refine G.icmp_ne 54 72 dX9_copy_54 (by decide) (fun h12 => ?_) (fun h12 => ?_)
            · replace hf := (if_neg h12).symm.trans hf
              refine G.bipush 72 (-12 : Int32) dX9_copy_72 (by decide +kernel) ?_
              (have hf9 := Option.some.inj hf; subst hf9)
              exact G.rI 74 hq dX9_copy_74 hs4
            · replace hf := (if_pos h12).symm.trans hf
              refine G.aload_n 57 0 dX9_copy_57 rfl rfl ?_
              refine G.getp 58 ck_9 3 288 (hs4.k k0_284) (pc_9_3 hs4) (by decide) (by decide +kernel) wd_1308 dX9_copy_58 ?_
              refine G.iload_n 61 1 dX9_copy_61 rfl rfl ?_
              refine G.ia 62 x1.toNatClampNeg (hs4.k k0_288) g7 rfl dX9_copy_62 ?_
              refine G.aload_n 63 0 dX9_copy_63 rfl rfl ?_
              refine G.getp 64 ck_9 3 288 (hs4.k k0_284) (pc_9_3 hs4) (by decide) (by decide +kernel) wd_1308 dX9_copy_64 ?_
              refine G.iload_n 67 3 dX9_copy_67 rfl rfl ?_
              refine G.ia 68 x3.toNatClampNeg (hs4.k k0_288) g9 rfl dX9_copy_68 ?_
              refine G.icmp_eq 69 75 dX9_copy_69 (by decide) (fun h13 => ?_) (fun h13 => ?_)
              · replace hf := (if_pos h13).symm.trans hf
                refine G.iload 75 5 dX9_copy_75 rfl ?_
                refine G.if_lt 77 116 dX9_copy_77 (by decide) (fun h14 => ?_) (fun h14 => ?_)
                · replace hf := (if_pos h14).symm.trans hf
                  refine G.bipush 116 (-13 : Int32) dX9_copy_116 (by decide +kernel) ?_
                  (have hf9 := Option.some.inj hf; subst hf9)
                  exact G.rI 118 hq dX9_copy_118 hs4
                · replace hf := (if_neg h14).symm.trans hf
                  refine G.iload_n 80 2 dX9_copy_80 rfl rfl ?_
                  refine G.if_lt 81 116 dX9_copy_81 (by decide) (fun h15 => ?_) (fun h15 => ?_)
                  · replace hf := (if_pos h15).symm.trans hf
                    refine G.bipush 116 (-13 : Int32) dX9_copy_116 (by decide +kernel) ?_
                    (have hf9 := Option.some.inj hf; subst hf9)
                    exact G.rI 118 hq dX9_copy_118 hs4
                  · replace hf := (if_neg h15).symm.trans hf
                    refine G.iload 84 4 dX9_copy_84 rfl ?_
                    refine G.if_lt 86 116 dX9_copy_86 (by decide) (fun h16 => ?_) (fun h16 => ?_)
                    · replace hf := (if_pos h16).symm.trans hf
                      refine G.bipush 116 (-13 : Int32) dX9_copy_116 (by decide +kernel) ?_
                      (have hf9 := Option.some.inj hf; subst hf9)
                      exact G.rI 118 hq dX9_copy_118 hs4
                    · replace hf := (if_neg h16).symm.trans hf
                      refine G.iload 89 5 dX9_copy_89 rfl ?_
                      refine G.aload_n 91 0 dX9_copy_91 rfl rfl ?_
                      refine G.getp 92 ck_9 4 289 (hs4.k k0_284) (pc_9_4 hs4) (by decide) (by decide +kernel) wd_1309 dX9_copy_92 ?_
                      refine G.iload_n 95 1 dX9_copy_95 rfl rfl ?_
                      refine G.ia 96 x1.toNatClampNeg (hs4.k k0_289) g7 rfl dX9_copy_96 ?_
                      refine G.iload_n 97 2 dX9_copy_97 rfl rfl ?_
                      refine G.isub 98 dX9_copy_98 ?_
                      refine G.icmp_gt 99 116 dX9_copy_99 (by decide) (fun h17 => ?_) (fun h17 => ?_)
                      · replace hf := (if_pos h17).symm.trans hf
                        refine G.bipush 116 (-13 : Int32) dX9_copy_116 (by decide +kernel) ?_
                        (have hf9 := Option.some.inj hf; subst hf9)
                        exact G.rI 118 hq dX9_copy_118 hs4
                      · replace hf := (if_neg h17).symm.trans hf
                        refine G.iload 102 5 dX9_copy_102 rfl ?_
                        refine G.aload_n 104 0 dX9_copy_104 rfl rfl ?_
                        refine G.getp 105 ck_9 4 289 (hs4.k k0_284) (pc_9_4 hs4) (by decide) (by decide +kernel) wd_1309 dX9_copy_105 ?_
                        refine G.iload_n 108 3 dX9_copy_108 rfl rfl ?_
                        refine G.ia 109 x3.toNatClampNeg (hs4.k k0_289) g9 rfl dX9_copy_109 ?_
                        refine G.iload 110 4 dX9_copy_110 rfl ?_
                        refine G.isub 112 dX9_copy_112 ?_
                        refine G.icmp_le 113 119 dX9_copy_113 (by decide) (fun h18 => ?_) (fun h18 => ?_)
                        · replace hf := (if_pos h18).symm.trans hf
                          refine G.iconst 119 (0 : Int32) dX9_copy_119 (by decide +kernel) ?_
                          refine G.istore 120 [(6, .int (0 : Int32)), (0, .ref (zs Z + 284)), (1, .int x1), (2, .int x2), (3, .int x3), (4, .int x4), (5, .int x5)] dX9_copy_120 (Nat.le_of_ble_eq_true rfl) rfl ?_
                          refine G.locs [1, 2, 3, 4, 5, 6, 0] rfl ?_
                          exact l_X9_copy_122 Z X hR hq FU x1 x2 x3 x4 x5 (0 : Int32) M hs4 hf
                        · replace hf := (if_neg h18).symm.trans hf
                          refine G.bipush 116 (-13 : Int32) dX9_copy_116 (by decide +kernel) ?_
                          (have hf9 := Option.some.inj hf; subst hf9)
                          exact G.rI 118 hq dX9_copy_118 hs4
              · replace hf := (if_neg h13).symm.trans hf
                refine G.bipush 72 (-12 : Int32) dX9_copy_72 (by decide +kernel) ?_
                (have hf9 := Option.some.inj hf; subst hf9)
                exact G.rI 74 hq dX9_copy_74 hs4
        · replace hf := (if_pos h10).symm.trans hf
          refine G.bipush 34 (-11 : Int32) dX9_copy_34 (by decide +kernel) ?_
          (have hf9 := Option.some.inj hf; subst hf9)
          exact G.rI 36 hq dX9_copy_36 hs4
    · replace hf := (if_pos h6).symm.trans hf
      refine G.iconst 14 (-1 : Int32) dX9_copy_14 (by decide +kernel) ?_
      (have hf9 := Option.some.inj hf; subst hf9)
      exact G.rI 15 hq dX9_copy_15 hs4
