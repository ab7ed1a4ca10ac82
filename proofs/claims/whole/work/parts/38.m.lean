abbrev Y_X9_untrueAll : My := (cX9_untrueAll, RX9, 4)
def rm_X9_untrueAll : Room := { frames := 3, cells := 0, slots := 0, locals := 246 }
theorem dX9_untrueAll_0 : decode cX9_untrueAll 0 = .ok (.iconst 0, 1) := by decide +kernel
theorem dX9_untrueAll_1 : decode cX9_untrueAll 1 = .ok (.istore_n 2, 1) := by decide +kernel
theorem dX9_untrueAll_2 : decode cX9_untrueAll 2 = .ok (.iconst 0, 1) := by decide +kernel
theorem dX9_untrueAll_3 : decode cX9_untrueAll 3 = .ok (.istore_n 3, 1) := by decide +kernel
theorem dX9_untrueAll_4 : decode cX9_untrueAll 4 = .ok (.iload_n 3, 1) := by decide +kernel
theorem dX9_untrueAll_5 : decode cX9_untrueAll 5 = .ok (.aload_n 0, 1) := by decide +kernel
theorem dX9_untrueAll_6 : decode cX9_untrueAll 6 = .ok (.getfield 9, 3) := by decide +kernel
theorem dX9_untrueAll_9 : decode cX9_untrueAll 9 = .ok (.sipush 1192, 3) := by decide +kernel
theorem dX9_untrueAll_12 : decode cX9_untrueAll 12 = .ok (.iaload, 1) := by decide +kernel
theorem dX9_untrueAll_13 : decode cX9_untrueAll 13 = .ok (.if_icmp .ge 30, 3) := by decide +kernel
theorem dX9_untrueAll_16 : decode cX9_untrueAll 16 = .ok (.iload_n 2, 1) := by decide +kernel
theorem dX9_untrueAll_17 : decode cX9_untrueAll 17 = .ok (.aload_n 0, 1) := by decide +kernel
theorem dX9_untrueAll_18 : decode cX9_untrueAll 18 = .ok (.iload_n 3, 1) := by decide +kernel
theorem dX9_untrueAll_19 : decode cX9_untrueAll 19 = .ok (.invokevirtual 97, 3) := by decide +kernel
theorem dX9_untrueAll_22 : decode cX9_untrueAll 22 = .ok (.ifCond .eq 12, 3) := by decide +kernel
theorem dX9_untrueAll_25 : decode cX9_untrueAll 25 = .ok (.aload_n 0, 1) := by decide +kernel
theorem dX9_untrueAll_26 : decode cX9_untrueAll 26 = .ok (.iload_n 3, 1) := by decide +kernel
theorem dX9_untrueAll_27 : decode cX9_untrueAll 27 = .ok (.iload_n 1, 1) := by decide +kernel
theorem dX9_untrueAll_28 : decode cX9_untrueAll 28 = .ok (.invokevirtual 175, 3) := by decide +kernel
theorem dX9_untrueAll_31 : decode cX9_untrueAll 31 = .ok (.goto 4, 3) := by decide +kernel
theorem dX9_untrueAll_34 : decode cX9_untrueAll 34 = .ok (.iconst 0, 1) := by decide +kernel
theorem dX9_untrueAll_35 : decode cX9_untrueAll 35 = .ok (.iadd, 1) := by decide +kernel
theorem dX9_untrueAll_36 : decode cX9_untrueAll 36 = .ok (.istore_n 2, 1) := by decide +kernel
theorem dX9_untrueAll_37 : decode cX9_untrueAll 37 = .ok (.iinc 3 1, 3) := by decide +kernel
theorem dX9_untrueAll_40 : decode cX9_untrueAll 40 = .ok (.goto (-36), 3) := by decide +kernel
theorem dX9_untrueAll_43 : decode cX9_untrueAll 43 = .ok (.iload_n 2, 1) := by decide +kernel
theorem dX9_untrueAll_44 : decode cX9_untrueAll 44 = .ok (.ireturn, 1) := by decide +kernel
def L_X9_untrueAll_4 : Nat → Int32 → Int32 → Int32 → Mem → Option Int32
  | 0, _, _, _, _ => none
  | n + 1, x1, x2, x3, M => if (mI M 285 1192) ≤ x3 then some x2 else (f_X9_has x3 M).bind fun q4 => if q4 = 0 then L_X9_untrueAll_4 n x1 (x2 + (0 : Int32)) (x3 + 1) M else (f_X9_untrueOf x3 x1 M).bind fun q9 => L_X9_untrueAll_4 n x1 (x2 + q9) (x3 + 1) M
def f_X9_untrueAll (x1 : Int32) (M : Mem) : Option Int32 := L_X9_untrueAll_4 FU x1 (0 : Int32) (0 : Int32) M
set_option maxRecDepth 100000 in
set_option maxHeartbeats 4000000 in
theorem l_X9_untrueAll_4 (Z : Sys) (X : Cx) (hR : xR X = rm_X9_untrueAll) {q : Int32} {M : Mem} (hq : RetOk Z X (some .int) False (PostI q M) 0 0) : ∀ (n : Nat) (x1 : Int32) (x2 : Int32) (x3 : Int32) (hs : St M) (hf : L_X9_untrueAll_4 n x1 x2 x3 M = some q), G Z X Y_X9_untrueAll False 0 0 4 [(0, .ref (zs Z + 284)), (1, .int x1), (2, .int x2), (3, .int x3)] [] M := by
  intro n
  induction n with
  | zero => intro x1 x2 x3 hs  hf; cases hf
  | succ n ih =>
    intro x1 x2 x3 hs  hf
    unfold L_X9_untrueAll_4 at hf
    refine G.iload_n 4 3 dX9_untrueAll_4 rfl rfl ?_
    refine G.aload_n 5 0 dX9_untrueAll_5 rfl rfl ?_
    refine G.getp 6 ck_9 0 285 (hs.k k0_284) (pc_9_0 hs) (by decide) (by decide +kernel) wd_1305 dX9_untrueAll_6 ?_
    refine G.sipush 9 (1192 : Int32) dX9_untrueAll_9 (by decide +kernel) ?_
    refine G.ia 12 1192 (hs.k k0_285) (by decide +kernel) (by decide +kernel) dX9_untrueAll_12 ?_
    refine G.icmp_ge 13 43 dX9_untrueAll_13 (by decide) (fun h1 => ?_) (fun h1 => ?_)
    · replace hf := (if_pos h1).symm.trans hf
      refine G.iload_n 43 2 dX9_untrueAll_43 rfl rfl ?_
      (have hf9 := Option.some.inj hf; subst hf9)
      exact G.rI 44 hq dX9_untrueAll_44 hs
    · replace hf := (if_neg h1).symm.trans hf
      refine G.iload_n 16 2 dX9_untrueAll_16 rfl rfl ?_
      refine G.aload_n 17 0 dX9_untrueAll_17 rfl rfl ?_
      refine G.iload_n 18 3 dX9_untrueAll_18 rfl rfl ?_
      obtain ⟨q4, e5, hf⟩ := bd_e hf
      refine G.cvZ 19 (As := [.int x3]) ck_9 (hs.k k0_284) (c_X9_has Z hs x3 e5) mk_X9_has vk_X9_has rfl wd_1445 hR (by decide +kernel) ⟨rfl, rfl⟩ rfl (Nat.le_of_ble_eq_true rfl) dX9_untrueAll_19 (fun hs2 z3 => ?_)
      refine G.if_eq 22 34 dX9_untrueAll_22 (by decide) (fun h6 => ?_) (fun h6 => ?_)
      · replace hf := (if_pos h6).symm.trans hf
        refine G.iconst 34 (0 : Int32) dX9_untrueAll_34 (by decide +kernel) ?_
        refine G.iadd 35 dX9_untrueAll_35 ?_
        refine G.istore_n 36 [(2, .int (x2 + (0 : Int32))), (0, .ref (zs Z + 284)), (1, .int x1), (3, .int x3)] dX9_untrueAll_36 rfl (Nat.le_of_ble_eq_true rfl) rfl ?_
        refine G.iinc 37 3 (x3 + 1) [(3, .int (x3 + 1)), (2, .int (x2 + (0 : Int32))), (0, .ref (zs Z + 284)), (1, .int x1)] dX9_untrueAll_37 rfl (congrArg (fun z => x3 + z) (by decide +kernel)) (Nat.le_of_ble_eq_true rfl) rfl ?_
        refine G.goto 40 4 dX9_untrueAll_40 (by decide) ?_
        refine G.locs [2, 3, 1, 0] rfl ?_
        exact ih x1 (x2 + (0 : Int32)) (x3 + 1) hs2 hf
      · replace hf := (if_neg h6).symm.trans hf
        refine G.aload_n 25 0 dX9_untrueAll_25 rfl rfl ?_
        refine G.iload_n 26 3 dX9_untrueAll_26 rfl rfl ?_
        refine G.iload_n 27 1 dX9_untrueAll_27 rfl rfl ?_
        obtain ⟨q9, e10, hf⟩ := bd_e hf
        refine G.cvI 28 (As := [.int x3, .int x1]) ck_9 (hs2.k k0_284) (c_X9_untrueOf Z hs2 x3 x1 e10) mk_X9_untrueOf vk_X9_untrueOf rfl wd_1591 hR (by decide +kernel) ⟨rfl, rfl⟩ rfl (Nat.le_of_ble_eq_true rfl) dX9_untrueAll_28 (fun hs7 => ?_)
        refine G.goto 31 35 dX9_untrueAll_31 (by decide) ?_
        refine G.iadd 35 dX9_untrueAll_35 ?_
        refine G.istore_n 36 [(2, .int (x2 + q9)), (0, .ref (zs Z + 284)), (1, .int x1), (3, .int x3)] dX9_untrueAll_36 rfl (Nat.le_of_ble_eq_true rfl) rfl ?_
        refine G.iinc 37 3 (x3 + 1) [(3, .int (x3 + 1)), (2, .int (x2 + q9)), (0, .ref (zs Z + 284)), (1, .int x1)] dX9_untrueAll_37 rfl (congrArg (fun z => x3 + z) (by decide +kernel)) (Nat.le_of_ble_eq_true rfl) rfl ?_
        refine G.goto 40 4 dX9_untrueAll_40 (by decide) ?_
        refine G.locs [2, 3, 1, 0] rfl ?_
        exact ih x1 (x2 + q9) (x3 + 1) hs7 hf
set_option maxRecDepth 100000 in
set_option maxHeartbeats 4000000 in
theorem c_X9_untrueAll (Z : Sys) {M : Mem} (hs : St M) (x1 : Int32) {q : Int32} (hf : f_X9_untrueAll x1 M = some q) : Ct Z yX9_untrueAll cX9_untrueAll 4 (some .int) rm_X9_untrueAll [.ref (zs Z + 284), .int x1] M False (PostI q M) := by
  refine Ct.of (by decide +kernel) (Nat.le_of_ble_eq_true rfl) (fun X hR hq _ => ?_)
  show G Z X Y_X9_untrueAll False 0 0 0 [(0, .ref (zs Z + 284)), (1, .int x1)] [] M
  replace hq : RetOk Z X (some .int) False (PostI q M) 0 0 := hq
  unfold f_X9_untrueAll at hf
  refine G.iconst 0 (0 : Int32) dX9_untrueAll_0 (by decide +kernel) ?_
  refine G.istore_n 1 [(2, .int (0 : Int32)), (0, .ref (zs Z + 284)), (1, .int x1)] dX9_untrueAll_1 rfl (Nat.le_of_ble_eq_true rfl) rfl ?_
  refine G.iconst 2 (0 : Int32) dX9_untrueAll_2 (by decide +kernel) ?_
  refine G.istore_n 3 [(3, .int (0 : Int32)), (2, .int (0 : Int32)), (0, .ref (zs Z + 284)), (1, .int x1)] dX9_untrueAll_3 rfl (Nat.le_of_ble_eq_true rfl) rfl ?_
  refine G.locs [2, 3, 1, 0] rfl ?_
  exact l_X9_untrueAll_4 Z X hR hq FU x1 (0 : Int32) (0 : Int32) hs hf
abbrev Y_X9_measureNow : My := (cX9_measureNow, RX9, 4)
def rm_X9_measureNow : Room := { frames := 6, cells := 0, slots := 0, locals := 312 }
theorem dX9_measureNow_0 : decode cX9_measureNow 0 = .ok (.iconst 0, 1) := by decide +kernel
theorem dX9_measureNow_1 : decode cX9_measureNow 1 = .ok (.istore_n 2, 1) := by decide +kernel
theorem dX9_measureNow_2 : decode cX9_measureNow 2 = .ok (.iload_n 1, 1) := by decide +kernel
theorem dX9_measureNow_3 : decode cX9_measureNow 3 = .ok (.tableswitch 89 0 3 #[29, 29, 35, 41], 29) := by decide +kernel
theorem dX9_measureNow_32 : decode cX9_measureNow 32 = .ok (.aload_n 0, 1) := by decide +kernel
theorem dX9_measureNow_33 : decode cX9_measureNow 33 = .ok (.iload_n 1, 1) := by decide +kernel
theorem dX9_measureNow_34 : decode cX9_measureNow 34 = .ok (.invokevirtual 195, 3) := by decide +kernel
theorem dX9_measureNow_37 : decode cX9_measureNow 37 = .ok (.ireturn, 1) := by decide +kernel
theorem dX9_measureNow_38 : decode cX9_measureNow 38 = .ok (.aload_n 0, 1) := by decide +kernel
theorem dX9_measureNow_39 : decode cX9_measureNow 39 = .ok (.iconst (-1), 1) := by decide +kernel
theorem dX9_measureNow_40 : decode cX9_measureNow 40 = .ok (.invokevirtual 198, 3) := by decide +kernel
theorem dX9_measureNow_43 : decode cX9_measureNow 43 = .ok (.ireturn, 1) := by decide +kernel
theorem dX9_measureNow_44 : decode cX9_measureNow 44 = .ok (.iconst 0, 1) := by decide +kernel
theorem dX9_measureNow_45 : decode cX9_measureNow 45 = .ok (.istore_n 3, 1) := by decide +kernel
theorem dX9_measureNow_46 : decode cX9_measureNow 46 = .ok (.iload_n 3, 1) := by decide +kernel
theorem dX9_measureNow_47 : decode cX9_measureNow 47 = .ok (.aload_n 0, 1) := by decide +kernel
theorem dX9_measureNow_48 : decode cX9_measureNow 48 = .ok (.getfield 9, 3) := by decide +kernel
theorem dX9_measureNow_51 : decode cX9_measureNow 51 = .ok (.sipush 1192, 3) := by decide +kernel
theorem dX9_measureNow_54 : decode cX9_measureNow 54 = .ok (.iaload, 1) := by decide +kernel
theorem dX9_measureNow_55 : decode cX9_measureNow 55 = .ok (.if_icmp .ge 35, 3) := by decide +kernel
theorem dX9_measureNow_58 : decode cX9_measureNow 58 = .ok (.iload_n 2, 1) := by decide +kernel
theorem dX9_measureNow_59 : decode cX9_measureNow 59 = .ok (.aload_n 0, 1) := by decide +kernel
theorem dX9_measureNow_60 : decode cX9_measureNow 60 = .ok (.iload_n 3, 1) := by decide +kernel
theorem dX9_measureNow_61 : decode cX9_measureNow 61 = .ok (.invokevirtual 97, 3) := by decide +kernel
theorem dX9_measureNow_64 : decode cX9_measureNow 64 = .ok (.ifCond .eq 17, 3) := by decide +kernel
theorem dX9_measureNow_67 : decode cX9_measureNow 67 = .ok (.aload_n 0, 1) := by decide +kernel
theorem dX9_measureNow_68 : decode cX9_measureNow 68 = .ok (.iload_n 3, 1) := by decide +kernel
theorem dX9_measureNow_69 : decode cX9_measureNow 69 = .ok (.invokevirtual 100, 3) := by decide +kernel
theorem dX9_measureNow_72 : decode cX9_measureNow 72 = .ok (.bipush 95, 2) := by decide +kernel
theorem dX9_measureNow_74 : decode cX9_measureNow 74 = .ok (.if_icmp .lt 7, 3) := by decide +kernel
theorem dX9_measureNow_77 : decode cX9_measureNow 77 = .ok (.iconst 1, 1) := by decide +kernel
theorem dX9_measureNow_78 : decode cX9_measureNow 78 = .ok (.goto 4, 3) := by decide +kernel
theorem dX9_measureNow_81 : decode cX9_measureNow 81 = .ok (.iconst 0, 1) := by decide +kernel
theorem dX9_measureNow_82 : decode cX9_measureNow 82 = .ok (.iadd, 1) := by decide +kernel
theorem dX9_measureNow_83 : decode cX9_measureNow 83 = .ok (.istore_n 2, 1) := by decide +kernel
theorem dX9_measureNow_84 : decode cX9_measureNow 84 = .ok (.iinc 3 1, 3) := by decide +kernel
theorem dX9_measureNow_87 : decode cX9_measureNow 87 = .ok (.goto (-41), 3) := by decide +kernel
theorem dX9_measureNow_90 : decode cX9_measureNow 90 = .ok (.iload_n 2, 1) := by decide +kernel
theorem dX9_measureNow_91 : decode cX9_measureNow 91 = .ok (.ireturn, 1) := by decide +kernel
theorem dX9_measureNow_92 : decode cX9_measureNow 92 = .ok (.aload_n 0, 1) := by decide +kernel
theorem dX9_measureNow_93 : decode cX9_measureNow 93 = .ok (.iconst 1, 1) := by decide +kernel
theorem dX9_measureNow_94 : decode cX9_measureNow 94 = .ok (.invokevirtual 178, 3) := by decide +kernel
theorem dX9_measureNow_97 : decode cX9_measureNow 97 = .ok (.ireturn, 1) := by decide +kernel
def L_X9_measureNow_46 : Nat → Int32 → Int32 → Mem → Option (Int32 × Mem)
  | 0, _, _, _ => none
  | n + 1, x2, x3, M => if (mI M 285 1192) ≤ x3 then some (x2, M) else (f_X9_has x3 M).bind fun q20 => if q20 = 0 then L_X9_measureNow_46 n (x2 + (0 : Int32)) (x3 + 1) M else (f_X9_share x3 M).bind fun q25 => if q25 < (95 : Int32) then L_X9_measureNow_46 n (x2 + (0 : Int32)) (x3 + 1) M else L_X9_measureNow_46 n (x2 + (1 : Int32)) (x3 + 1) M
def f_X9_measureNow (x1 : Int32) (M : Mem) : Option (Int32 × Mem) := if x1 = (0 : Int32) then (f_X9_squares x1 M).bind fun q4 => some (q4.1, q4.2) else if x1 = (1 : Int32) then (f_X9_squares x1 M).bind fun q9 => some (q9.1, q9.2) else if x1 = (2 : Int32) then (f_X9_round (-1 : Int32) M).bind fun q14 => some (q14, M) else if x1 = (3 : Int32) then L_X9_measureNow_46 FU (0 : Int32) (0 : Int32) M else (f_X9_untrueAll (1 : Int32) M).bind fun q30 => some (q30, M)
set_option maxRecDepth 100000 in
set_option maxHeartbeats 4000000 in
theorem l_X9_measureNow_46 (Z : Sys) (X : Cx) (hR : xR X = rm_X9_measureNow) {q : Int32 × Mem} (hq : RetOk Z X (some .int) False (PostI q.1 q.2) 0 0) : ∀ (n : Nat) (x2 : Int32) (x3 : Int32) (M : Mem) (hs : St M) (hf : L_X9_measureNow_46 n x2 x3 M = some q), G Z X Y_X9_measureNow False 0 0 46 [(0, .ref (zs Z + 284)), (2, .int x2), (3, .int x3)] [] M := by
  intro n
  induction n with
  | zero => intro x2 x3 M hs  hf; cases hf
  | succ n ih =>
    intro x2 x3 M hs  hf
    unfold L_X9_measureNow_46 at hf
    refine G.iload_n 46 2 dX9_measureNow_46 rfl rfl ?_
    refine G.aload_n 47 0 dX9_measureNow_47 rfl rfl ?_
    refine G.getp 48 ck_9 0 285 (hs.k k0_284) (pc_9_0 hs) (by decide) (by decide +kernel) wd_1305 dX9_measureNow_48 ?_
    refine G.sipush 51 (1192 : Int32) dX9_measureNow_51 (by decide +kernel) ?_
    refine G.ia 54 1192 (hs.k k0_285) (by decide +kernel) (by decide +kernel) dX9_measureNow_54 ?_
    refine G.icmp_ge 55 90 dX9_measureNow_55 (by decide) (fun h17 => ?_) (fun h17 => ?_)
    · replace hf := (if_pos h17).symm.trans hf
      refine G.iload_n 90 1 dX9_measureNow_90 rfl rfl ?_
      (have hf9 := Option.some.inj hf; subst hf9)
      exact G.rI 91 hq dX9_measureNow_91 hs
    · replace hf := (if_neg h17).symm.trans hf
      refine G.iload_n 58 1 dX9_measureNow_58 rfl rfl ?_
      refine G.aload_n 59 0 dX9_measureNow_59 rfl rfl ?_
      refine G.iload_n 60 2 dX9_measureNow_60 rfl rfl ?_
      obtain ⟨q20, e21, hf⟩ := bd_e hf
      refine G.cvZ 61 (As := [.int x3]) ck_9 (hs.k k0_284) (c_X9_has Z hs x3 e21) mk_X9_has vk_X9_has rfl wd_1445 hR (by decide +kernel) ⟨rfl, rfl⟩ rfl (Nat.le_of_ble_eq_true rfl) dX9_measureNow_61 (fun hs18 z19 => ?_)
      refine G.if_eq 64 81 dX9_measureNow_64 (by decide) (fun h22 => ?_) (fun h22 => ?_)
      · replace hf := (if_pos h22).symm.trans hf
        refine G.iconst 81 (0 : Int32) dX9_measureNow_81 (by decide +kernel) ?_
        refine G.iadd 82 dX9_measureNow_82 ?_
        refine G.istore_n 83 [(2, .int (x2 + (0 : Int32))), (0, .ref (zs Z + 284)), (3, .int x3)] dX9_measureNow_83 rfl (Nat.le_of_ble_eq_true rfl) rfl ?_
        refine G.iinc 84 2 (x3 + 1) [(3, .int (x3 + 1)), (2, .int (x2 + (0 : Int32))), (0, .ref (zs Z + 284))] dX9_measureNow_84 rfl (congrArg (fun z => x3 + z) (by decide +kernel)) (Nat.le_of_ble_eq_true rfl) rfl ?_
        refine G.goto 87 46 dX9_measureNow_87 (by decide) ?_
        refine G.locs [2, 1, 0] rfl ?_
        exact ih (x2 + (0 : Int32)) (x3 + 1) M hs18 hf
      · replace hf := (if_neg h22).symm.trans hf
        refine G.aload_n 67 0 dX9_measureNow_67 rfl rfl ?_
        refine G.iload_n 68 2 dX9_measureNow_68 rfl rfl ?_
        obtain ⟨q25, e26, hf⟩ := bd_e hf
        refine G.cvI 69 (As := [.int x3]) ck_9 (hs18.k k0_284) (c_X9_share Z hs18 x3 e26) mk_X9_share vk_X9_share rfl wd_1449 hR (by decide +kernel) ⟨rfl, rfl⟩ rfl (Nat.le_of_ble_eq_true rfl) dX9_measureNow_69 (fun hs23 => ?_)
        refine G.bipush 72 (95 : Int32) dX9_measureNow_72 (by decide +kernel) ?_
        refine G.icmp_lt 74 81 dX9_measureNow_74 (by decide) (fun h27 => ?_) (fun h27 => ?_)
        · replace hf := (if_pos h27).symm.trans hf
          refine G.iconst 81 (0 : Int32) dX9_measureNow_81 (by decide +kernel) ?_
          refine G.iadd 82 dX9_measureNow_82 ?_
          refine G.istore_n 83 [(2, .int (x2 + (0 : Int32))), (0, .ref (zs Z + 284)), (3, .int x3)] dX9_measureNow_83 rfl (Nat.le_of_ble_eq_true rfl) rfl ?_
          refine G.iinc 84 2 (x3 + 1) [(3, .int (x3 + 1)), (2, .int (x2 + (0 : Int32))), (0, .ref (zs Z + 284))] dX9_measureNow_84 rfl (congrArg (fun z => x3 + z) (by decide +kernel)) (Nat.le_of_ble_eq_true rfl) rfl ?_
          refine G.goto 87 46 dX9_measureNow_87 (by decide) ?_
          refine G.locs [2, 1, 0] rfl ?_
          exact ih (x2 + (0 : Int32)) (x3 + 1) M hs23 hf
        · replace hf := (if_neg h27).symm.trans hf
          refine G.iconst 77 (1 : Int32) dX9_measureNow_77 (by decide +kernel) ?_
          refine G.goto 78 82 dX9_measureNow_78 (by decide) ?_
          refine G.iadd 82 dX9_measureNow_82 ?_
          refine G.istore_n 83 [(2, .int (x2 + (1 : Int32))), (0, .ref (zs Z + 284)), (3, .int x3)] dX9_measureNow_83 rfl (Nat.le_of_ble_eq_true rfl) rfl ?_
          refine G.iinc 84 2 (x3 + 1) [(3, .int (x3 + 1)), (2, .int (x2 + (1 : Int32))), (0, .ref (zs Z + 284))] dX9_measureNow_84 rfl (congrArg (fun z => x3 + z) (by decide +kernel)) (Nat.le_of_ble_eq_true rfl) rfl ?_
          refine G.goto 87 46 dX9_measureNow_87 (by decide) ?_
          refine G.locs [2, 1, 0] rfl ?_
          exact ih (x2 + (1 : Int32)) (x3 + 1) M hs23 hf
set_option maxRecDepth 100000 in
set_option maxHeartbeats 4000000 in
theorem c_X9_measureNow (Z : Sys) {M : Mem} (hs : St M) (x1 : Int32) {q : Int32 × Mem} (hf : f_X9_measureNow x1 M = some q) : Ct Z yX9_measureNow cX9_measureNow 4 (some .int) rm_X9_measureNow [.ref (zs Z + 284), .int x1] M False (PostI q.1 q.2) := by
  refine Ct.of (by decide +kernel) (Nat.le_of_ble_eq_true rfl) (fun X hR hq _ => ?_)
  show G Z X Y_X9_measureNow False 0 0 0 [(0, .ref (zs Z + 284)), (1, .int x1)] [] M
  replace hq : RetOk Z X (some .int) False (PostI q.1 q.2) 0 0 := hq
  unfold f_X9_measureNow at hf
  refine G.iconst 0 (0 : Int32) dX9_measureNow_0 (by decide +kernel) ?_
  refine G.istore_n 1 [(2, .int (0 : Int32)), (0, .ref (zs Z + 284)), (1, .int x1)] dX9_measureNow_1 rfl (Nat.le_of_ble_eq_true rfl) rfl ?_
  refine G.iload_n 2 2 dX9_measureNow_2 rfl rfl ?_
  by_cases h1 : x1 = (0 : Int32)
  · replace hf := (if_pos h1).symm.trans hf
    refine G.tableIn 3 32 (off := 29) dX9_measureNow_3 (by rw [h1]; decide +kernel) (by rw [h1]; decide +kernel) (by rw [h1]; decide +kernel) (by decide) ?_
    refine G.aload_n 32 1 dX9_measureNow_32 rfl rfl ?_
    refine G.iload_n 33 2 dX9_measureNow_33 rfl rfl ?_
    obtain ⟨q4, e5, hf⟩ := bd_e hf
    refine G.cvI 34 (As := [.int x1]) ck_9 (hs.k k0_284) (c_X9_squares Z hs x1 e5) mk_X9_squares vk_X9_squares rfl wd_1632 hR (by decide +kernel) ⟨rfl, rfl⟩ rfl (Nat.le_of_ble_eq_true rfl) dX9_measureNow_34 (fun hs2 => ?_)
    (have hf9 := Option.some.inj hf; subst hf9)
    exact G.rI 37 hq dX9_measureNow_37 hs2
  · replace hf := (if_neg h1).symm.trans hf
    by_cases h6 : x1 = (1 : Int32)
    · replace hf := (if_pos h6).symm.trans hf
      refine G.tableIn 3 32 (off := 29) dX9_measureNow_3 (by rw [h6]; decide +kernel) (by rw [h6]; decide +kernel) (by rw [h6]; decide +kernel) (by decide) ?_
      refine G.aload_n 32 1 dX9_measureNow_32 rfl rfl ?_
      refine G.iload_n 33 2 dX9_measureNow_33 rfl rfl ?_
      obtain ⟨q9, e10, hf⟩ := bd_e hf
      refine G.cvI 34 (As := [.int x1]) ck_9 (hs.k k0_284) (c_X9_squares Z hs x1 e10) mk_X9_squares vk_X9_squares rfl wd_1632 hR (by decide +kernel) ⟨rfl, rfl⟩ rfl (Nat.le_of_ble_eq_true rfl) dX9_measureNow_34 (fun hs7 => ?_)
      (have hf9 := Option.some.inj hf; subst hf9)
      exact G.rI 37 hq dX9_measureNow_37 hs7
    · replace hf := (if_neg h6).symm.trans hf
      by_cases h11 : x1 = (2 : Int32)
      · replace hf := (if_pos h11).symm.trans hf
        refine G.tableIn 3 38 (off := 35) dX9_measureNow_3 (by rw [h11]; decide +kernel) (by rw [h11]; decide +kernel) (by rw [h11]; decide +kernel) (by decide) ?_
        refine G.aload_n 38 1 dX9_measureNow_38 rfl rfl ?_
        refine G.iconst 39 (-1 : Int32) dX9_measureNow_39 (by decide +kernel) ?_
        obtain ⟨q14, e15, hf⟩ := bd_e hf
        refine G.cvI 40 (As := [.int (-1 : Int32)]) ck_9 (hs.k k0_284) (c_X9_round Z hs (-1 : Int32) e15) mk_X9_round vk_X9_round rfl wd_1636 hR (by decide +kernel) ⟨rfl, rfl⟩ rfl (Nat.le_of_ble_eq_true rfl) dX9_measureNow_40 (fun hs12 => ?_)
        (have hf9 := Option.some.inj hf; subst hf9)
        exact G.rI 43 hq dX9_measureNow_43 hs12
      · replace hf := (if_neg h11).symm.trans hf
        by_cases h16 : x1 = (3 : Int32)
        · replace hf := (if_pos h16).symm.trans hf
          refine G.tableIn 3 44 (off := 41) dX9_measureNow_3 (by rw [h16]; decide +kernel) (by rw [h16]; decide +kernel) (by rw [h16]; decide +kernel) (by decide) ?_
          refine G.iconst 44 (0 : Int32) dX9_measureNow_44 (by decide +kernel) ?_
          refine G.istore_n 45 [(3, .int (0 : Int32)), (2, .int (0 : Int32)), (0, .ref (zs Z + 284)), (1, .int x1)] dX9_measureNow_45 rfl (Nat.le_of_ble_eq_true rfl) rfl ?_
          refine G.locs [2, 1, 0] rfl ?_
          exact l_X9_measureNow_46 Z X hR hq FU (0 : Int32) (0 : Int32) M hs hf
        · replace hf := (if_neg h16).symm.trans hf
          have t_h1 := ti (0 : Int32) (0) (by decide +kernel) h1
          have t_h6 := ti (1 : Int32) (1) (by decide +kernel) h6
          have t_h11 := ti (2 : Int32) (2) (by decide +kernel) h11
          have t_h16 := ti (3 : Int32) (3) (by decide +kernel) h16
          refine G.tableOut 3 92 dX9_measureNow_3 (by omega) (by decide) ?_
          refine G.aload_n 92 1 dX9_measureNow_92 rfl rfl ?_
          refine G.iconst 93 (1 : Int32) dX9_measureNow_93 (by decide +kernel) ?_
          obtain ⟨q30, e31, hf⟩ := bd_e hf
          refine G.cvI 94 (As := [.int (1 : Int32)]) ck_9 (hs.k k0_284) (c_X9_untrueAll Z hs (1 : Int32) e31) mk_X9_untrueAll vk_X9_untrueAll rfl wd_1587 hR (by decide +kernel) ⟨rfl, rfl⟩ rfl (Nat.le_of_ble_eq_true rfl) dX9_measureNow_94 (fun hs28 => ?_)
          (have hf9 := Option.some.inj hf; subst hf9)
          exact G.rI 97 hq dX9_measureNow_97 hs28
abbrev Y_X9_measure : My := (cX9_measure, RX9, 2)
def rm_X9_measure : Room := { frames := 7, cells := 0, slots := 0, locals := 335 }
theorem dX9_measure_0 : decode cX9_measure 0 = .ok (.iload_n 1, 1) := by decide +kernel
theorem dX9_measure_1 : decode cX9_measure 1 = .ok (.i2l, 1) := by decide +kernel
theorem dX9_measure_2 : decode cX9_measure 2 = .ok (.lconst 0, 1) := by decide +kernel
theorem dX9_measure_3 : decode cX9_measure 3 = .ok (.ldc2_w 201, 3) := by decide +kernel
theorem dX9_measure_6 : decode cX9_measure 6 = .ok (.invokestatic 62, 3) := by decide +kernel
theorem dX9_measure_9 : decode cX9_measure 9 = .ok (.ifCond .eq 11, 3) := by decide +kernel
theorem dX9_measure_12 : decode cX9_measure 12 = .ok (.aload_n 0, 1) := by decide +kernel
theorem dX9_measure_13 : decode cX9_measure 13 = .ok (.iload_n 1, 1) := by decide +kernel
theorem dX9_measure_14 : decode cX9_measure 14 = .ok (.invokevirtual 203, 3) := by decide +kernel
theorem dX9_measure_17 : decode cX9_measure 17 = .ok (.goto 4, 3) := by decide +kernel
theorem dX9_measure_20 : decode cX9_measure 20 = .ok (.iconst (-1), 1) := by decide +kernel
theorem dX9_measure_21 : decode cX9_measure 21 = .ok (.ireturn, 1) := by decide +kernel
def f_X9_measure (x1 : Int32) (M : Mem) : Option (Int32 × Mem) := if (f_X9_isIn x1.toInt64 (0 : Int64) (4 : Int64)) = 0 then some ((-1 : Int32), M) else (f_X9_measureNow x1 M).bind fun q6 => some (q6.1, q6.2)
set_option maxRecDepth 100000 in
set_option maxHeartbeats 4000000 in
theorem c_X9_measure (Z : Sys) {M : Mem} (hs : St M) (x1 : Int32) {q : Int32 × Mem} (hf : f_X9_measure x1 M = some q) : Ct Z yX9_measure cX9_measure 2 (some .int) rm_X9_measure [.ref (zs Z + 284), .int x1] M False (PostI q.1 q.2) := by
  refine Ct.of (by decide +kernel) (Nat.le_of_ble_eq_true rfl) (fun X hR hq _ => ?_)
  show G Z X Y_X9_measure False 0 0 0 [(0, .ref (zs Z + 284)), (1, .int x1)] [] M
  replace hq : RetOk Z X (some .int) False (PostI q.1 q.2) 0 0 := hq
  unfold f_X9_measure at hf
  refine G.iload_n 0 1 dX9_measure_0 rfl rfl ?_
  refine G.i2l 1 dX9_measure_1 ?_
  refine G.lconst 2 (0 : Int64) dX9_measure_2 (by decide +kernel) ?_
  refine G.ldc2 3 (4 : Int64) wd_1627 dX9_measure_3 ?_
  refine G.csZ 6 (As := [.long x1.toInt64, .long (0 : Int64), .long (4 : Int64)]) (c_X9_isIn Z hs x1.toInt64 (0 : Int64) (4 : Int64) rfl) mk_X9_isIn wd_1400 wd_1399 hR (by decide +kernel) ⟨rfl, rfl⟩ rfl (Nat.le_of_ble_eq_true rfl) dX9_measure_6 (fun hs1 z2 => ?_)
  refine G.if_eq 9 20 dX9_measure_9 (by decide) (fun h3 => ?_) (fun h3 => ?_)
  · replace hf := (if_pos h3).symm.trans hf
    refine G.iconst 20 (-1 : Int32) dX9_measure_20 (by decide +kernel) ?_
    (have hf9 := Option.some.inj hf; subst hf9)
    exact G.rI 21 hq dX9_measure_21 hs1
  · replace hf := (if_neg h3).symm.trans hf
    refine G.aload_n 12 0 dX9_measure_12 rfl rfl ?_
    refine G.iload_n 13 1 dX9_measure_13 rfl rfl ?_
    obtain ⟨q6, e7, hf⟩ := bd_e hf
    refine G.cvI 14 (As := [.int x1]) ck_9 (hs1.k k0_284) (c_X9_measureNow Z hs1 x1 e7) mk_X9_measureNow vk_X9_measureNow rfl wd_1628 hR (by decide +kernel) ⟨rfl, rfl⟩ rfl (Nat.le_of_ble_eq_true rfl) dX9_measure_14 (fun hs4 => ?_)
    refine G.goto 17 21 dX9_measure_17 (by decide) ?_
    (have hf9 := Option.some.inj hf; subst hf9)
    exact G.rI 21 hq dX9_measure_21 hs4
abbrev Y_X9_middle : My := (cX9_middle, RX9, 2)
def rm_X9_middle : Room := { frames := 4, cells := 0, slots := 0, locals := 267 }
theorem dX9_middle_0 : decode cX9_middle 0 = .ok (.iload_n 1, 1) := by decide +kernel
theorem dX9_middle_1 : decode cX9_middle 1 = .ok (.i2l, 1) := by decide +kernel
theorem dX9_middle_2 : decode cX9_middle 2 = .ok (.lconst 0, 1) := by decide +kernel
theorem dX9_middle_3 : decode cX9_middle 3 = .ok (.lconst 1, 1) := by decide +kernel
theorem dX9_middle_4 : decode cX9_middle 4 = .ok (.invokestatic 62, 3) := by decide +kernel
theorem dX9_middle_7 : decode cX9_middle 7 = .ok (.ifCond .eq 11, 3) := by decide +kernel
theorem dX9_middle_10 : decode cX9_middle 10 = .ok (.aload_n 0, 1) := by decide +kernel
theorem dX9_middle_11 : decode cX9_middle 11 = .ok (.iload_n 1, 1) := by decide +kernel
theorem dX9_middle_12 : decode cX9_middle 12 = .ok (.invokevirtual 137, 3) := by decide +kernel
theorem dX9_middle_15 : decode cX9_middle 15 = .ok (.goto 4, 3) := by decide +kernel
theorem dX9_middle_18 : decode cX9_middle 18 = .ok (.iconst (-1), 1) := by decide +kernel
theorem dX9_middle_19 : decode cX9_middle 19 = .ok (.ireturn, 1) := by decide +kernel
def f_X9_middle (x1 : Int32) (M : Mem) : Option (Int32 × Mem) := if (f_X9_isIn x1.toInt64 (0 : Int64) (1 : Int64)) = 0 then some ((-1 : Int32), M) else (f_X9_middleOf x1 M).bind fun q6 => some (q6.1, q6.2)
set_option maxRecDepth 100000 in
set_option maxHeartbeats 4000000 in
theorem c_X9_middle (Z : Sys) {M : Mem} (hs : St M) (x1 : Int32) {q : Int32 × Mem} (hf : f_X9_middle x1 M = some q) : Ct Z yX9_middle cX9_middle 2 (some .int) rm_X9_middle [.ref (zs Z + 284), .int x1] M False (PostI q.1 q.2) := by
  refine Ct.of (by decide +kernel) (Nat.le_of_ble_eq_true rfl) (fun X hR hq _ => ?_)
  show G Z X Y_X9_middle False 0 0 0 [(0, .ref (zs Z + 284)), (1, .int x1)] [] M
  replace hq : RetOk Z X (some .int) False (PostI q.1 q.2) 0 0 := hq
  unfold f_X9_middle at hf
  refine G.iload_n 0 1 dX9_middle_0 rfl rfl ?_
  refine G.i2l 1 dX9_middle_1 ?_
  refine G.lconst 2 (0 : Int64) dX9_middle_2 (by decide +kernel) ?_
  refine G.lconst 3 (1 : Int64) dX9_middle_3 (by decide +kernel) ?_
  refine G.csZ 4 (As := [.long x1.toInt64, .long (0 : Int64), .long (1 : Int64)]) (c_X9_isIn Z hs x1.toInt64 (0 : Int64) (1 : Int64) rfl) mk_X9_isIn wd_1400 wd_1399 hR (by decide +kernel) ⟨rfl, rfl⟩ rfl (Nat.le_of_ble_eq_true rfl) dX9_middle_4 (fun hs1 z2 => ?_)
  refine G.if_eq 7 18 dX9_middle_7 (by decide) (fun h3 => ?_) (fun h3 => ?_)
  · replace hf := (if_pos h3).symm.trans hf
    refine G.iconst 18 (-1 : Int32) dX9_middle_18 (by decide +kernel) ?_
    (have hf9 := Option.some.inj hf; subst hf9)
    exact G.rI 19 hq dX9_middle_19 hs1
  · replace hf := (if_neg h3).symm.trans hf
    refine G.aload_n 10 0 dX9_middle_10 rfl rfl ?_
    refine G.iload_n 11 1 dX9_middle_11 rfl rfl ?_
    obtain ⟨q6, e7, hf⟩ := bd_e hf
    refine G.cvI 12 (As := [.int x1]) ck_9 (hs1.k k0_284) (c_X9_middleOf Z hs1 x1 e7) mk_X9_middleOf vk_X9_middleOf rfl wd_1511 hR (by decide +kernel) ⟨rfl, rfl⟩ rfl (Nat.le_of_ble_eq_true rfl) dX9_middle_12 (fun hs4 => ?_)
    refine G.goto 15 19 dX9_middle_15 (by decide) ?_
    (have hf9 := Option.some.inj hf; subst hf9)
    exact G.rI 19 hq dX9_middle_19 hs4
abbrev Y_X9_odd : My := (cX9_odd, RX9, 8)
def rm_X9_odd : Room := { frames := 7, cells := 0, slots := 0, locals := 335 }
theorem dX9_odd_0 : decode cX9_odd 0 = .ok (.iload_n 1, 1) := by decide +kernel
theorem dX9_odd_1 : decode cX9_odd 1 = .ok (.i2l, 1) := by decide +kernel
theorem dX9_odd_2 : decode cX9_odd 2 = .ok (.lconst 0, 1) := by decide +kernel
theorem dX9_odd_3 : decode cX9_odd 3 = .ok (.ldc2_w 201, 3) := by decide +kernel
theorem dX9_odd_6 : decode cX9_odd 6 = .ok (.invokestatic 62, 3) := by decide +kernel
theorem dX9_odd_9 : decode cX9_odd 9 = .ok (.ifCond .eq 15, 3) := by decide +kernel
theorem dX9_odd_12 : decode cX9_odd 12 = .ok (.iload_n 2, 1) := by decide +kernel
theorem dX9_odd_13 : decode cX9_odd 13 = .ok (.i2l, 1) := by decide +kernel
theorem dX9_odd_14 : decode cX9_odd 14 = .ok (.lconst 1, 1) := by decide +kernel
theorem dX9_odd_15 : decode cX9_odd 15 = .ok (.ldc2_w 215, 3) := by decide +kernel
theorem dX9_odd_18 : decode cX9_odd 18 = .ok (.invokestatic 62, 3) := by decide +kernel
theorem dX9_odd_21 : decode cX9_odd 21 = .ok (.ifCond .ne 5, 3) := by decide +kernel
theorem dX9_odd_24 : decode cX9_odd 24 = .ok (.iconst (-1), 1) := by decide +kernel
theorem dX9_odd_25 : decode cX9_odd 25 = .ok (.ireturn, 1) := by decide +kernel
theorem dX9_odd_26 : decode cX9_odd 26 = .ok (.aload_n 0, 1) := by decide +kernel
theorem dX9_odd_27 : decode cX9_odd 27 = .ok (.iload_n 1, 1) := by decide +kernel
theorem dX9_odd_28 : decode cX9_odd 28 = .ok (.invokevirtual 203, 3) := by decide +kernel
theorem dX9_odd_31 : decode cX9_odd 31 = .ok (.istore 4, 2) := by decide +kernel
theorem dX9_odd_33 : decode cX9_odd 33 = .ok (.iconst 0, 1) := by decide +kernel
theorem dX9_odd_34 : decode cX9_odd 34 = .ok (.istore 5, 2) := by decide +kernel
theorem dX9_odd_36 : decode cX9_odd 36 = .ok (.iload 5, 2) := by decide +kernel
theorem dX9_odd_38 : decode cX9_odd 38 = .ok (.aload_n 0, 1) := by decide +kernel
theorem dX9_odd_39 : decode cX9_odd 39 = .ok (.getfield 9, 3) := by decide +kernel
theorem dX9_odd_42 : decode cX9_odd 42 = .ok (.sipush 1192, 3) := by decide +kernel
theorem dX9_odd_45 : decode cX9_odd 45 = .ok (.iaload, 1) := by decide +kernel
theorem dX9_odd_46 : decode cX9_odd 46 = .ok (.if_icmp .ge 39, 3) := by decide +kernel
theorem dX9_odd_49 : decode cX9_odd 49 = .ok (.aload_n 0, 1) := by decide +kernel
theorem dX9_odd_50 : decode cX9_odd 50 = .ok (.getfield 49, 3) := by decide +kernel
theorem dX9_odd_53 : decode cX9_odd 53 = .ok (.iload 5, 2) := by decide +kernel
theorem dX9_odd_55 : decode cX9_odd 55 = .ok (.aload_n 0, 1) := by decide +kernel
theorem dX9_odd_56 : decode cX9_odd 56 = .ok (.iload 5, 2) := by decide +kernel
theorem dX9_odd_58 : decode cX9_odd 58 = .ok (.bipush 9, 2) := by decide +kernel
theorem dX9_odd_60 : decode cX9_odd 60 = .ok (.invokevirtual 76, 3) := by decide +kernel
theorem dX9_odd_63 : decode cX9_odd 63 = .ok (.iastore, 1) := by decide +kernel
theorem dX9_odd_64 : decode cX9_odd 64 = .ok (.aload_n 0, 1) := by decide +kernel
theorem dX9_odd_65 : decode cX9_odd 65 = .ok (.getfield 52, 3) := by decide +kernel
theorem dX9_odd_68 : decode cX9_odd 68 = .ok (.iload 5, 2) := by decide +kernel
theorem dX9_odd_70 : decode cX9_odd 70 = .ok (.aload_n 0, 1) := by decide +kernel
theorem dX9_odd_71 : decode cX9_odd 71 = .ok (.iload 5, 2) := by decide +kernel
theorem dX9_odd_73 : decode cX9_odd 73 = .ok (.bipush 10, 2) := by decide +kernel
theorem dX9_odd_75 : decode cX9_odd 75 = .ok (.invokevirtual 76, 3) := by decide +kernel
theorem dX9_odd_78 : decode cX9_odd 78 = .ok (.iastore, 1) := by decide +kernel
theorem dX9_odd_79 : decode cX9_odd 79 = .ok (.iinc 5 1, 3) := by decide +kernel
theorem dX9_odd_82 : decode cX9_odd 82 = .ok (.goto (-46), 3) := by decide +kernel
theorem dX9_odd_85 : decode cX9_odd 85 = .ok (.iconst 0, 1) := by decide +kernel
theorem dX9_odd_86 : decode cX9_odd 86 = .ok (.istore 5, 2) := by decide +kernel
theorem dX9_odd_88 : decode cX9_odd 88 = .ok (.iconst 0, 1) := by decide +kernel
theorem dX9_odd_89 : decode cX9_odd 89 = .ok (.istore 6, 2) := by decide +kernel
theorem dX9_odd_91 : decode cX9_odd 91 = .ok (.iload 6, 2) := by decide +kernel
theorem dX9_odd_93 : decode cX9_odd 93 = .ok (.iload_n 2, 1) := by decide +kernel
theorem dX9_odd_94 : decode cX9_odd 94 = .ok (.if_icmp .ge 89, 3) := by decide +kernel
theorem dX9_odd_97 : decode cX9_odd 97 = .ok (.aload_n 0, 1) := by decide +kernel
theorem dX9_odd_98 : decode cX9_odd 98 = .ok (.iload_n 3, 1) := by decide +kernel
theorem dX9_odd_99 : decode cX9_odd 99 = .ok (.iload 6, 2) := by decide +kernel
theorem dX9_odd_101 : decode cX9_odd 101 = .ok (.iadd, 1) := by decide +kernel
theorem dX9_odd_102 : decode cX9_odd 102 = .ok (.invokevirtual 217, 3) := by decide +kernel
theorem dX9_odd_105 : decode cX9_odd 105 = .ok (.iconst 0, 1) := by decide +kernel
theorem dX9_odd_106 : decode cX9_odd 106 = .ok (.istore 7, 2) := by decide +kernel
theorem dX9_odd_108 : decode cX9_odd 108 = .ok (.iload 7, 2) := by decide +kernel
theorem dX9_odd_110 : decode cX9_odd 110 = .ok (.aload_n 0, 1) := by decide +kernel
theorem dX9_odd_111 : decode cX9_odd 111 = .ok (.getfield 9, 3) := by decide +kernel
theorem dX9_odd_114 : decode cX9_odd 114 = .ok (.sipush 1192, 3) := by decide +kernel
theorem dX9_odd_117 : decode cX9_odd 117 = .ok (.iaload, 1) := by decide +kernel
theorem dX9_odd_118 : decode cX9_odd 118 = .ok (.if_icmp .ge 39, 3) := by decide +kernel
theorem dX9_odd_121 : decode cX9_odd 121 = .ok (.aload_n 0, 1) := by decide +kernel
theorem dX9_odd_122 : decode cX9_odd 122 = .ok (.getfield 49, 3) := by decide +kernel
theorem dX9_odd_125 : decode cX9_odd 125 = .ok (.iload 7, 2) := by decide +kernel
theorem dX9_odd_127 : decode cX9_odd 127 = .ok (.iaload, 1) := by decide +kernel
theorem dX9_odd_128 : decode cX9_odd 128 = .ok (.ifCond .lt 23, 3) := by decide +kernel
theorem dX9_odd_131 : decode cX9_odd 131 = .ok (.aload_n 0, 1) := by decide +kernel
theorem dX9_odd_132 : decode cX9_odd 132 = .ok (.iload 7, 2) := by decide +kernel
theorem dX9_odd_134 : decode cX9_odd 134 = .ok (.aload_n 0, 1) := by decide +kernel
theorem dX9_odd_135 : decode cX9_odd 135 = .ok (.getfield 43, 3) := by decide +kernel
theorem dX9_odd_138 : decode cX9_odd 138 = .ok (.iload 7, 2) := by decide +kernel
theorem dX9_odd_140 : decode cX9_odd 140 = .ok (.iaload, 1) := by decide +kernel
theorem dX9_odd_141 : decode cX9_odd 141 = .ok (.aload_n 0, 1) := by decide +kernel
theorem dX9_odd_142 : decode cX9_odd 142 = .ok (.getfield 46, 3) := by decide +kernel
theorem dX9_odd_145 : decode cX9_odd 145 = .ok (.iload 7, 2) := by decide +kernel
theorem dX9_odd_147 : decode cX9_odd 147 = .ok (.iaload, 1) := by decide +kernel
theorem dX9_odd_148 : decode cX9_odd 148 = .ok (.invokevirtual 103, 3) := by decide +kernel
theorem dX9_odd_151 : decode cX9_odd 151 = .ok (.iinc 7 1, 3) := by decide +kernel
theorem dX9_odd_154 : decode cX9_odd 154 = .ok (.goto (-46), 3) := by decide +kernel
theorem dX9_odd_157 : decode cX9_odd 157 = .ok (.iload 5, 2) := by decide +kernel
theorem dX9_odd_159 : decode cX9_odd 159 = .ok (.aload_n 0, 1) := by decide +kernel
theorem dX9_odd_160 : decode cX9_odd 160 = .ok (.iload_n 1, 1) := by decide +kernel
theorem dX9_odd_161 : decode cX9_odd 161 = .ok (.invokevirtual 203, 3) := by decide +kernel
theorem dX9_odd_164 : decode cX9_odd 164 = .ok (.iload 4, 2) := by decide +kernel
theorem dX9_odd_166 : decode cX9_odd 166 = .ok (.if_icmp .lt 7, 3) := by decide +kernel
theorem dX9_odd_169 : decode cX9_odd 169 = .ok (.iconst 1, 1) := by decide +kernel
theorem dX9_odd_170 : decode cX9_odd 170 = .ok (.goto 4, 3) := by decide +kernel
theorem dX9_odd_173 : decode cX9_odd 173 = .ok (.iconst 0, 1) := by decide +kernel
theorem dX9_odd_174 : decode cX9_odd 174 = .ok (.iadd, 1) := by decide +kernel
theorem dX9_odd_175 : decode cX9_odd 175 = .ok (.istore 5, 2) := by decide +kernel
theorem dX9_odd_177 : decode cX9_odd 177 = .ok (.iinc 6 1, 3) := by decide +kernel
theorem dX9_odd_180 : decode cX9_odd 180 = .ok (.goto (-89), 3) := by decide +kernel
theorem dX9_odd_183 : decode cX9_odd 183 = .ok (.iconst 0, 1) := by decide +kernel
theorem dX9_odd_184 : decode cX9_odd 184 = .ok (.istore 6, 2) := by decide +kernel
theorem dX9_odd_186 : decode cX9_odd 186 = .ok (.iload 6, 2) := by decide +kernel
theorem dX9_odd_188 : decode cX9_odd 188 = .ok (.aload_n 0, 1) := by decide +kernel
theorem dX9_odd_189 : decode cX9_odd 189 = .ok (.getfield 9, 3) := by decide +kernel
theorem dX9_odd_192 : decode cX9_odd 192 = .ok (.sipush 1192, 3) := by decide +kernel
theorem dX9_odd_195 : decode cX9_odd 195 = .ok (.iaload, 1) := by decide +kernel
theorem dX9_odd_196 : decode cX9_odd 196 = .ok (.if_icmp .ge 29, 3) := by decide +kernel
theorem dX9_odd_199 : decode cX9_odd 199 = .ok (.aload_n 0, 1) := by decide +kernel
theorem dX9_odd_200 : decode cX9_odd 200 = .ok (.iload 6, 2) := by decide +kernel
theorem dX9_odd_202 : decode cX9_odd 202 = .ok (.aload_n 0, 1) := by decide +kernel
theorem dX9_odd_203 : decode cX9_odd 203 = .ok (.getfield 49, 3) := by decide +kernel
theorem dX9_odd_206 : decode cX9_odd 206 = .ok (.iload 6, 2) := by decide +kernel
theorem dX9_odd_208 : decode cX9_odd 208 = .ok (.iaload, 1) := by decide +kernel
theorem dX9_odd_209 : decode cX9_odd 209 = .ok (.aload_n 0, 1) := by decide +kernel
theorem dX9_odd_210 : decode cX9_odd 210 = .ok (.getfield 52, 3) := by decide +kernel
theorem dX9_odd_213 : decode cX9_odd 213 = .ok (.iload 6, 2) := by decide +kernel
theorem dX9_odd_215 : decode cX9_odd 215 = .ok (.iaload, 1) := by decide +kernel
theorem dX9_odd_216 : decode cX9_odd 216 = .ok (.invokevirtual 103, 3) := by decide +kernel
theorem dX9_odd_219 : decode cX9_odd 219 = .ok (.iinc 6 1, 3) := by decide +kernel
theorem dX9_odd_222 : decode cX9_odd 222 = .ok (.goto (-36), 3) := by decide +kernel
theorem dX9_odd_225 : decode cX9_odd 225 = .ok (.iload 5, 2) := by decide +kernel
theorem dX9_odd_227 : decode cX9_odd 227 = .ok (.ireturn, 1) := by decide +kernel
def L_X9_odd_186 : Nat → Int32 → Int32 → Mem → Option (Int32 × Mem)
  | 0, _, _, _ => none
  | n + 1, x5, x6, M => if (mI M 285 1192) ≤ x6 then some (x5, M) else gd (inR x6 30) ((f_X9_writes x6 (mI M 298 x6.toNatClampNeg) (mI M 299 x6.toNatClampNeg) M).bind fun q17 => L_X9_odd_186 n x5 (x6 + 1) q17)
def B_X9_odd_183 (x5 : Int32) (M : Mem) : Option (Int32 × Mem) := L_X9_odd_186 FU x5 (0 : Int32) M
def B_X9_odd_157 (rc_91 : Int32 → Int32 → Int32 → Int32 → Int32 → Int32 → Mem → Option (Int32 × Mem)) (x1 : Int32) (x2 : Int32) (x3 : Int32) (x4 : Int32) (x5 : Int32) (x6 : Int32) (M : Mem) : Option (Int32 × Mem) := (f_X9_measureNow x1 M).bind fun q26 => if q26.1 < x4 then rc_91 x1 x2 x3 x4 (x5 + (0 : Int32)) (x6 + 1) q26.2 else rc_91 x1 x2 x3 x4 (x5 + (1 : Int32)) (x6 + 1) q26.2
def B_X9_odd_151 (rc_91 : Int32 → Int32 → Int32 → Int32 → Int32 → Int32 → Mem → Option (Int32 × Mem)) (rc_108 : Int32 → Int32 → Int32 → Int32 → Int32 → Int32 → Int32 → Mem → Option (Int32 × Mem)) (x1 : Int32) (x2 : Int32) (x3 : Int32) (x4 : Int32) (x5 : Int32) (x6 : Int32) (x7 : Int32) (M : Mem) : Option (Int32 × Mem) := rc_108 x1 x2 x3 x4 x5 x6 (x7 + 1) M
def L_X9_odd_108 (rc_91 : Int32 → Int32 → Int32 → Int32 → Int32 → Int32 → Mem → Option (Int32 × Mem)) : Nat → Int32 → Int32 → Int32 → Int32 → Int32 → Int32 → Int32 → Mem → Option (Int32 × Mem)
  | 0, _, _, _, _, _, _, _, _ => none
  | n + 1, x1, x2, x3, x4, x5, x6, x7, M => if (mI M 285 1192) ≤ x7 then B_X9_odd_157 rc_91 x1 x2 x3 x4 x5 x6 M else gd (inR x7 30) (if (mI M 298 x7.toNatClampNeg) < 0 then B_X9_odd_151 rc_91 (L_X9_odd_108 rc_91 n) x1 x2 x3 x4 x5 x6 x7 M else (f_X9_writes x7 (mI M 296 x7.toNatClampNeg) (mI M 297 x7.toNatClampNeg) M).bind fun q33 => B_X9_odd_151 rc_91 (L_X9_odd_108 rc_91 n) x1 x2 x3 x4 x5 x6 x7 q33)
def L_X9_odd_91 : Nat → Int32 → Int32 → Int32 → Int32 → Int32 → Int32 → Mem → Option (Int32 × Mem)
  | 0, _, _, _, _, _, _, _ => none
  | n + 1, x1, x2, x3, x4, x5, x6, M => if x2 ≤ x6 then B_X9_odd_183 x5 M else (f_X9_makes (x3 + x6) M).bind fun q21 => L_X9_odd_108 (L_X9_odd_91 n) FU x1 x2 x3 x4 x5 x6 (0 : Int32) q21
def B_X9_odd_85 (x1 : Int32) (x2 : Int32) (x3 : Int32) (x4 : Int32) (M : Mem) : Option (Int32 × Mem) := L_X9_odd_91 FU x1 x2 x3 x4 (0 : Int32) (0 : Int32) M
def L_X9_odd_36 : Nat → Int32 → Int32 → Int32 → Int32 → Int32 → Mem → Option (Int32 × Mem)
  | 0, _, _, _, _, _, _ => none
  | n + 1, x1, x2, x3, x4, x5, M => if (mI M 285 1192) ≤ x5 then B_X9_odd_85 x1 x2 x3 x4 M else (f_X9_get x5 (9 : Int32) M).bind fun q37 => gd (inR x5 30) ((f_X9_get x5 (10 : Int32) (sI M 298 x5.toNatClampNeg q37)).bind fun q42 => L_X9_odd_36 n x1 x2 x3 x4 (x5 + 1) (sI (sI M 298 x5.toNatClampNeg q37) 299 x5.toNatClampNeg q42))
def f_X9_odd (x1 : Int32) (x2 : Int32) (x3 : Int32) (M : Mem) : Option (Int32 × Mem) := if (f_X9_isIn x1.toInt64 (0 : Int64) (4 : Int64)) = 0 then some ((-1 : Int32), M) else if (f_X9_isIn x2.toInt64 (1 : Int64) (50 : Int64)) = 0 then some ((-1 : Int32), M) else (f_X9_measureNow x1 M).bind fun q9 => L_X9_odd_36 FU x1 x2 x3 q9.1 (0 : Int32) q9.2
set_option maxRecDepth 100000 in
set_option maxHeartbeats 4000000 in
theorem l_X9_odd_186 (Z : Sys) (X : Cx) (hR : xR X = rm_X9_odd) {q : Int32 × Mem} (hq : RetOk Z X (some .int) False (PostI q.1 q.2) 0 0) : ∀ (n : Nat) (x5 : Int32) (x6 : Int32) (M : Mem) (hs : St M) (hf : L_X9_odd_186 n x5 x6 M = some q), G Z X Y_X9_odd False 0 0 186 [(0, .ref (zs Z + 284)), (5, .int x5), (6, .int x6)] [] M := by
  intro n
  induction n with
  | zero => intro x5 x6 M hs  hf; cases hf
  | succ n ih =>
    intro x5 x6 M hs  hf
    unfold L_X9_odd_186 at hf
    refine G.iload 186 2 dX9_odd_186 rfl ?_
    refine G.aload_n 188 0 dX9_odd_188 rfl rfl ?_
    refine G.getp 189 ck_9 0 285 (hs.k k0_284) (pc_9_0 hs) (by decide) (by decide +kernel) wd_1305 dX9_odd_189 ?_
    refine G.sipush 192 (1192 : Int32) dX9_odd_192 (by decide +kernel) ?_
    refine G.ia 195 1192 (hs.k k0_285) (by decide +kernel) (by decide +kernel) dX9_odd_195 ?_
    refine G.icmp_ge 196 225 dX9_odd_196 (by decide) (fun h13 => ?_) (fun h13 => ?_)
    · replace hf := (if_pos h13).symm.trans hf
      refine G.iload 225 1 dX9_odd_225 rfl ?_
      (have hf9 := Option.some.inj hf; subst hf9)
      exact G.rI 227 hq dX9_odd_227 hs
    · replace hf := (if_neg h13).symm.trans hf
      refine G.aload_n 199 0 dX9_odd_199 rfl rfl ?_
      refine G.iload 200 2 dX9_odd_200 rfl ?_
      refine G.aload_n 202 0 dX9_odd_202 rfl rfl ?_
      refine G.getp 203 ck_9 19 298 (hs.k k0_284) (pc_9_19 hs) (by decide) (by decide +kernel) wd_1324 dX9_odd_203 ?_
      refine G.iload 206 2 dX9_odd_206 rfl ?_
      obtain ⟨g14, hf⟩ := gd_e hf
      refine G.ia 208 x6.toNatClampNeg (hs.k k0_298) g14 rfl dX9_odd_208 ?_
      refine G.aload_n 209 0 dX9_odd_209 rfl rfl ?_
      refine G.getp 210 ck_9 20 299 (hs.k k0_284) (pc_9_20 hs) (by decide) (by decide +kernel) wd_1325 dX9_odd_210 ?_
      refine G.iload 213 2 dX9_odd_213 rfl ?_
      refine G.ia 215 x6.toNatClampNeg (hs.k k0_299) g14 rfl dX9_odd_215 ?_
      obtain ⟨q17, e18, hf⟩ := bd_e hf
      refine G.cvV 216 (As := [.int x6, .int (mI M 298 x6.toNatClampNeg), .int (mI M 299 x6.toNatClampNeg)]) ck_9 (hs.k k0_284) (c_X9_writes Z hs x6 (mI M 298 x6.toNatClampNeg) (mI M 299 x6.toNatClampNeg) e18) mk_X9_writes vk_X9_writes rfl wd_1457 hR (by decide +kernel) ⟨rfl, rfl⟩ rfl (Nat.le_of_ble_eq_true rfl) dX9_odd_216 (fun hs15 => ?_)
      refine G.iinc 219 2 (x6 + 1) [(6, .int (x6 + 1)), (0, .ref (zs Z + 284)), (5, .int x5)] dX9_odd_219 rfl (congrArg (fun z => x6 + z) (by decide +kernel)) (Nat.le_of_ble_eq_true rfl) rfl ?_
      refine G.goto 222 186 dX9_odd_222 (by decide) ?_
      refine G.locs [1, 2, 0] rfl ?_
      exact ih x5 (x6 + 1) q17 hs15 hf
set_option maxRecDepth 100000 in
set_option maxHeartbeats 4000000 in
theorem b_X9_odd_183 (Z : Sys) (X : Cx) (hR : xR X = rm_X9_odd) {q : Int32 × Mem} (hq : RetOk Z X (some .int) False (PostI q.1 q.2) 0 0) (x5 : Int32) {M : Mem} (hs : St M) (hf : B_X9_odd_183 x5 M = some q) : G Z X Y_X9_odd False 0 0 183 [(0, .ref (zs Z + 284)), (5, .int x5)] [] M := by
  unfold B_X9_odd_183 at hf
  refine G.iconst 183 (0 : Int32) dX9_odd_183 (by decide +kernel) ?_
  refine G.istore 184 [(6, .int (0 : Int32)), (0, .ref (zs Z + 284)), (5, .int x5)] dX9_odd_184 (Nat.le_of_ble_eq_true rfl) rfl ?_
  refine G.locs [1, 2, 0] rfl ?_
  exact l_X9_odd_186 Z X hR hq FU x5 (0 : Int32) M hs hf
set_option maxRecDepth 100000 in
set_option maxHeartbeats 4000000 in
theorem b_X9_odd_157 (Z : Sys) (X : Cx) (hR : xR X = rm_X9_odd) {q : Int32 × Mem} (hq : RetOk Z X (some .int) False (PostI q.1 q.2) 0 0) (rc_91 : Int32 → Int32 → Int32 → Int32 → Int32 → Int32 → Mem → Option (Int32 × Mem)) (hrc_91 : ∀ (x1 : Int32) (x2 : Int32) (x3 : Int32) (x4 : Int32) (x5 : Int32) (x6 : Int32) (M : Mem), St M → rc_91 x1 x2 x3 x4 x5 x6 M = some q → G Z X Y_X9_odd False 0 0 91 [(0, .ref (zs Z + 284)), (1, .int x1), (2, .int x2), (3, .int x3), (4, .int x4), (5, .int x5), (6, .int x6)] [] M) (x1 : Int32) (x2 : Int32) (x3 : Int32) (x4 : Int32) (x5 : Int32) (x6 : Int32) {M : Mem} (hs : St M) (hf : B_X9_odd_157 rc_91 x1 x2 x3 x4 x5 x6 M = some q) : G Z X Y_X9_odd False 0 0 157 [(0, .ref (zs Z + 284)), (1, .int x1), (2, .int x2), (3, .int x3), (4, .int x4), (5, .int x5), (6, .int x6)] [] M := by
  unfold B_X9_odd_157 at hf
  refine G.iload 157 5 dX9_odd_157 rfl ?_
  refine G.aload_n 159 0 dX9_odd_159 rfl rfl ?_
  refine G.iload_n 160 1 dX9_odd_160 rfl rfl ?_
  obtain ⟨q26, e27, hf⟩ := bd_e hf
  refine G.cvI 161 (As := [.int x1]) ck_9 (hs.k k0_284) (c_X9_measureNow Z hs x1 e27) mk_X9_measureNow vk_X9_measureNow rfl wd_1628 hR (by decide +kernel) ⟨rfl, rfl⟩ rfl (Nat.le_of_ble_eq_true rfl) dX9_odd_161 (fun hs24 => ?_)
  refine G.iload 164 4 dX9_odd_164 rfl ?_
  refine G.icmp_lt 166 173 dX9_odd_166 (by decide) (fun h28 => ?_) (fun h28 => ?_)
  · replace hf := (if_pos h28).symm.trans hf
    refine G.iconst 173 (0 : Int32) dX9_odd_173 (by decide +kernel) ?_
    refine G.iadd 174 dX9_odd_174 ?_
    refine G.istore 175 [(5, .int (x5 + (0 : Int32))), (0, .ref (zs Z + 284)), (1, .int x1), (2, .int x2), (3, .int x3), (4, .int x4), (6, .int x6)] dX9_odd_175 (Nat.le_of_ble_eq_true rfl) rfl ?_
    refine G.iinc 177 6 (x6 + 1) [(6, .int (x6 + 1)), (5, .int (x5 + (0 : Int32))), (0, .ref (zs Z + 284)), (1, .int x1), (2, .int x2), (3, .int x3), (4, .int x4)] dX9_odd_177 rfl (congrArg (fun z => x6 + z) (by decide +kernel)) (Nat.le_of_ble_eq_true rfl) rfl ?_
    refine G.goto 180 91 dX9_odd_180 (by decide) ?_
    refine G.locs [2, 3, 4, 5, 6, 1, 0] rfl ?_
    exact hrc_91 x1 x2 x3 x4 (x5 + (0 : Int32)) (x6 + 1) q26.2 hs24 hf
  · replace hf := (if_neg h28).symm.trans hf
    refine G.iconst 169 (1 : Int32) dX9_odd_169 (by decide +kernel) ?_
    refine G.goto 170 174 dX9_odd_170 (by decide) ?_
    refine G.iadd 174 dX9_odd_174 ?_
    refine G.istore 175 [(5, .int (x5 + (1 : Int32))), (0, .ref (zs Z + 284)), (1, .int x1), (2, .int x2), (3, .int x3), (4, .int x4), (6, .int x6)] dX9_odd_175 (Nat.le_of_ble_eq_true rfl) rfl ?_
    refine G.iinc 177 6 (x6 + 1) [(6, .int (x6 + 1)), (5, .int (x5 + (1 : Int32))), (0, .ref (zs Z + 284)), (1, .int x1), (2, .int x2), (3, .int x3), (4, .int x4)] dX9_odd_177 rfl (congrArg (fun z => x6 + z) (by decide +kernel)) (Nat.le_of_ble_eq_true rfl) rfl ?_
    refine G.goto 180 91 dX9_odd_180 (by decide) ?_
    refine G.locs [2, 3, 4, 5, 6, 1, 0] rfl ?_
    exact hrc_91 x1 x2 x3 x4 (x5 + (1 : Int32)) (x6 + 1) q26.2 hs24 hf
set_option maxRecDepth 100000 in
set_option maxHeartbeats 4000000 in
theorem b_X9_odd_151 (Z : Sys) (X : Cx) (hR : xR X = rm_X9_odd) {q : Int32 × Mem} (hq : RetOk Z X (some .int) False (PostI q.1 q.2) 0 0) (rc_91 : Int32 → Int32 → Int32 → Int32 → Int32 → Int32 → Mem → Option (Int32 × Mem)) (hrc_91 : ∀ (x1 : Int32) (x2 : Int32) (x3 : Int32) (x4 : Int32) (x5 : Int32) (x6 : Int32) (M : Mem), St M → rc_91 x1 x2 x3 x4 x5 x6 M = some q → G Z X Y_X9_odd False 0 0 91 [(0, .ref (zs Z + 284)), (1, .int x1), (2, .int x2), (3, .int x3), (4, .int x4), (5, .int x5), (6, .int x6)] [] M) (rc_108 : Int32 → Int32 → Int32 → Int32 → Int32 → Int32 → Int32 → Mem → Option (Int32 × Mem)) (hrc_108 : ∀ (x1 : Int32) (x2 : Int32) (x3 : Int32) (x4 : Int32) (x5 : Int32) (x6 : Int32) (x7 : Int32) (M : Mem), St M → rc_108 x1 x2 x3 x4 x5 x6 x7 M = some q → G Z X Y_X9_odd False 0 0 108 [(0, .ref (zs Z + 284)), (1, .int x1), (2, .int x2), (3, .int x3), (4, .int x4), (5, .int x5), (6, .int x6), (7, .int x7)] [] M) (x1 : Int32) (x2 : Int32) (x3 : Int32) (x4 : Int32) (x5 : Int32) (x6 : Int32) (x7 : Int32) {M : Mem} (hs : St M) (hf : B_X9_odd_151 rc_91 rc_108 x1 x2 x3 x4 x5 x6 x7 M = some q) : G Z X Y_X9_odd False 0 0 151 [(0, .ref (zs Z + 284)), (1, .int x1), (2, .int x2), (3, .int x3), (4, .int x4), (5, .int x5), (6, .int x6), (7, .int x7)] [] M := by
  unfold B_X9_odd_151 at hf
  refine G.iinc 151 7 (x7 + 1) [(7, .int (x7 + 1)), (0, .ref (zs Z + 284)), (1, .int x1), (2, .int x2), (3, .int x3), (4, .int x4), (5, .int x5), (6, .int x6)] dX9_odd_151 rfl (congrArg (fun z => x7 + z) (by decide +kernel)) (Nat.le_of_ble_eq_true rfl) rfl ?_
  refine G.goto 154 108 dX9_odd_154 (by decide) ?_
  refine G.locs [1, 2, 3, 4, 5, 6, 7, 0] rfl ?_
  exact hrc_108 x1 x2 x3 x4 x5 x6 (x7 + 1) M hs hf
set_option maxRecDepth 100000 in
set_option maxHeartbeats 4000000 in
theorem l_X9_odd_108 (Z : Sys) (X : Cx) (hR : xR X = rm_X9_odd) {q : Int32 × Mem} (hq : RetOk Z X (some .int) False (PostI q.1 q.2) 0 0) (rc_91 : Int32 → Int32 → Int32 → Int32 → Int32 → Int32 → Mem → Option (Int32 × Mem)) (hrc_91 : ∀ (x1 : Int32) (x2 : Int32) (x3 : Int32) (x4 : Int32) (x5 : Int32) (x6 : Int32) (M : Mem), St M → rc_91 x1 x2 x3 x4 x5 x6 M = some q → G Z X Y_X9_odd False 0 0 91 [(0, .ref (zs Z + 284)), (1, .int x1), (2, .int x2), (3, .int x3), (4, .int x4), (5, .int x5), (6, .int x6)] [] M) : ∀ (n : Nat) (x1 : Int32) (x2 : Int32) (x3 : Int32) (x4 : Int32) (x5 : Int32) (x6 : Int32) (x7 : Int32) (M : Mem) (hs : St M) (hf : L_X9_odd_108 rc_91 n x1 x2 x3 x4 x5 x6 x7 M = some q), G Z X Y_X9_odd False 0 0 108 [(0, .ref (zs Z + 284)), (1, .int x1), (2, .int x2), (3, .int x3), (4, .int x4), (5, .int x5), (6, .int x6), (7, .int x7)] [] M := by
  intro n
  induction n with
  | zero => intro x1 x2 x3 x4 x5 x6 x7 M hs  hf; cases hf
  | succ n ih =>
    intro x1 x2 x3 x4 x5 x6 x7 M hs  hf
    unfold L_X9_odd_108 at hf
    refine G.iload 108 7 dX9_odd_108 rfl ?_
    refine G.aload_n 110 0 dX9_odd_110 rfl rfl ?_
    refine G.getp 111 ck_9 0 285 (hs.k k0_284) (pc_9_0 hs) (by decide) (by decide +kernel) wd_1305 dX9_odd_111 ?_
    refine G.sipush 114 (1192 : Int32) dX9_odd_114 (by decide +kernel) ?_
    refine G.ia 117 1192 (hs.k k0_285) (by decide +kernel) (by decide +kernel) dX9_odd_117 ?_
    refine G.icmp_ge 118 157 dX9_odd_118 (by decide) (fun h23 => ?_) (fun h23 => ?_)
    · replace hf := (if_pos h23).symm.trans hf
      refine G.locs [0, 1, 2, 3, 4, 5, 6] rfl ?_
      exact b_X9_odd_157 Z X hR hq rc_91 hrc_91 x1 x2 x3 x4 x5 x6 hs hf
    · replace hf := (if_neg h23).symm.trans hf
      refine G.aload_n 121 0 dX9_odd_121 rfl rfl ?_
      refine G.getp 122 ck_9 19 298 (hs.k k0_284) (pc_9_19 hs) (by decide) (by decide +kernel) wd_1324 dX9_odd_122 ?_
      refine G.iload 125 7 dX9_odd_125 rfl ?_
      obtain ⟨g29, hf⟩ := gd_e hf
      refine G.ia 127 x7.toNatClampNeg (hs.k k0_298) g29 rfl dX9_odd_127 ?_
      refine G.if_lt 128 151 dX9_odd_128 (by decide) (fun h30 => ?_) (fun h30 => ?_)
      · replace hf := (if_pos h30).symm.trans hf
        exact b_X9_odd_151 Z X hR hq rc_91 hrc_91 (L_X9_odd_108 rc_91 n) ih x1 x2 x3 x4 x5 x6 x7 hs hf
      · replace hf := (if_neg h30).symm.trans hf
        refine G.aload_n 131 0 dX9_odd_131 rfl rfl ?_
        refine G.iload 132 7 dX9_odd_132 rfl ?_
        refine G.aload_n 134 0 dX9_odd_134 rfl rfl ?_
        refine G.getp 135 ck_9 17 296 (hs.k k0_284) (pc_9_17 hs) (by decide) (by decide +kernel) wd_1322 dX9_odd_135 ?_
        refine G.iload 138 7 dX9_odd_138 rfl ?_
        refine G.ia 140 x7.toNatClampNeg (hs.k k0_296) g29 rfl dX9_odd_140 ?_
        refine G.aload_n 141 0 dX9_odd_141 rfl rfl ?_
        refine G.getp 142 ck_9 18 297 (hs.k k0_284) (pc_9_18 hs) (by decide) (by decide +kernel) wd_1323 dX9_odd_142 ?_
        refine G.iload 145 7 dX9_odd_145 rfl ?_
        refine G.ia 147 x7.toNatClampNeg (hs.k k0_297) g29 rfl dX9_odd_147 ?_
        obtain ⟨q33, e34, hf⟩ := bd_e hf
        refine G.cvV 148 (As := [.int x7, .int (mI M 296 x7.toNatClampNeg), .int (mI M 297 x7.toNatClampNeg)]) ck_9 (hs.k k0_284) (c_X9_writes Z hs x7 (mI M 296 x7.toNatClampNeg) (mI M 297 x7.toNatClampNeg) e34) mk_X9_writes vk_X9_writes rfl wd_1457 hR (by decide +kernel) ⟨rfl, rfl⟩ rfl (Nat.le_of_ble_eq_true rfl) dX9_odd_148 (fun hs31 => ?_)
        exact b_X9_odd_151 Z X hR hq rc_91 hrc_91 (L_X9_odd_108 rc_91 n) ih x1 x2 x3 x4 x5 x6 x7 hs31 hf
set_option maxRecDepth 100000 in
set_option maxHeartbeats 4000000 in
theorem l_X9_odd_91 (Z : Sys) (X : Cx) (hR : xR X = rm_X9_odd) {q : Int32 × Mem} (hq : RetOk Z X (some .int) False (PostI q.1 q.2) 0 0) : ∀ (n : Nat) (x1 : Int32) (x2 : Int32) (x3 : Int32) (x4 : Int32) (x5 : Int32) (x6 : Int32) (M : Mem) (hs : St M) (hf : L_X9_odd_91 n x1 x2 x3 x4 x5 x6 M = some q), G Z X Y_X9_odd False 0 0 91 [(0, .ref (zs Z + 284)), (1, .int x1), (2, .int x2), (3, .int x3), (4, .int x4), (5, .int x5), (6, .int x6)] [] M := by
  intro n
  induction n with
  | zero => intro x1 x2 x3 x4 x5 x6 M hs  hf; cases hf
  | succ n ih =>
    intro x1 x2 x3 x4 x5 x6 M hs  hf
    unfold L_X9_odd_91 at hf
    refine G.iload 91 6 dX9_odd_91 rfl ?_
    refine G.iload_n 93 2 dX9_odd_93 rfl rfl ?_
    refine G.icmp_ge 94 183 dX9_odd_94 (by decide) (fun h12 => ?_) (fun h12 => ?_)
    · replace hf := (if_pos h12).symm.trans hf
      refine G.locs [0, 5] rfl ?_
      exact b_X9_odd_183 Z X hR hq x5 hs hf
    · replace hf := (if_neg h12).symm.trans hf
      refine G.aload_n 97 0 dX9_odd_97 rfl rfl ?_
      refine G.iload_n 98 3 dX9_odd_98 rfl rfl ?_
      refine G.iload 99 6 dX9_odd_99 rfl ?_
      refine G.iadd 101 dX9_odd_101 ?_
      obtain ⟨q21, e22, hf⟩ := bd_e hf
      refine G.cvV 102 (As := [.int (x3 + x6)]) ck_9 (hs.k k0_284) (c_X9_makes Z hs (x3 + x6) e22) mk_X9_makes vk_X9_makes rfl wd_1642 hR (by decide +kernel) ⟨rfl, rfl⟩ rfl (Nat.le_of_ble_eq_true rfl) dX9_odd_102 (fun hs19 => ?_)
      refine G.iconst 105 (0 : Int32) dX9_odd_105 (by decide +kernel) ?_
      refine G.istore 106 [(7, .int (0 : Int32)), (0, .ref (zs Z + 284)), (1, .int x1), (2, .int x2), (3, .int x3), (4, .int x4), (5, .int x5), (6, .int x6)] dX9_odd_106 (Nat.le_of_ble_eq_true rfl) rfl ?_
      refine G.locs [1, 2, 3, 4, 5, 6, 7, 0] rfl ?_
      exact l_X9_odd_108 Z X hR hq (L_X9_odd_91 n) ih FU x1 x2 x3 x4 x5 x6 (0 : Int32) q21 hs19 hf
set_option maxRecDepth 100000 in
set_option maxHeartbeats 4000000 in
theorem b_X9_odd_85 (Z : Sys) (X : Cx) (hR : xR X = rm_X9_odd) {q : Int32 × Mem} (hq : RetOk Z X (some .int) False (PostI q.1 q.2) 0 0) (x1 : Int32) (x2 : Int32) (x3 : Int32) (x4 : Int32) {M : Mem} (hs : St M) (hf : B_X9_odd_85 x1 x2 x3 x4 M = some q) : G Z X Y_X9_odd False 0 0 85 [(0, .ref (zs Z + 284)), (1, .int x1), (2, .int x2), (3, .int x3), (4, .int x4)] [] M := by
  unfold B_X9_odd_85 at hf
  refine G.iconst 85 (0 : Int32) dX9_odd_85 (by decide +kernel) ?_
  refine G.istore 86 [(5, .int (0 : Int32)), (0, .ref (zs Z + 284)), (1, .int x1), (2, .int x2), (3, .int x3), (4, .int x4)] dX9_odd_86 (Nat.le_of_ble_eq_true rfl) rfl ?_
  refine G.iconst 88 (0 : Int32) dX9_odd_88 (by decide +kernel) ?_
  refine G.istore 89 [(6, .int (0 : Int32)), (5, .int (0 : Int32)), (0, .ref (zs Z + 284)), (1, .int x1), (2, .int x2), (3, .int x3), (4, .int x4)] dX9_odd_89 (Nat.le_of_ble_eq_true rfl) rfl ?_
  refine G.locs [2, 3, 4, 5, 6, 1, 0] rfl ?_
  exact l_X9_odd_91 Z X hR hq FU x1 x2 x3 x4 (0 : Int32) (0 : Int32) M hs hf
set_option maxRecDepth 100000 in
set_option maxHeartbeats 4000000 in
theorem l_X9_odd_36 (Z : Sys) (X : Cx) (hR : xR X = rm_X9_odd) {q : Int32 × Mem} (hq : RetOk Z X (some .int) False (PostI q.1 q.2) 0 0) : ∀ (n : Nat) (x1 : Int32) (x2 : Int32) (x3 : Int32) (x4 : Int32) (x5 : Int32) (M : Mem) (hs : St M) (hf : L_X9_odd_36 n x1 x2 x3 x4 x5 M = some q), G Z X Y_X9_odd False 0 0 36 [(0, .ref (zs Z + 284)), (1, .int x1), (2, .int x2), (3, .int x3), (4, .int x4), (5, .int x5)] [] M := by
  intro n
  induction n with
  | zero => intro x1 x2 x3 x4 x5 M hs  hf; cases hf
  | succ n ih =>
    intro x1 x2 x3 x4 x5 M hs  hf
    unfold L_X9_odd_36 at hf
    refine G.iload 36 5 dX9_odd_36 rfl ?_
    refine G.aload_n 38 0 dX9_odd_38 rfl rfl ?_
    refine G.getp 39 ck_9 0 285 (hs.k k0_284) (pc_9_0 hs) (by decide) (by decide +kernel) wd_1305 dX9_odd_39 ?_
    refine G.sipush 42 (1192 : Int32) dX9_odd_42 (by decide +kernel) ?_
    refine G.ia 45 1192 (hs.k k0_285) (by decide +kernel) (by decide +kernel) dX9_odd_45 ?_
    refine G.icmp_ge 46 85 dX9_odd_46 (by decide) (fun h11 => ?_) (fun h11 => ?_)
    · replace hf := (if_pos h11).symm.trans hf
      refine G.locs [0, 1, 2, 3, 4] rfl ?_
      exact b_X9_odd_85 Z X hR hq x1 x2 x3 x4 hs hf
    · replace hf := (if_neg h11).symm.trans hf
      refine G.aload_n 49 0 dX9_odd_49 rfl rfl ?_
      refine G.getp 50 ck_9 19 298 (hs.k k0_284) (pc_9_19 hs) (by decide) (by decide +kernel) wd_1324 dX9_odd_50 ?_
      refine G.iload 53 5 dX9_odd_53 rfl ?_
      refine G.aload_n 55 0 dX9_odd_55 rfl rfl ?_
      refine G.iload 56 5 dX9_odd_56 rfl ?_
      refine G.bipush 58 (9 : Int32) dX9_odd_58 (by decide +kernel) ?_
      obtain ⟨q37, e38, hf⟩ := bd_e hf
      refine G.cvI 60 (As := [.int x5, .int (9 : Int32)]) ck_9 (hs.k k0_284) (c_X9_get Z hs x5 (9 : Int32) e38) mk_X9_get vk_X9_get rfl wd_1411 hR (by decide +kernel) ⟨rfl, rfl⟩ rfl (Nat.le_of_ble_eq_true rfl) dX9_odd_60 (fun hs35 => ?_)
      obtain ⟨g39, hf⟩ := gd_e hf
      refine G.ist 63 x5.toNatClampNeg (hs35.k k0_298) g39 rfl dX9_odd_63 ?_
      refine G.aload_n 64 0 dX9_odd_64 rfl rfl ?_
      refine G.getp 65 ck_9 20 299 ((St.i hs35).k k0_284) (pc_9_20 (St.i hs35)) (by decide) (by decide +kernel) wd_1325 dX9_odd_65 ?_
      refine G.iload 68 5 dX9_odd_68 rfl ?_
      refine G.aload_n 70 0 dX9_odd_70 rfl rfl ?_
      refine G.iload 71 5 dX9_odd_71 rfl ?_
      refine G.bipush 73 (10 : Int32) dX9_odd_73 (by decide +kernel) ?_
      obtain ⟨q42, e43, hf⟩ := bd_e hf
      refine G.cvI 75 (As := [.int x5, .int (10 : Int32)]) ck_9 ((St.i hs35).k k0_284) (c_X9_get Z (St.i hs35) x5 (10 : Int32) e43) mk_X9_get vk_X9_get rfl wd_1411 hR (by decide +kernel) ⟨rfl, rfl⟩ rfl (Nat.le_of_ble_eq_true rfl) dX9_odd_75 (fun hs40 => ?_)
      refine G.ist 78 x5.toNatClampNeg (hs40.k k0_299) g39 rfl dX9_odd_78 ?_
      refine G.iinc 79 5 (x5 + 1) [(5, .int (x5 + 1)), (0, .ref (zs Z + 284)), (1, .int x1), (2, .int x2), (3, .int x3), (4, .int x4)] dX9_odd_79 rfl (congrArg (fun z => x5 + z) (by decide +kernel)) (Nat.le_of_ble_eq_true rfl) rfl ?_
      refine G.goto 82 36 dX9_odd_82 (by decide) ?_
      refine G.locs [1, 2, 3, 4, 5, 0] rfl ?_
      exact ih x1 x2 x3 x4 (x5 + 1) (sI (sI M 298 x5.toNatClampNeg q37) 299 x5.toNatClampNeg q42) (St.i hs40) hf
set_option maxRecDepth 100000 in
set_option maxHeartbeats 4000000 in
theorem c_X9_odd (Z : Sys) {M : Mem} (hs : St M) (x1 : Int32) (x2 : Int32) (x3 : Int32) {q : Int32 × Mem} (hf : f_X9_odd x1 x2 x3 M = some q) : Ct Z yX9_odd cX9_odd 8 (some .int) rm_X9_odd [.ref (zs Z + 284), .int x1, .int x2, .int x3] M False (PostI q.1 q.2) := by
  refine Ct.of (by decide +kernel) (Nat.le_of_ble_eq_true rfl) (fun X hR hq _ => ?_)
  show G Z X Y_X9_odd False 0 0 0 [(0, .ref (zs Z + 284)), (1, .int x1), (2, .int x2), (3, .int x3)] [] M
  replace hq : RetOk Z X (some .int) False (PostI q.1 q.2) 0 0 := hq
  unfold f_X9_odd at hf
  refine G.iload_n 0 1 dX9_odd_0 rfl rfl ?_
  refine G.i2l 1 dX9_odd_1 ?_
  refine G.lconst 2 (0 : Int64) dX9_odd_2 (by decide +kernel) ?_
  refine G.ldc2 3 (4 : Int64) wd_1627 dX9_odd_3 ?_
  refine G.csZ 6 (As := [.long x1.toInt64, .long (0 : Int64), .long (4 : Int64)]) (c_X9_isIn Z hs x1.toInt64 (0 : Int64) (4 : Int64) rfl) mk_X9_isIn wd_1400 wd_1399 hR (by decide +kernel) ⟨rfl, rfl⟩ rfl (Nat.le_of_ble_eq_true rfl) dX9_odd_6 (fun hs1 z2 => ?_)
  refine G.if_eq 9 24 dX9_odd_9 (by decide) (fun h3 => ?_) (fun h3 => ?_)
  · replace hf := (if_pos h3).symm.trans hf
    refine G.iconst 24 (-1 : Int32) dX9_odd_24 (by decide +kernel) ?_
    (have hf9 := Option.some.inj hf; subst hf9)
    exact G.rI 25 hq dX9_odd_25 hs1
  · replace hf := (if_neg h3).symm.trans hf
    refine G.iload_n 12 2 dX9_odd_12 rfl rfl ?_
    refine G.i2l 13 dX9_odd_13 ?_
    refine G.lconst 14 (1 : Int64) dX9_odd_14 (by decide +kernel) ?_
    refine G.ldc2 15 (50 : Int64) wd_1641 dX9_odd_15 ?_
    refine G.csZ 18 (As := [.long x2.toInt64, .long (1 : Int64), .long (50 : Int64)]) (c_X9_isIn Z hs1 x2.toInt64 (1 : Int64) (50 : Int64) rfl) mk_X9_isIn wd_1400 wd_1399 hR (by decide +kernel) ⟨rfl, rfl⟩ rfl (Nat.le_of_ble_eq_true rfl) dX9_odd_18 (fun hs4 z5 => ?_)
    refine G.if_ne 21 26 dX9_odd_21 (by decide) (fun h6 => ?_) (fun h6 => ?_)
    · replace hf := (if_neg h6).symm.trans hf
      refine G.aload_n 26 0 dX9_odd_26 rfl rfl ?_
      refine G.iload_n 27 1 dX9_odd_27 rfl rfl ?_
      obtain ⟨q9, e10, hf⟩ := bd_e hf
      refine G.cvI 28 (As := [.int x1]) ck_9 (hs4.k k0_284) (c_X9_measureNow Z hs4 x1 e10) mk_X9_measureNow vk_X9_measureNow rfl wd_1628 hR (by decide +kernel) ⟨rfl, rfl⟩ rfl (Nat.le_of_ble_eq_true rfl) dX9_odd_28 (fun hs7 => ?_)
      refine G.istore 31 [(4, .int q9.1), (0, .ref (zs Z + 284)), (1, .int x1), (2, .int x2), (3, .int x3)] dX9_odd_31 (Nat.le_of_ble_eq_true rfl) rfl ?_
      refine G.iconst 33 (0 : Int32) dX9_odd_33 (by decide +kernel) ?_
      refine G.istore 34 [(5, .int (0 : Int32)), (4, .int q9.1), (0, .ref (zs Z + 284)), (1, .int x1), (2, .int x2), (3, .int x3)] dX9_odd_34 (Nat.le_of_ble_eq_true rfl) rfl ?_
      refine G.locs [2, 3, 4, 5, 1, 0] rfl ?_
      exact l_X9_odd_36 Z X hR hq FU x1 x2 x3 q9.1 (0 : Int32) q9.2 hs7 hf
    · replace hf := (if_pos h6).symm.trans hf
      refine G.iconst 24 (-1 : Int32) dX9_odd_24 (by decide +kernel) ?_
      (have hf9 := Option.some.inj hf; subst hf9)
      exact G.rI 25 hq dX9_odd_25 hs4
abbrev Y_X9_odds : My := (cX9_odds, RX9, 8)
def rm_X9_odds : Room := { frames := 5, cells := 0, slots := 0, locals := 288 }
theorem dX9_odds_0 : decode cX9_odds 0 = .ok (.iload_n 1, 1) := by decide +kernel
theorem dX9_odds_1 : decode cX9_odds 1 = .ok (.i2l, 1) := by decide +kernel
theorem dX9_odds_2 : decode cX9_odds 2 = .ok (.lconst 0, 1) := by decide +kernel
theorem dX9_odds_3 : decode cX9_odds 3 = .ok (.ldc2_w 83, 3) := by decide +kernel
theorem dX9_odds_6 : decode cX9_odds 6 = .ok (.invokestatic 62, 3) := by decide +kernel
theorem dX9_odds_9 : decode cX9_odds 9 = .ok (.ifCond .ne 7, 3) := by decide +kernel
theorem dX9_odds_12 : decode cX9_odds 12 = .ok (.ldc2_w 132, 3) := by decide +kernel
theorem dX9_odds_15 : decode cX9_odds 15 = .ok (.lreturn, 1) := by decide +kernel
theorem dX9_odds_16 : decode cX9_odds 16 = .ok (.aload_n 0, 1) := by decide +kernel
theorem dX9_odds_17 : decode cX9_odds 17 = .ok (.iconst 0, 1) := by decide +kernel
theorem dX9_odds_18 : decode cX9_odds 18 = .ok (.bipush 18, 2) := by decide +kernel
theorem dX9_odds_20 : decode cX9_odds 20 = .ok (.invokevirtual 128, 3) := by decide +kernel
theorem dX9_odds_23 : decode cX9_odds 23 = .ok (.lconst 0, 1) := by decide +kernel
theorem dX9_odds_24 : decode cX9_odds 24 = .ok (.lstore_n 2, 1) := by decide +kernel
theorem dX9_odds_25 : decode cX9_odds 25 = .ok (.aload_n 0, 1) := by decide +kernel
theorem dX9_odds_26 : decode cX9_odds 26 = .ok (.getfield 34, 3) := by decide +kernel
theorem dX9_odds_29 : decode cX9_odds 29 = .ok (.iload_n 1, 1) := by decide +kernel
theorem dX9_odds_30 : decode cX9_odds 30 = .ok (.iaload, 1) := by decide +kernel
theorem dX9_odds_31 : decode cX9_odds 31 = .ok (.istore 4, 2) := by decide +kernel
theorem dX9_odds_33 : decode cX9_odds 33 = .ok (.iload 4, 2) := by decide +kernel
theorem dX9_odds_35 : decode cX9_odds 35 = .ok (.aload_n 0, 1) := by decide +kernel
theorem dX9_odds_36 : decode cX9_odds 36 = .ok (.getfield 118, 3) := by decide +kernel
theorem dX9_odds_39 : decode cX9_odds 39 = .ok (.if_icmp .gt 80, 3) := by decide +kernel
theorem dX9_odds_42 : decode cX9_odds 42 = .ok (.lconst 1, 1) := by decide +kernel
theorem dX9_odds_43 : decode cX9_odds 43 = .ok (.lstore 5, 2) := by decide +kernel
theorem dX9_odds_45 : decode cX9_odds 45 = .ok (.iconst 1, 1) := by decide +kernel
theorem dX9_odds_46 : decode cX9_odds 46 = .ok (.istore 7, 2) := by decide +kernel
theorem dX9_odds_48 : decode cX9_odds 48 = .ok (.iload 7, 2) := by decide +kernel
theorem dX9_odds_50 : decode cX9_odds 50 = .ok (.iload 4, 2) := by decide +kernel
theorem dX9_odds_52 : decode cX9_odds 52 = .ok (.if_icmp .gt 29, 3) := by decide +kernel
theorem dX9_odds_55 : decode cX9_odds 55 = .ok (.lload 5, 2) := by decide +kernel
theorem dX9_odds_57 : decode cX9_odds 57 = .ok (.aload_n 0, 1) := by decide +kernel
theorem dX9_odds_58 : decode cX9_odds 58 = .ok (.getfield 118, 3) := by decide +kernel
theorem dX9_odds_61 : decode cX9_odds 61 = .ok (.iload 4, 2) := by decide +kernel
theorem dX9_odds_63 : decode cX9_odds 63 = .ok (.isub, 1) := by decide +kernel
theorem dX9_odds_64 : decode cX9_odds 64 = .ok (.iload 7, 2) := by decide +kernel
theorem dX9_odds_66 : decode cX9_odds 66 = .ok (.iadd, 1) := by decide +kernel
theorem dX9_odds_67 : decode cX9_odds 67 = .ok (.i2l, 1) := by decide +kernel
theorem dX9_odds_68 : decode cX9_odds 68 = .ok (.lmul, 1) := by decide +kernel
theorem dX9_odds_69 : decode cX9_odds 69 = .ok (.iload 7, 2) := by decide +kernel
theorem dX9_odds_71 : decode cX9_odds 71 = .ok (.i2l, 1) := by decide +kernel
theorem dX9_odds_72 : decode cX9_odds 72 = .ok (.ldiv, 1) := by decide +kernel
theorem dX9_odds_73 : decode cX9_odds 73 = .ok (.lstore 5, 2) := by decide +kernel
theorem dX9_odds_75 : decode cX9_odds 75 = .ok (.iinc 7 1, 3) := by decide +kernel
theorem dX9_odds_78 : decode cX9_odds 78 = .ok (.goto (-30), 3) := by decide +kernel
theorem dX9_odds_81 : decode cX9_odds 81 = .ok (.iload 4, 2) := by decide +kernel
theorem dX9_odds_83 : decode cX9_odds 83 = .ok (.istore 7, 2) := by decide +kernel
theorem dX9_odds_85 : decode cX9_odds 85 = .ok (.iload 7, 2) := by decide +kernel
theorem dX9_odds_87 : decode cX9_odds 87 = .ok (.aload_n 0, 1) := by decide +kernel
theorem dX9_odds_88 : decode cX9_odds 88 = .ok (.getfield 118, 3) := by decide +kernel
theorem dX9_odds_91 : decode cX9_odds 91 = .ok (.if_icmp .ge 17, 3) := by decide +kernel
theorem dX9_odds_94 : decode cX9_odds 94 = .ok (.lload 5, 2) := by decide +kernel
theorem dX9_odds_96 : decode cX9_odds 96 = .ok (.ldc2_w 83, 3) := by decide +kernel
theorem dX9_odds_99 : decode cX9_odds 99 = .ok (.lmul, 1) := by decide +kernel
theorem dX9_odds_100 : decode cX9_odds 100 = .ok (.lstore 5, 2) := by decide +kernel
theorem dX9_odds_102 : decode cX9_odds 102 = .ok (.iinc 7 1, 3) := by decide +kernel
theorem dX9_odds_105 : decode cX9_odds 105 = .ok (.goto (-20), 3) := by decide +kernel
theorem dX9_odds_108 : decode cX9_odds 108 = .ok (.lload_n 2, 1) := by decide +kernel
theorem dX9_odds_109 : decode cX9_odds 109 = .ok (.lload 5, 2) := by decide +kernel
theorem dX9_odds_111 : decode cX9_odds 111 = .ok (.ladd, 1) := by decide +kernel
theorem dX9_odds_112 : decode cX9_odds 112 = .ok (.lstore_n 2, 1) := by decide +kernel
theorem dX9_odds_113 : decode cX9_odds 113 = .ok (.iinc 4 1, 3) := by decide +kernel
theorem dX9_odds_116 : decode cX9_odds 116 = .ok (.goto (-83), 3) := by decide +kernel
theorem dX9_odds_119 : decode cX9_odds 119 = .ok (.lload_n 2, 1) := by decide +kernel
theorem dX9_odds_120 : decode cX9_odds 120 = .ok (.lreturn, 1) := by decide +kernel
def B_X9_odds_108 (rc_33 : Int64 → Int32 → Mem → Option (Int64 × Mem)) (l2 : Int64) (x4 : Int32) (l5 : Int64) (M : Mem) : Option (Int64 × Mem) := rc_33 (l2 + l5) (x4 + 1) M
def L_X9_odds_85 (rc_33 : Int64 → Int32 → Mem → Option (Int64 × Mem)) : Nat → Int64 → Int32 → Int64 → Int32 → Mem → Option (Int64 × Mem)
  | 0, _, _, _, _, _ => none
  | n + 1, l2, x4, l5, x7, M => if (mI M 284 11) ≤ x7 then B_X9_odds_108 rc_33 l2 x4 l5 M else L_X9_odds_85 rc_33 n l2 x4 (l5 * (9 : Int64)) (x7 + 1) M
def B_X9_odds_81 (rc_33 : Int64 → Int32 → Mem → Option (Int64 × Mem)) (l2 : Int64) (x4 : Int32) (l5 : Int64) (M : Mem) : Option (Int64 × Mem) := L_X9_odds_85 rc_33 FU l2 x4 l5 x4 M
def L_X9_odds_48 (rc_33 : Int64 → Int32 → Mem → Option (Int64 × Mem)) : Nat → Int64 → Int32 → Int64 → Int32 → Mem → Option (Int64 × Mem)
  | 0, _, _, _, _, _ => none
  | n + 1, l2, x4, l5, x7, M => if x4 < x7 then B_X9_odds_81 rc_33 l2 x4 l5 M else gd (¬ x7.toInt64 = 0) (L_X9_odds_48 rc_33 n l2 x4 ((l5 * (((mI M 284 11) - x4) + x7).toInt64) / x7.toInt64) (x7 + 1) M)
def L_X9_odds_33 : Nat → Int64 → Int32 → Mem → Option (Int64 × Mem)
  | 0, _, _, _ => none
  | n + 1, l2, x4, M => if (mI M 284 11) < x4 then some (l2, M) else L_X9_odds_48 (L_X9_odds_33 n) FU l2 x4 (1 : Int64) (1 : Int32) M
def f_X9_odds (x1 : Int32) (M : Mem) : Option (Int64 × Mem) := if (f_X9_isIn x1.toInt64 (0 : Int64) (9 : Int64)) = 0 then some ((-1 : Int64), M) else (f_X9_counts (0 : Int32) (18 : Int32) M).bind fun q6 => gd (inR x1 10) (L_X9_odds_33 FU (0 : Int64) (mI q6 293 x1.toNatClampNeg) q6)
set_option maxRecDepth 100000 in
set_option maxHeartbeats 4000000 in
theorem b_X9_odds_108 (Z : Sys) (X : Cx) (hR : xR X = rm_X9_odds) {q : Int64 × Mem} (hq : RetOk Z X (some .long) False (PostL q.1 q.2) 0 0) (rc_33 : Int64 → Int32 → Mem → Option (Int64 × Mem)) (hrc_33 : ∀ (l2 : Int64) (x4 : Int32) (M : Mem), St M → rc_33 l2 x4 M = some q → G Z X Y_X9_odds False 0 0 33 [(0, .ref (zs Z + 284)), (2, .long l2), (4, .int x4)] [] M) (l2 : Int64) (x4 : Int32) (l5 : Int64) {M : Mem} (hs : St M) (hf : B_X9_odds_108 rc_33 l2 x4 l5 M = some q) : G Z X Y_X9_odds False 0 0 108 [(0, .ref (zs Z + 284)), (2, .long l2), (4, .int x4), (5, .long l5)] [] M := by
  unfold B_X9_odds_108 at hf
  refine G.lload_n 108 1 dX9_odds_108 rfl rfl ?_
  refine G.lload 109 3 dX9_odds_109 rfl ?_
  refine G.ladd 111 dX9_odds_111 ?_
  refine G.lstore_n 112 [(2, .long (l2 + l5)), (0, .ref (zs Z + 284)), (4, .int x4), (5, .long l5)] dX9_odds_112 rfl (Nat.le_of_ble_eq_true rfl) rfl ?_
  refine G.iinc 113 2 (x4 + 1) [(4, .int (x4 + 1)), (2, .long (l2 + l5)), (0, .ref (zs Z + 284)), (5, .long l5)] dX9_odds_113 rfl (congrArg (fun z => x4 + z) (by decide +kernel)) (Nat.le_of_ble_eq_true rfl) rfl ?_
  refine G.goto 116 33 dX9_odds_116 (by decide) ?_
  refine G.locs [2, 1, 0] rfl ?_
  exact hrc_33 (l2 + l5) (x4 + 1) M hs hf
set_option maxRecDepth 100000 in
set_option maxHeartbeats 4000000 in
theorem l_X9_odds_85 (Z : Sys) (X : Cx) (hR : xR X = rm_X9_odds) {q : Int64 × Mem} (hq : RetOk Z X (some .long) False (PostL q.1 q.2) 0 0) (rc_33 : Int64 → Int32 → Mem → Option (Int64 × Mem)) (hrc_33 : ∀ (l2 : Int64) (x4 : Int32) (M : Mem), St M → rc_33 l2 x4 M = some q → G Z X Y_X9_odds False 0 0 33 [(0, .ref (zs Z + 284)), (2, .long l2), (4, .int x4)] [] M) : ∀ (n : Nat) (l2 : Int64) (x4 : Int32) (l5 : Int64) (x7 : Int32) (M : Mem) (hs : St M) (hf : L_X9_odds_85 rc_33 n l2 x4 l5 x7 M = some q), G Z X Y_X9_odds False 0 0 85 [(0, .ref (zs Z + 284)), (2, .long l2), (4, .int x4), (5, .long l5), (7, .int x7)] [] M := by
  intro n
  induction n with
  | zero => intro l2 x4 l5 x7 M hs  hf; cases hf
  | succ n ih =>
    intro l2 x4 l5 x7 M hs  hf
    unfold L_X9_odds_85 at hf
    refine G.iload 85 4 dX9_odds_85 rfl ?_
    refine G.aload_n 87 0 dX9_odds_87 rfl rfl ?_
    refine G.geti 88 ck_9 11 (hs.k k0_284) (by decide) (by decide +kernel) wd_1316 dX9_odds_88 ?_
    refine G.icmp_ge 91 108 dX9_odds_91 (by decide) (fun h11 => ?_) (fun h11 => ?_)
    · replace hf := (if_pos h11).symm.trans hf
      refine G.locs [0, 1, 2, 3] rfl ?_
      exact b_X9_odds_108 Z X hR hq rc_33 hrc_33 l2 x4 l5 hs hf
    · replace hf := (if_neg h11).symm.trans hf
      refine G.lload 94 3 dX9_odds_94 rfl ?_
      refine G.ldc2 96 (9 : Int64) wd_1428 dX9_odds_96 ?_
      refine G.lmul 99 dX9_odds_99 ?_
      refine G.lstore 100 [(5, .long (l5 * (9 : Int64))), (0, .ref (zs Z + 284)), (2, .long l2), (4, .int x4), (7, .int x7)] dX9_odds_100 (Nat.le_of_ble_eq_true rfl) rfl ?_
      refine G.iinc 102 4 (x7 + 1) [(7, .int (x7 + 1)), (5, .long (l5 * (9 : Int64))), (0, .ref (zs Z + 284)), (2, .long l2), (4, .int x4)] dX9_odds_102 rfl (congrArg (fun z => x7 + z) (by decide +kernel)) (Nat.le_of_ble_eq_true rfl) rfl ?_
      refine G.goto 105 85 dX9_odds_105 (by decide) ?_
      refine G.locs [2, 3, 4, 1, 0] rfl ?_
      exact ih l2 x4 (l5 * (9 : Int64)) (x7 + 1) M hs hf
set_option maxRecDepth 100000 in
set_option maxHeartbeats 4000000 in
theorem b_X9_odds_81 (Z : Sys) (X : Cx) (hR : xR X = rm_X9_odds) {q : Int64 × Mem} (hq : RetOk Z X (some .long) False (PostL q.1 q.2) 0 0) (rc_33 : Int64 → Int32 → Mem → Option (Int64 × Mem)) (hrc_33 : ∀ (l2 : Int64) (x4 : Int32) (M : Mem), St M → rc_33 l2 x4 M = some q → G Z X Y_X9_odds False 0 0 33 [(0, .ref (zs Z + 284)), (2, .long l2), (4, .int x4)] [] M) (l2 : Int64) (x4 : Int32) (l5 : Int64) {M : Mem} (hs : St M) (hf : B_X9_odds_81 rc_33 l2 x4 l5 M = some q) : G Z X Y_X9_odds False 0 0 81 [(0, .ref (zs Z + 284)), (2, .long l2), (4, .int x4), (5, .long l5)] [] M := by
  unfold B_X9_odds_81 at hf
  refine G.iload 81 2 dX9_odds_81 rfl ?_
  refine G.istore 83 [(7, .int x4), (0, .ref (zs Z + 284)), (2, .long l2), (4, .int x4), (5, .long l5)] dX9_odds_83 (Nat.le_of_ble_eq_true rfl) rfl ?_
  refine G.locs [1, 2, 3, 4, 0] rfl ?_
  exact l_X9_odds_85 Z X hR hq rc_33 hrc_33 FU l2 x4 l5 x4 M hs hf
set_option maxRecDepth 100000 in
set_option maxHeartbeats 4000000 in
theorem l_X9_odds_48 (Z : Sys) (X : Cx) (hR : xR X = rm_X9_odds) {q : Int64 × Mem} (hq : RetOk Z X (some .long) False (PostL q.1 q.2) 0 0) (rc_33 : Int64 → Int32 → Mem → Option (Int64 × Mem)) (hrc_33 : ∀ (l2 : Int64) (x4 : Int32) (M : Mem), St M → rc_33 l2 x4 M = some q → G Z X Y_X9_odds False 0 0 33 [(0, .ref (zs Z + 284)), (2, .long l2), (4, .int x4)] [] M) : ∀ (n : Nat) (l2 : Int64) (x4 : Int32) (l5 : Int64) (x7 : Int32) (M : Mem) (hs : St M) (hf : L_X9_odds_48 rc_33 n l2 x4 l5 x7 M = some q), G Z X Y_X9_odds False 0 0 48 [(0, .ref (zs Z + 284)), (2, .long l2), (4, .int x4), (5, .long l5), (7, .int x7)] [] M := by
  intro n
  induction n with
  | zero => intro l2 x4 l5 x7 M hs  hf; cases hf
  | succ n ih =>
    intro l2 x4 l5 x7 M hs  hf
    unfold L_X9_odds_48 at hf
    refine G.iload 48 4 dX9_odds_48 rfl ?_
    refine G.iload 50 2 dX9_odds_50 rfl ?_
    refine G.icmp_gt 52 81 dX9_odds_52 (by decide) (fun h10 => ?_) (fun h10 => ?_)
    · replace hf := (if_pos h10).symm.trans hf
      refine G.locs [0, 1, 2, 3] rfl ?_
      exact b_X9_odds_81 Z X hR hq rc_33 hrc_33 l2 x4 l5 hs hf
    · replace hf := (if_neg h10).symm.trans hf
      refine G.lload 55 3 dX9_odds_55 rfl ?_
      refine G.aload_n 57 0 dX9_odds_57 rfl rfl ?_
      refine G.geti 58 ck_9 11 (hs.k k0_284) (by decide) (by decide +kernel) wd_1316 dX9_odds_58 ?_
      refine G.iload 61 2 dX9_odds_61 rfl ?_
      refine G.isub 63 dX9_odds_63 ?_
      refine G.iload 64 4 dX9_odds_64 rfl ?_
      refine G.iadd 66 dX9_odds_66 ?_
      refine G.i2l 67 dX9_odds_67 ?_
      refine G.lmul 68 dX9_odds_68 ?_
      refine G.iload 69 4 dX9_odds_69 rfl ?_
      refine G.i2l 71 dX9_odds_71 ?_
      obtain ⟨g12, hf⟩ := gd_e hf
      refine G.ldiv 72 dX9_odds_72 g12 ?_
      refine G.lstore 73 [(5, .long ((l5 * (((mI M 284 11) - x4) + x7).toInt64) / x7.toInt64)), (0, .ref (zs Z + 284)), (2, .long l2), (4, .int x4), (7, .int x7)] dX9_odds_73 (Nat.le_of_ble_eq_true rfl) rfl ?_
      refine G.iinc 75 4 (x7 + 1) [(7, .int (x7 + 1)), (5, .long ((l5 * (((mI M 284 11) - x4) + x7).toInt64) / x7.toInt64)), (0, .ref (zs Z + 284)), (2, .long l2), (4, .int x4)] dX9_odds_75 rfl (congrArg (fun z => x7 + z) (by decide +kernel)) (Nat.le_of_ble_eq_true rfl) rfl ?_
      refine G.goto 78 48 dX9_odds_78 (by decide) ?_
      refine G.locs [2, 3, 4, 1, 0] rfl ?_
      exact ih l2 x4 ((l5 * (((mI M 284 11) - x4) + x7).toInt64) / x7.toInt64) (x7 + 1) M hs hf
set_option maxRecDepth 100000 in
set_option maxHeartbeats 4000000 in
theorem l_X9_odds_33 (Z : Sys) (X : Cx) (hR : xR X = rm_X9_odds) {q : Int64 × Mem} (hq : RetOk Z X (some .long) False (PostL q.1 q.2) 0 0) : ∀ (n : Nat) (l2 : Int64) (x4 : Int32) (M : Mem) (hs : St M) (hf : L_X9_odds_33 n l2 x4 M = some q), G Z X Y_X9_odds False 0 0 33 [(0, .ref (zs Z + 284)), (2, .long l2), (4, .int x4)] [] M := by
  intro n
  induction n with
  | zero => intro l2 x4 M hs  hf; cases hf
  | succ n ih =>
    intro l2 x4 M hs  hf
    unfold L_X9_odds_33 at hf
    refine G.iload 33 2 dX9_odds_33 rfl ?_
    refine G.aload_n 35 0 dX9_odds_35 rfl rfl ?_
    refine G.geti 36 ck_9 11 (hs.k k0_284) (by decide) (by decide +kernel) wd_1316 dX9_odds_36 ?_
    refine G.icmp_gt 39 119 dX9_odds_39 (by decide) (fun h9 => ?_) (fun h9 => ?_)
    · replace hf := (if_pos h9).symm.trans hf
      refine G.lload_n 119 1 dX9_odds_119 rfl rfl ?_
      (have hf9 := Option.some.inj hf; subst hf9)
      exact G.rL 120 hq dX9_odds_120 hs
    · replace hf := (if_neg h9).symm.trans hf
      refine G.lconst 42 (1 : Int64) dX9_odds_42 (by decide +kernel) ?_
      refine G.lstore 43 [(5, .long (1 : Int64)), (0, .ref (zs Z + 284)), (2, .long l2), (4, .int x4)] dX9_odds_43 (Nat.le_of_ble_eq_true rfl) rfl ?_
      refine G.iconst 45 (1 : Int32) dX9_odds_45 (by decide +kernel) ?_
      refine G.istore 46 [(7, .int (1 : Int32)), (5, .long (1 : Int64)), (0, .ref (zs Z + 284)), (2, .long l2), (4, .int x4)] dX9_odds_46 (Nat.le_of_ble_eq_true rfl) rfl ?_
      refine G.locs [2, 3, 4, 1, 0] rfl ?_
      exact l_X9_odds_48 Z X hR hq (L_X9_odds_33 n) ih FU l2 x4 (1 : Int64) (1 : Int32) M hs hf
set_option maxRecDepth 100000 in
set_option maxHeartbeats 4000000 in
theorem c_X9_odds (Z : Sys) {M : Mem} (hs : St M) (x1 : Int32) {q : Int64 × Mem} (hf : f_X9_odds x1 M = some q) : Ct Z yX9_odds cX9_odds 8 (some .long) rm_X9_odds [.ref (zs Z + 284), .int x1] M False (PostL q.1 q.2) := by
  refine Ct.of (by decide +kernel) (Nat.le_of_ble_eq_true rfl) (fun X hR hq _ => ?_)
  show G Z X Y_X9_odds False 0 0 0 [(0, .ref (zs Z + 284)), (1, .int x1)] [] M
  replace hq : RetOk Z X (some .long) False (PostL q.1 q.2) 0 0 := hq
  unfold f_X9_odds at hf
  refine G.iload_n 0 1 dX9_odds_0 rfl rfl ?_
  refine G.i2l 1 dX9_odds_1 ?_
  refine G.lconst 2 (0 : Int64) dX9_odds_2 (by decide +kernel) ?_
  refine G.ldc2 3 (9 : Int64) wd_1428 dX9_odds_3 ?_
  refine G.csZ 6 (As := [.long x1.toInt64, .long (0 : Int64), .long (9 : Int64)]) (c_X9_isIn Z hs x1.toInt64 (0 : Int64) (9 : Int64) rfl) mk_X9_isIn wd_1400 wd_1399 hR (by decide +kernel) ⟨rfl, rfl⟩ rfl (Nat.le_of_ble_eq_true rfl) dX9_odds_6 (fun hs1 z2 => ?_)
  refine G.if_ne 9 16 dX9_odds_9 (by decide) (fun h3 => ?_) (fun h3 => ?_)
  · replace hf := (if_neg h3).symm.trans hf
    refine G.aload_n 16 0 dX9_odds_16 rfl rfl ?_
    refine G.iconst 17 (0 : Int32) dX9_odds_17 (by decide +kernel) ?_
    refine G.bipush 18 (18 : Int32) dX9_odds_18 (by decide +kernel) ?_
    obtain ⟨q6, e7, hf⟩ := bd_e hf
    refine G.cvV 20 (As := [.int (0 : Int32), .int (18 : Int32)]) ck_9 (hs1.k k0_284) (c_X9_counts Z hs1 (0 : Int32) (18 : Int32) e7) mk_X9_counts vk_X9_counts rfl wd_1480 hR (by decide +kernel) ⟨rfl, rfl⟩ rfl (Nat.le_of_ble_eq_true rfl) dX9_odds_20 (fun hs4 => ?_)
    refine G.lconst 23 (0 : Int64) dX9_odds_23 (by decide +kernel) ?_
    refine G.lstore_n 24 [(2, .long (0 : Int64)), (0, .ref (zs Z + 284)), (1, .int x1)] dX9_odds_24 rfl (Nat.le_of_ble_eq_true rfl) rfl ?_
    refine G.aload_n 25 1 dX9_odds_25 rfl rfl ?_
    refine G.getp 26 ck_9 10 293 (hs4.k k0_284) (pc_9_10 hs4) (by decide) (by decide +kernel) wd_1315 dX9_odds_26 ?_
    refine G.iload_n 29 2 dX9_odds_29 rfl rfl ?_
    obtain ⟨g8, hf⟩ := gd_e hf
    refine G.ia 30 x1.toNatClampNeg (hs4.k k0_293) g8 rfl dX9_odds_30 ?_
    refine G.istore 31 [(4, .int (mI q6 293 x1.toNatClampNeg)), (2, .long (0 : Int64)), (0, .ref (zs Z + 284)), (1, .int x1)] dX9_odds_31 (Nat.le_of_ble_eq_true rfl) rfl ?_
    refine G.locs [2, 1, 0] rfl ?_
    exact l_X9_odds_33 Z X hR hq FU (0 : Int64) (mI q6 293 x1.toNatClampNeg) q6 hs4 hf
  · replace hf := (if_pos h3).symm.trans hf
    refine G.ldc2 12 (-1 : Int64) wd_1495 dX9_odds_12 ?_
    (have hf9 := Option.some.inj hf; subst hf9)
    exact G.rL 15 hq dX9_odds_15 hs1
abbrev Y_X9_tellsCame : My := (cX9_tellsCame, RX9, 3)
def rm_X9_tellsCame : Room := { frames := 2, cells := 0, slots := 0, locals := 222 }
theorem dX9_tellsCame_0 : decode cX9_tellsCame 0 = .ok (.aload_n 0, 1) := by decide +kernel
theorem dX9_tellsCame_1 : decode cX9_tellsCame 1 = .ok (.iload_n 1, 1) := by decide +kernel
theorem dX9_tellsCame_2 : decode cX9_tellsCame 2 = .ok (.iconst 5, 1) := by decide +kernel
theorem dX9_tellsCame_3 : decode cX9_tellsCame 3 = .ok (.invokevirtual 76, 3) := by decide +kernel
theorem dX9_tellsCame_6 : decode cX9_tellsCame 6 = .ok (.istore_n 2, 1) := by decide +kernel
theorem dX9_tellsCame_7 : decode cX9_tellsCame 7 = .ok (.aload_n 0, 1) := by decide +kernel
theorem dX9_tellsCame_8 : decode cX9_tellsCame 8 = .ok (.iload_n 1, 1) := by decide +kernel
theorem dX9_tellsCame_9 : decode cX9_tellsCame 9 = .ok (.bipush 7, 2) := by decide +kernel
theorem dX9_tellsCame_11 : decode cX9_tellsCame 11 = .ok (.invokevirtual 76, 3) := by decide +kernel
theorem dX9_tellsCame_14 : decode cX9_tellsCame 14 = .ok (.tableswitch 70 2 6 #[34, 70, 53, 70, 63], 34) := by decide +kernel
theorem dX9_tellsCame_48 : decode cX9_tellsCame 48 = .ok (.aload_n 0, 1) := by decide +kernel
theorem dX9_tellsCame_49 : decode cX9_tellsCame 49 = .ok (.iload_n 1, 1) := by decide +kernel
theorem dX9_tellsCame_50 : decode cX9_tellsCame 50 = .ok (.iconst 0, 1) := by decide +kernel
theorem dX9_tellsCame_51 : decode cX9_tellsCame 51 = .ok (.invokevirtual 76, 3) := by decide +kernel
theorem dX9_tellsCame_54 : decode cX9_tellsCame 54 = .ok (.iload_n 2, 1) := by decide +kernel
theorem dX9_tellsCame_55 : decode cX9_tellsCame 55 = .ok (.iconst 5, 1) := by decide +kernel
theorem dX9_tellsCame_56 : decode cX9_tellsCame 56 = .ok (.iadd, 1) := by decide +kernel
theorem dX9_tellsCame_57 : decode cX9_tellsCame 57 = .ok (.bipush 10, 2) := by decide +kernel
theorem dX9_tellsCame_59 : decode cX9_tellsCame 59 = .ok (.idiv, 1) := by decide +kernel
theorem dX9_tellsCame_60 : decode cX9_tellsCame 60 = .ok (.bipush 10, 2) := by decide +kernel
theorem dX9_tellsCame_62 : decode cX9_tellsCame 62 = .ok (.imul, 1) := by decide +kernel
theorem dX9_tellsCame_63 : decode cX9_tellsCame 63 = .ok (.invokestatic 87, 3) := by decide +kernel
theorem dX9_tellsCame_66 : decode cX9_tellsCame 66 = .ok (.ireturn, 1) := by decide +kernel
theorem dX9_tellsCame_67 : decode cX9_tellsCame 67 = .ok (.iload_n 2, 1) := by decide +kernel
theorem dX9_tellsCame_68 : decode cX9_tellsCame 68 = .ok (.aload_n 0, 1) := by decide +kernel
theorem dX9_tellsCame_69 : decode cX9_tellsCame 69 = .ok (.iload_n 1, 1) := by decide +kernel
theorem dX9_tellsCame_70 : decode cX9_tellsCame 70 = .ok (.bipush 8, 2) := by decide +kernel
theorem dX9_tellsCame_72 : decode cX9_tellsCame 72 = .ok (.invokevirtual 76, 3) := by decide +kernel
theorem dX9_tellsCame_75 : decode cX9_tellsCame 75 = .ok (.iadd, 1) := by decide +kernel
theorem dX9_tellsCame_76 : decode cX9_tellsCame 76 = .ok (.ireturn, 1) := by decide +kernel
theorem dX9_tellsCame_77 : decode cX9_tellsCame 77 = .ok (.aload_n 0, 1) := by decide +kernel
theorem dX9_tellsCame_78 : decode cX9_tellsCame 78 = .ok (.iload_n 1, 1) := by decide +kernel
theorem dX9_tellsCame_79 : decode cX9_tellsCame 79 = .ok (.iconst 0, 1) := by decide +kernel
theorem dX9_tellsCame_80 : decode cX9_tellsCame 80 = .ok (.invokevirtual 76, 3) := by decide +kernel
theorem dX9_tellsCame_83 : decode cX9_tellsCame 83 = .ok (.ireturn, 1) := by decide +kernel
theorem dX9_tellsCame_84 : decode cX9_tellsCame 84 = .ok (.iload_n 2, 1) := by decide +kernel
theorem dX9_tellsCame_85 : decode cX9_tellsCame 85 = .ok (.ireturn, 1) := by decide +kernel
def f_X9_tellsCame (x1 : Int32) (M : Mem) : Option Int32 := (f_X9_get x1 (5 : Int32) M).bind fun q3 => (f_X9_get x1 (7 : Int32) M).bind fun q7 => if q7 = (2 : Int32) then (f_X9_get x1 (0 : Int32) M).bind fun q12 => some (f_X9_less q12 (((q3 + (5 : Int32)) / (10 : Int32)) * (10 : Int32))) else if q7 = (3 : Int32) then some q3 else if q7 = (4 : Int32) then (f_X9_get x1 (8 : Int32) M).bind fun q20 => some (q3 + q20) else if q7 = (5 : Int32) then some q3 else if q7 = (6 : Int32) then (f_X9_get x1 (0 : Int32) M).bind fun q26 => some q26 else some q3
set_option maxRecDepth 100000 in
set_option maxHeartbeats 4000000 in
theorem c_X9_tellsCame (Z : Sys) {M : Mem} (hs : St M) (x1 : Int32) {q : Int32} (hf : f_X9_tellsCame x1 M = some q) : Ct Z yX9_tellsCame cX9_tellsCame 3 (some .int) rm_X9_tellsCame [.ref (zs Z + 284), .int x1] M False (PostI q M) := by
  refine Ct.of (by decide +kernel) (Nat.le_of_ble_eq_true rfl) (fun X hR hq _ => ?_)
  show G Z X Y_X9_tellsCame False 0 0 0 [(0, .ref (zs Z + 284)), (1, .int x1)] [] M
  replace hq : RetOk Z X (some .int) False (PostI q M) 0 0 := hq
  unfold f_X9_tellsCame at hf
  refine G.aload_n 0 0 dX9_tellsCame_0 rfl rfl ?_
  refine G.iload_n 1 1 dX9_tellsCame_1 rfl rfl ?_
  refine G.iconst 2 (5 : Int32) dX9_tellsCame_2 (by decide +kernel) ?_
  obtain ⟨q3, e4, hf⟩ := bd_e hf
  refine G.cvI 3 (As := [.int x1, .int (5 : Int32)]) ck_9 (hs.k k0_284) (c_X9_get Z hs x1 (5 : Int32) e4) mk_X9_get vk_X9_get rfl wd_1411 hR (by decide +kernel) ⟨rfl, rfl⟩ rfl (Nat.le_of_ble_eq_true rfl) dX9_tellsCame_3 (fun hs1 => ?_)
  refine G.istore_n 6 [(2, .int q3), (0, .ref (zs Z + 284)), (1, .int x1)] dX9_tellsCame_6 rfl (Nat.le_of_ble_eq_true rfl) rfl ?_
  refine G.aload_n 7 1 dX9_tellsCame_7 rfl rfl ?_
  refine G.iload_n 8 2 dX9_tellsCame_8 rfl rfl ?_
  refine G.bipush 9 (7 : Int32) dX9_tellsCame_9 (by decide +kernel) ?_
  obtain ⟨q7, e8, hf⟩ := bd_e hf
  refine G.cvI 11 (As := [.int x1, .int (7 : Int32)]) ck_9 (hs1.k k0_284) (c_X9_get Z hs1 x1 (7 : Int32) e8) mk_X9_get vk_X9_get rfl wd_1411 hR (by decide +kernel) ⟨rfl, rfl⟩ rfl (Nat.le_of_ble_eq_true rfl) dX9_tellsCame_11 (fun hs5 => ?_)
  by_cases h9 : q7 = (2 : Int32)
  · replace hf := (if_pos h9).symm.trans hf
    refine G.tableIn 14 48 (off := 34) dX9_tellsCame_14 (by rw [h9]; decide +kernel) (by rw [h9]; decide +kernel) (by rw [h9]; decide +kernel) (by decide) ?_
    refine G.aload_n 48 1 dX9_tellsCame_48 rfl rfl ?_
    refine G.iload_n 49 2 dX9_tellsCame_49 rfl rfl ?_
    refine G.iconst 50 (0 : Int32) dX9_tellsCame_50 (by decide +kernel) ?_
    obtain ⟨q12, e13, hf⟩ := bd_e hf
    refine G.cvI 51 (As := [.int x1, .int (0 : Int32)]) ck_9 (hs5.k k0_284) (c_X9_get Z hs5 x1 (0 : Int32) e13) mk_X9_get vk_X9_get rfl wd_1411 hR (by decide +kernel) ⟨rfl, rfl⟩ rfl (Nat.le_of_ble_eq_true rfl) dX9_tellsCame_51 (fun hs10 => ?_)
    refine G.iload_n 54 0 dX9_tellsCame_54 rfl rfl ?_
    refine G.iconst 55 (5 : Int32) dX9_tellsCame_55 (by decide +kernel) ?_
    refine G.iadd 56 dX9_tellsCame_56 ?_
    refine G.bipush 57 (10 : Int32) dX9_tellsCame_57 (by decide +kernel) ?_
    refine G.idiv 59 dX9_tellsCame_59 (by decide +kernel) ?_
    refine G.bipush 60 (10 : Int32) dX9_tellsCame_60 (by decide +kernel) ?_
    refine G.imul 62 dX9_tellsCame_62 ?_
    refine G.csI 63 (As := [.int q12, .int (((q3 + (5 : Int32)) / (10 : Int32)) * (10 : Int32))]) (c_X9_less Z hs10 q12 (((q3 + (5 : Int32)) / (10 : Int32)) * (10 : Int32)) rfl) mk_X9_less wd_1439 wd_1438 hR (by decide +kernel) ⟨rfl, rfl⟩ rfl (Nat.le_of_ble_eq_true rfl) dX9_tellsCame_63 (fun hs14 => ?_)
    (have hf9 := Option.some.inj hf; subst hf9)
    exact G.rI 66 hq dX9_tellsCame_66 hs14
  · replace hf := (if_neg h9).symm.trans hf
    by_cases h16 : q7 = (3 : Int32)
    · replace hf := (if_pos h16).symm.trans hf
      refine G.tableIn 14 84 (off := 70) dX9_tellsCame_14 (by rw [h16]; decide +kernel) (by rw [h16]; decide +kernel) (by rw [h16]; decide +kernel) (by decide) ?_
      refine G.iload_n 84 0 dX9_tellsCame_84 rfl rfl ?_
      (have hf9 := Option.some.inj hf; subst hf9)
      exact G.rI 85 hq dX9_tellsCame_85 hs5
    · replace hf := (if_neg h16).symm.trans hf
      by_cases h17 : q7 = (4 : Int32)
      · replace hf := (if_pos h17).symm.trans hf
        refine G.tableIn 14 67 (off := 53) dX9_tellsCame_14 (by rw [h17]; decide +kernel) (by rw [h17]; decide +kernel) (by rw [h17]; decide +kernel) (by decide) ?_
        refine G.iload_n 67 0 dX9_tellsCame_67 rfl rfl ?_
        refine G.aload_n 68 1 dX9_tellsCame_68 rfl rfl ?_
        refine G.iload_n 69 2 dX9_tellsCame_69 rfl rfl ?_
        refine G.bipush 70 (8 : Int32) dX9_tellsCame_70 (by decide +kernel) ?_
        obtain ⟨q20, e21, hf⟩ := bd_e hf
        refine G.cvI 72 (As := [.int x1, .int (8 : Int32)]) ck_9 (hs5.k k0_284) (c_X9_get Z hs5 x1 (8 : Int32) e21) mk_X9_get vk_X9_get rfl wd_1411 hR (by decide +kernel) ⟨rfl, rfl⟩ rfl (Nat.le_of_ble_eq_true rfl) dX9_tellsCame_72 (fun hs18 => ?_)
        refine G.iadd 75 dX9_tellsCame_75 ?_
        (have hf9 := Option.some.inj hf; subst hf9)
        exact G.rI 76 hq dX9_tellsCame_76 hs18
      · replace hf := (if_neg h17).symm.trans hf
        by_cases h22 : q7 = (5 : Int32)
        · replace hf := (if_pos h22).symm.trans hf
          refine G.tableIn 14 84 (off := 70) dX9_tellsCame_14 (by rw [h22]; decide +kernel) (by rw [h22]; decide +kernel) (by rw [h22]; decide +kernel) (by decide) ?_
          refine G.iload_n 84 0 dX9_tellsCame_84 rfl rfl ?_
          (have hf9 := Option.some.inj hf; subst hf9)
          exact G.rI 85 hq dX9_tellsCame_85 hs5
        · replace hf := (if_neg h22).symm.trans hf
          by_cases h23 : q7 = (6 : Int32)
          · replace hf := (if_pos h23).symm.trans hf
            refine G.tableIn 14 77 (off := 63) dX9_tellsCame_14 (by rw [h23]; decide +kernel) (by rw [h23]; decide +kernel) (by rw [h23]; decide +kernel) (by decide) ?_
            refine G.aload_n 77 1 dX9_tellsCame_77 rfl rfl ?_
            refine G.iload_n 78 2 dX9_tellsCame_78 rfl rfl ?_
            refine G.iconst 79 (0 : Int32) dX9_tellsCame_79 (by decide +kernel) ?_
            obtain ⟨q26, e27, hf⟩ := bd_e hf
            refine G.cvI 80 (As := [.int x1, .int (0 : Int32)]) ck_9 (hs5.k k0_284) (c_X9_get Z hs5 x1 (0 : Int32) e27) mk_X9_get vk_X9_get rfl wd_1411 hR (by decide +kernel) ⟨rfl, rfl⟩ rfl (Nat.le_of_ble_eq_true rfl) dX9_tellsCame_80 (fun hs24 => ?_)
            (have hf9 := Option.some.inj hf; subst hf9)
            exact G.rI 83 hq dX9_tellsCame_83 hs24
          · replace hf := (if_neg h23).symm.trans hf
            have t_h9 := ti (2 : Int32) (2) (by decide +kernel) h9
            have t_h16 := ti (3 : Int32) (3) (by decide +kernel) h16
            have t_h17 := ti (4 : Int32) (4) (by decide +kernel) h17
            have t_h22 := ti (5 : Int32) (5) (by decide +kernel) h22
            have t_h23 := ti (6 : Int32) (6) (by decide +kernel) h23
            refine G.tableOut 14 84 dX9_tellsCame_14 (by omega) (by decide) ?_
            refine G.iload_n 84 0 dX9_tellsCame_84 rfl rfl ?_
            (have hf9 := Option.some.inj hf; subst hf9)
            exact G.rI 85 hq dX9_tellsCame_85 hs5
abbrev Y_X9_tellsOurs : My := (cX9_tellsOurs, RX9, 5)
def rm_X9_tellsOurs : Room := { frames := 3, cells := 0, slots := 0, locals := 244 }
theorem dX9_tellsOurs_0 : decode cX9_tellsOurs 0 = .ok (.aload_n 0, 1) := by decide +kernel
theorem dX9_tellsOurs_1 : decode cX9_tellsOurs 1 = .ok (.iload_n 1, 1) := by decide +kernel
theorem dX9_tellsOurs_2 : decode cX9_tellsOurs 2 = .ok (.iconst 5, 1) := by decide +kernel
theorem dX9_tellsOurs_3 : decode cX9_tellsOurs 3 = .ok (.invokevirtual 76, 3) := by decide +kernel
theorem dX9_tellsOurs_6 : decode cX9_tellsOurs 6 = .ok (.istore_n 2, 1) := by decide +kernel
theorem dX9_tellsOurs_7 : decode cX9_tellsOurs 7 = .ok (.aload_n 0, 1) := by decide +kernel
theorem dX9_tellsOurs_8 : decode cX9_tellsOurs 8 = .ok (.iload_n 1, 1) := by decide +kernel
theorem dX9_tellsOurs_9 : decode cX9_tellsOurs 9 = .ok (.bipush 6, 2) := by decide +kernel
theorem dX9_tellsOurs_11 : decode cX9_tellsOurs 11 = .ok (.invokevirtual 76, 3) := by decide +kernel
theorem dX9_tellsOurs_14 : decode cX9_tellsOurs 14 = .ok (.istore_n 3, 1) := by decide +kernel
theorem dX9_tellsOurs_15 : decode cX9_tellsOurs 15 = .ok (.aload_n 0, 1) := by decide +kernel
theorem dX9_tellsOurs_16 : decode cX9_tellsOurs 16 = .ok (.iload_n 1, 1) := by decide +kernel
theorem dX9_tellsOurs_17 : decode cX9_tellsOurs 17 = .ok (.bipush 7, 2) := by decide +kernel
theorem dX9_tellsOurs_19 : decode cX9_tellsOurs 19 = .ok (.invokevirtual 76, 3) := by decide +kernel
theorem dX9_tellsOurs_22 : decode cX9_tellsOurs 22 = .ok (.tableswitch 187 2 7 #[38, 56, 118, 128, 142, 149], 38) := by decide +kernel
theorem dX9_tellsOurs_60 : decode cX9_tellsOurs 60 = .ok (.aload_n 0, 1) := by decide +kernel
theorem dX9_tellsOurs_61 : decode cX9_tellsOurs 61 = .ok (.iload_n 1, 1) := by decide +kernel
theorem dX9_tellsOurs_62 : decode cX9_tellsOurs 62 = .ok (.invokevirtual 90, 3) := by decide +kernel
theorem dX9_tellsOurs_65 : decode cX9_tellsOurs 65 = .ok (.iload_n 3, 1) := by decide +kernel
theorem dX9_tellsOurs_66 : decode cX9_tellsOurs 66 = .ok (.iconst 5, 1) := by decide +kernel
theorem dX9_tellsOurs_67 : decode cX9_tellsOurs 67 = .ok (.iadd, 1) := by decide +kernel
theorem dX9_tellsOurs_68 : decode cX9_tellsOurs 68 = .ok (.bipush 10, 2) := by decide +kernel
theorem dX9_tellsOurs_70 : decode cX9_tellsOurs 70 = .ok (.idiv, 1) := by decide +kernel
theorem dX9_tellsOurs_71 : decode cX9_tellsOurs 71 = .ok (.bipush 10, 2) := by decide +kernel
theorem dX9_tellsOurs_73 : decode cX9_tellsOurs 73 = .ok (.imul, 1) := by decide +kernel
theorem dX9_tellsOurs_74 : decode cX9_tellsOurs 74 = .ok (.invokestatic 87, 3) := by decide +kernel
theorem dX9_tellsOurs_77 : decode cX9_tellsOurs 77 = .ok (.ireturn, 1) := by decide +kernel
theorem dX9_tellsOurs_78 : decode cX9_tellsOurs 78 = .ok (.iload_n 2, 1) := by decide +kernel
theorem dX9_tellsOurs_79 : decode cX9_tellsOurs 79 = .ok (.iload_n 2, 1) := by decide +kernel
theorem dX9_tellsOurs_80 : decode cX9_tellsOurs 80 = .ok (.aload_n 0, 1) := by decide +kernel
theorem dX9_tellsOurs_81 : decode cX9_tellsOurs 81 = .ok (.iload_n 1, 1) := by decide +kernel
theorem dX9_tellsOurs_82 : decode cX9_tellsOurs 82 = .ok (.bipush 8, 2) := by decide +kernel
theorem dX9_tellsOurs_84 : decode cX9_tellsOurs 84 = .ok (.invokevirtual 76, 3) := by decide +kernel
theorem dX9_tellsOurs_87 : decode cX9_tellsOurs 87 = .ok (.imul, 1) := by decide +kernel
theorem dX9_tellsOurs_88 : decode cX9_tellsOurs 88 = .ok (.bipush 100, 2) := by decide +kernel
theorem dX9_tellsOurs_90 : decode cX9_tellsOurs 90 = .ok (.idiv, 1) := by decide +kernel
theorem dX9_tellsOurs_91 : decode cX9_tellsOurs 91 = .ok (.invokestatic 87, 3) := by decide +kernel
theorem dX9_tellsOurs_94 : decode cX9_tellsOurs 94 = .ok (.istore 4, 2) := by decide +kernel
theorem dX9_tellsOurs_96 : decode cX9_tellsOurs 96 = .ok (.iload 4, 2) := by decide +kernel
theorem dX9_tellsOurs_98 : decode cX9_tellsOurs 98 = .ok (.bipush 10, 2) := by decide +kernel
theorem dX9_tellsOurs_100 : decode cX9_tellsOurs 100 = .ok (.idiv, 1) := by decide +kernel
theorem dX9_tellsOurs_101 : decode cX9_tellsOurs 101 = .ok (.bipush 10, 2) := by decide +kernel
theorem dX9_tellsOurs_103 : decode cX9_tellsOurs 103 = .ok (.imul, 1) := by decide +kernel
theorem dX9_tellsOurs_104 : decode cX9_tellsOurs 104 = .ok (.aload_n 0, 1) := by decide +kernel
theorem dX9_tellsOurs_105 : decode cX9_tellsOurs 105 = .ok (.getfield 9, 3) := by decide +kernel
theorem dX9_tellsOurs_108 : decode cX9_tellsOurs 108 = .ok (.sipush 360, 3) := by decide +kernel
theorem dX9_tellsOurs_111 : decode cX9_tellsOurs 111 = .ok (.iaload, 1) := by decide +kernel
theorem dX9_tellsOurs_112 : decode cX9_tellsOurs 112 = .ok (.iadd, 1) := by decide +kernel
theorem dX9_tellsOurs_113 : decode cX9_tellsOurs 113 = .ok (.iload_n 2, 1) := by decide +kernel
theorem dX9_tellsOurs_114 : decode cX9_tellsOurs 114 = .ok (.if_icmp .gt 23, 3) := by decide +kernel
theorem dX9_tellsOurs_117 : decode cX9_tellsOurs 117 = .ok (.iload 4, 2) := by decide +kernel
theorem dX9_tellsOurs_119 : decode cX9_tellsOurs 119 = .ok (.bipush 10, 2) := by decide +kernel
theorem dX9_tellsOurs_121 : decode cX9_tellsOurs 121 = .ok (.idiv, 1) := by decide +kernel
theorem dX9_tellsOurs_122 : decode cX9_tellsOurs 122 = .ok (.bipush 10, 2) := by decide +kernel
theorem dX9_tellsOurs_124 : decode cX9_tellsOurs 124 = .ok (.imul, 1) := by decide +kernel
theorem dX9_tellsOurs_125 : decode cX9_tellsOurs 125 = .ok (.aload_n 0, 1) := by decide +kernel
theorem dX9_tellsOurs_126 : decode cX9_tellsOurs 126 = .ok (.getfield 9, 3) := by decide +kernel
theorem dX9_tellsOurs_129 : decode cX9_tellsOurs 129 = .ok (.sipush 360, 3) := by decide +kernel
theorem dX9_tellsOurs_132 : decode cX9_tellsOurs 132 = .ok (.iaload, 1) := by decide +kernel
theorem dX9_tellsOurs_133 : decode cX9_tellsOurs 133 = .ok (.iadd, 1) := by decide +kernel
theorem dX9_tellsOurs_134 : decode cX9_tellsOurs 134 = .ok (.goto 5, 3) := by decide +kernel
theorem dX9_tellsOurs_137 : decode cX9_tellsOurs 137 = .ok (.iload 4, 2) := by decide +kernel
theorem dX9_tellsOurs_139 : decode cX9_tellsOurs 139 = .ok (.ireturn, 1) := by decide +kernel
theorem dX9_tellsOurs_140 : decode cX9_tellsOurs 140 = .ok (.iload_n 3, 1) := by decide +kernel
theorem dX9_tellsOurs_141 : decode cX9_tellsOurs 141 = .ok (.aload_n 0, 1) := by decide +kernel
theorem dX9_tellsOurs_142 : decode cX9_tellsOurs 142 = .ok (.iload_n 1, 1) := by decide +kernel
theorem dX9_tellsOurs_143 : decode cX9_tellsOurs 143 = .ok (.bipush 8, 2) := by decide +kernel
theorem dX9_tellsOurs_145 : decode cX9_tellsOurs 145 = .ok (.invokevirtual 76, 3) := by decide +kernel
theorem dX9_tellsOurs_148 : decode cX9_tellsOurs 148 = .ok (.iadd, 1) := by decide +kernel
theorem dX9_tellsOurs_149 : decode cX9_tellsOurs 149 = .ok (.ireturn, 1) := by decide +kernel
theorem dX9_tellsOurs_150 : decode cX9_tellsOurs 150 = .ok (.iload_n 2, 1) := by decide +kernel
theorem dX9_tellsOurs_151 : decode cX9_tellsOurs 151 = .ok (.iload_n 3, 1) := by decide +kernel
theorem dX9_tellsOurs_152 : decode cX9_tellsOurs 152 = .ok (.aload_n 0, 1) := by decide +kernel
theorem dX9_tellsOurs_153 : decode cX9_tellsOurs 153 = .ok (.iload_n 1, 1) := by decide +kernel
theorem dX9_tellsOurs_154 : decode cX9_tellsOurs 154 = .ok (.bipush 8, 2) := by decide +kernel
theorem dX9_tellsOurs_156 : decode cX9_tellsOurs 156 = .ok (.invokevirtual 76, 3) := by decide +kernel
theorem dX9_tellsOurs_159 : decode cX9_tellsOurs 159 = .ok (.iadd, 1) := by decide +kernel
theorem dX9_tellsOurs_160 : decode cX9_tellsOurs 160 = .ok (.invokestatic 87, 3) := by decide +kernel
theorem dX9_tellsOurs_163 : decode cX9_tellsOurs 163 = .ok (.ireturn, 1) := by decide +kernel
theorem dX9_tellsOurs_164 : decode cX9_tellsOurs 164 = .ok (.aload_n 0, 1) := by decide +kernel
theorem dX9_tellsOurs_165 : decode cX9_tellsOurs 165 = .ok (.iload_n 1, 1) := by decide +kernel
theorem dX9_tellsOurs_166 : decode cX9_tellsOurs 166 = .ok (.iconst 0, 1) := by decide +kernel
theorem dX9_tellsOurs_167 : decode cX9_tellsOurs 167 = .ok (.invokevirtual 76, 3) := by decide +kernel
theorem dX9_tellsOurs_170 : decode cX9_tellsOurs 170 = .ok (.ireturn, 1) := by decide +kernel
theorem dX9_tellsOurs_171 : decode cX9_tellsOurs 171 = .ok (.iload_n 3, 1) := by decide +kernel
theorem dX9_tellsOurs_172 : decode cX9_tellsOurs 172 = .ok (.bipush 100, 2) := by decide +kernel
theorem dX9_tellsOurs_174 : decode cX9_tellsOurs 174 = .ok (.idiv, 1) := by decide +kernel
theorem dX9_tellsOurs_175 : decode cX9_tellsOurs 175 = .ok (.bipush 100, 2) := by decide +kernel
theorem dX9_tellsOurs_177 : decode cX9_tellsOurs 177 = .ok (.imul, 1) := by decide +kernel
theorem dX9_tellsOurs_178 : decode cX9_tellsOurs 178 = .ok (.iload_n 3, 1) := by decide +kernel
theorem dX9_tellsOurs_179 : decode cX9_tellsOurs 179 = .ok (.bipush 10, 2) := by decide +kernel
theorem dX9_tellsOurs_181 : decode cX9_tellsOurs 181 = .ok (.irem, 1) := by decide +kernel
theorem dX9_tellsOurs_182 : decode cX9_tellsOurs 182 = .ok (.bipush 10, 2) := by decide +kernel
theorem dX9_tellsOurs_184 : decode cX9_tellsOurs 184 = .ok (.imul, 1) := by decide +kernel
theorem dX9_tellsOurs_185 : decode cX9_tellsOurs 185 = .ok (.iadd, 1) := by decide +kernel
theorem dX9_tellsOurs_186 : decode cX9_tellsOurs 186 = .ok (.iload_n 3, 1) := by decide +kernel
theorem dX9_tellsOurs_187 : decode cX9_tellsOurs 187 = .ok (.bipush 10, 2) := by decide +kernel
theorem dX9_tellsOurs_189 : decode cX9_tellsOurs 189 = .ok (.idiv, 1) := by decide +kernel
theorem dX9_tellsOurs_190 : decode cX9_tellsOurs 190 = .ok (.bipush 10, 2) := by decide +kernel
theorem dX9_tellsOurs_192 : decode cX9_tellsOurs 192 = .ok (.irem, 1) := by decide +kernel
theorem dX9_tellsOurs_193 : decode cX9_tellsOurs 193 = .ok (.iadd, 1) := by decide +kernel
theorem dX9_tellsOurs_194 : decode cX9_tellsOurs 194 = .ok (.istore 4, 2) := by decide +kernel
theorem dX9_tellsOurs_196 : decode cX9_tellsOurs 196 = .ok (.iload 4, 2) := by decide +kernel
theorem dX9_tellsOurs_198 : decode cX9_tellsOurs 198 = .ok (.iload_n 2, 1) := by decide +kernel
theorem dX9_tellsOurs_199 : decode cX9_tellsOurs 199 = .ok (.if_icmp .gt 8, 3) := by decide +kernel
theorem dX9_tellsOurs_202 : decode cX9_tellsOurs 202 = .ok (.iload 4, 2) := by decide +kernel
theorem dX9_tellsOurs_204 : decode cX9_tellsOurs 204 = .ok (.goto 4, 3) := by decide +kernel
theorem dX9_tellsOurs_207 : decode cX9_tellsOurs 207 = .ok (.iload_n 3, 1) := by decide +kernel
theorem dX9_tellsOurs_208 : decode cX9_tellsOurs 208 = .ok (.ireturn, 1) := by decide +kernel
theorem dX9_tellsOurs_209 : decode cX9_tellsOurs 209 = .ok (.iload_n 3, 1) := by decide +kernel
theorem dX9_tellsOurs_210 : decode cX9_tellsOurs 210 = .ok (.ireturn, 1) := by decide +kernel
def f_X9_tellsOurs (x1 : Int32) (M : Mem) : Option Int32 := (f_X9_get x1 (5 : Int32) M).bind fun q3 => (f_X9_get x1 (6 : Int32) M).bind fun q7 => (f_X9_get x1 (7 : Int32) M).bind fun q11 => if q11 = (2 : Int32) then (f_X9_tellsCame x1 M).bind fun q16 => some (f_X9_less q16 (((q7 + (5 : Int32)) / (10 : Int32)) * (10 : Int32))) else if q11 = (3 : Int32) then (f_X9_get x1 (8 : Int32) M).bind fun q23 => if q3 < ((((f_X9_less q3 ((q3 * q23) / (100 : Int32))) / (10 : Int32)) * (10 : Int32)) + (mI M 285 360)) then some (f_X9_less q3 ((q3 * q23) / (100 : Int32))) else some ((((f_X9_less q3 ((q3 * q23) / (100 : Int32))) / (10 : Int32)) * (10 : Int32)) + (mI M 285 360)) else if q11 = (4 : Int32) then (f_X9_get x1 (8 : Int32) M).bind fun q31 => some (q7 + q31) else if q11 = (5 : Int32) then (f_X9_get x1 (8 : Int32) M).bind fun q36 => some (f_X9_less q3 (q7 + q36)) else if q11 = (6 : Int32) then (f_X9_get x1 (0 : Int32) M).bind fun q43 => some q43 else if q11 = (7 : Int32) then if q3 < ((((q7 / (100 : Int32)) * (100 : Int32)) + ((jrem q7 (10 : Int32)) * (10 : Int32))) + (jrem (q7 / (10 : Int32)) (10 : Int32))) then some q7 else some ((((q7 / (100 : Int32)) * (100 : Int32)) + ((jrem q7 (10 : Int32)) * (10 : Int32))) + (jrem (q7 / (10 : Int32)) (10 : Int32))) else some q7
set_option maxRecDepth 100000 in
set_option maxHeartbeats 4000000 in
theorem c_X9_tellsOurs (Z : Sys) {M : Mem} (hs : St M) (x1 : Int32) {q : Int32} (hf : f_X9_tellsOurs x1 M = some q) : Ct Z yX9_tellsOurs cX9_tellsOurs 5 (some .int) rm_X9_tellsOurs [.ref (zs Z + 284), .int x1] M False (PostI q M) := by
  refine Ct.of (by decide +kernel) (Nat.le_of_ble_eq_true rfl) (fun X hR hq _ => ?_)
  show G Z X Y_X9_tellsOurs False 0 0 0 [(0, .ref (zs Z + 284)), (1, .int x1)] [] M
  replace hq : RetOk Z X (some .int) False (PostI q M) 0 0 := hq
  unfold f_X9_tellsOurs at hf
  refine G.aload_n 0 0 dX9_tellsOurs_0 rfl rfl ?_
  refine G.iload_n 1 1 dX9_tellsOurs_1 rfl rfl ?_
  refine G.iconst 2 (5 : Int32) dX9_tellsOurs_2 (by decide +kernel) ?_
  obtain ⟨q3, e4, hf⟩ := bd_e hf
  refine G.cvI 3 (As := [.int x1, .int (5 : Int32)]) ck_9 (hs.k k0_284) (c_X9_get Z hs x1 (5 : Int32) e4) mk_X9_get vk_X9_get rfl wd_1411 hR (by decide +kernel) ⟨rfl, rfl⟩ rfl (Nat.le_of_ble_eq_true rfl) dX9_tellsOurs_3 (fun hs1 => ?_)
  refine G.istore_n 6 [(2, .int q3), (0, .ref (zs Z + 284)), (1, .int x1)] dX9_tellsOurs_6 rfl (Nat.le_of_ble_eq_true rfl) rfl ?_
  refine G.aload_n 7 1 dX9_tellsOurs_7 rfl rfl ?_
  refine G.iload_n 8 2 dX9_tellsOurs_8 rfl rfl ?_
  refine G.bipush 9 (6 : Int32) dX9_tellsOurs_9 (by decide +kernel) ?_
  obtain ⟨q7, e8, hf⟩ := bd_e hf
  refine G.cvI 11 (As := [.int x1, .int (6 : Int32)]) ck_9 (hs1.k k0_284) (c_X9_get Z hs1 x1 (6 : Int32) e8) mk_X9_get vk_X9_get rfl wd_1411 hR (by decide +kernel) ⟨rfl, rfl⟩ rfl (Nat.le_of_ble_eq_true rfl) dX9_tellsOurs_11 (fun hs5 => ?_)
  refine G.istore_n 14 [(3, .int q7), (2, .int q3), (0, .ref (zs Z + 284)), (1, .int x1)] dX9_tellsOurs_14 rfl (Nat.le_of_ble_eq_true rfl) rfl ?_
  refine G.aload_n 15 2 dX9_tellsOurs_15 rfl rfl ?_
  refine G.iload_n 16 3 dX9_tellsOurs_16 rfl rfl ?_
  refine G.bipush 17 (7 : Int32) dX9_tellsOurs_17 (by decide +kernel) ?_
  obtain ⟨q11, e12, hf⟩ := bd_e hf
  refine G.cvI 19 (As := [.int x1, .int (7 : Int32)]) ck_9 (hs5.k k0_284) (c_X9_get Z hs5 x1 (7 : Int32) e12) mk_X9_get vk_X9_get rfl wd_1411 hR (by decide +kernel) ⟨rfl, rfl⟩ rfl (Nat.le_of_ble_eq_true rfl) dX9_tellsOurs_19 (fun hs9 => ?_)
  by_cases h13 : q11 = (2 : Int32)
  · replace hf := (if_pos h13).symm.trans hf
    refine G.tableIn 22 60 (off := 38) dX9_tellsOurs_22 (by rw [h13]; decide +kernel) (by rw [h13]; decide +kernel) (by rw [h13]; decide +kernel) (by decide) ?_
    refine G.aload_n 60 2 dX9_tellsOurs_60 rfl rfl ?_
    refine G.iload_n 61 3 dX9_tellsOurs_61 rfl rfl ?_
    obtain ⟨q16, e17, hf⟩ := bd_e hf
    refine G.cvI 62 (As := [.int x1]) ck_9 (hs9.k k0_284) (c_X9_tellsCame Z hs9 x1 e17) mk_X9_tellsCame vk_X9_tellsCame rfl wd_1434 hR (by decide +kernel) ⟨rfl, rfl⟩ rfl (Nat.le_of_ble_eq_true rfl) dX9_tellsOurs_62 (fun hs14 => ?_)
    refine G.iload_n 65 0 dX9_tellsOurs_65 rfl rfl ?_
    refine G.iconst 66 (5 : Int32) dX9_tellsOurs_66 (by decide +kernel) ?_
    refine G.iadd 67 dX9_tellsOurs_67 ?_
    refine G.bipush 68 (10 : Int32) dX9_tellsOurs_68 (by decide +kernel) ?_
    refine G.idiv 70 dX9_tellsOurs_70 (by decide +kernel) ?_
    refine G.bipush 71 (10 : Int32) dX9_tellsOurs_71 (by decide +kernel) ?_
    refine G.imul 73 dX9_tellsOurs_73 ?_
    refine G.csI 74 (As := [.int q16, .int (((q7 + (5 : Int32)) / (10 : Int32)) * (10 : Int32))]) (c_X9_less Z hs14 q16 (((q7 + (5 : Int32)) / (10 : Int32)) * (10 : Int32)) rfl) mk_X9_less wd_1439 wd_1438 hR (by decide +kernel) ⟨rfl, rfl⟩ rfl (Nat.le_of_ble_eq_true rfl) dX9_tellsOurs_74 (fun hs18 => ?_)
    (have hf9 := Option.some.inj hf; subst hf9)
    exact G.rI 77 hq dX9_tellsOurs_77 hs18
  · replace hf := (if_neg h13).symm.trans hf
    by_cases h20 : q11 = (3 : Int32)
    · replace hf := (if_pos h20).symm.trans hf
      refine G.tableIn 22 78 (off := 56) dX9_tellsOurs_22 (by rw [h20]; decide +kernel) (by rw [h20]; decide +kernel) (by rw [h20]; decide +kernel) (by decide) ?_
      refine G.iload_n 78 1 dX9_tellsOurs_78 rfl rfl ?_
      refine G.iload_n 79 1 dX9_tellsOurs_79 rfl rfl ?_
      refine G.aload_n 80 2 dX9_tellsOurs_80 rfl rfl ?_
      refine G.iload_n 81 3 dX9_tellsOurs_81 rfl rfl ?_
      refine G.bipush 82 (8 : Int32) dX9_tellsOurs_82 (by decide +kernel) ?_
      obtain ⟨q23, e24, hf⟩ := bd_e hf
      refine G.cvI 84 (As := [.int x1, .int (8 : Int32)]) ck_9 (hs9.k k0_284) (c_X9_get Z hs9 x1 (8 : Int32) e24) mk_X9_get vk_X9_get rfl wd_1411 hR (by decide +kernel) ⟨rfl, rfl⟩ rfl (Nat.le_of_ble_eq_true rfl) dX9_tellsOurs_84 (fun hs21 => ?_)
      refine G.imul 87 dX9_tellsOurs_87 ?_
      refine G.bipush 88 (100 : Int32) dX9_tellsOurs_88 (by decide +kernel) ?_
      refine G.idiv 90 dX9_tellsOurs_90 (by decide +kernel) ?_
      refine G.csI 91 (As := [.int q3, .int ((q3 * q23) / (100 : Int32))]) (c_X9_less Z hs21 q3 ((q3 * q23) / (100 : Int32)) rfl) mk_X9_less wd_1439 wd_1438 hR (by decide +kernel) ⟨rfl, rfl⟩ rfl (Nat.le_of_ble_eq_true rfl) dX9_tellsOurs_91 (fun hs25 => ?_)
      refine G.istore 94 [(4, .int (f_X9_less q3 ((q3 * q23) / (100 : Int32)))), (3, .int q7), (2, .int q3), (0, .ref (zs Z + 284)), (1, .int x1)] dX9_tellsOurs_94 (Nat.le_of_ble_eq_true rfl) rfl ?_
      refine G.iload 96 0 dX9_tellsOurs_96 rfl ?_
      refine G.bipush 98 (10 : Int32) dX9_tellsOurs_98 (by decide +kernel) ?_
      refine G.idiv 100 dX9_tellsOurs_100 (by decide +kernel) ?_
      refine G.bipush 101 (10 : Int32) dX9_tellsOurs_101 (by decide +kernel) ?_
      refine G.imul 103 dX9_tellsOurs_103 ?_
      refine G.aload_n 104 3 dX9_tellsOurs_104 rfl rfl ?_
      refine G.getp 105 ck_9 0 285 (hs25.k k0_284) (pc_9_0 hs25) (by decide) (by decide +kernel) wd_1305 dX9_tellsOurs_105 ?_
      refine G.sipush 108 (360 : Int32) dX9_tellsOurs_108 (by decide +kernel) ?_
      refine G.ia 111 360 (hs25.k k0_285) (by decide +kernel) (by decide +kernel) dX9_tellsOurs_111 ?_
      refine G.iadd 112 dX9_tellsOurs_112 ?_
      refine G.iload_n 113 2 dX9_tellsOurs_113 rfl rfl ?_
      refine G.icmp_gt 114 137 dX9_tellsOurs_114 (by decide) (fun h27 => ?_) (fun h27 => ?_)
      · replace hf := (if_pos h27).symm.trans hf
        refine G.iload 137 0 dX9_tellsOurs_137 rfl ?_
        (have hf9 := Option.some.inj hf; subst hf9)
        exact G.rI 139 hq dX9_tellsOurs_139 hs25
      · replace hf := (if_neg h27).symm.trans hf
        refine G.iload 117 0 dX9_tellsOurs_117 rfl ?_
        refine G.bipush 119 (10 : Int32) dX9_tellsOurs_119 (by decide +kernel) ?_
        refine G.idiv 121 dX9_tellsOurs_121 (by decide +kernel) ?_
        refine G.bipush 122 (10 : Int32) dX9_tellsOurs_122 (by decide +kernel) ?_
        refine G.imul 124 dX9_tellsOurs_124 ?_
        refine G.aload_n 125 3 dX9_tellsOurs_125 rfl rfl ?_
        refine G.getp 126 ck_9 0 285 (hs25.k k0_284) (pc_9_0 hs25) (by decide) (by decide +kernel) wd_1305 dX9_tellsOurs_126 ?_
        refine G.sipush 129 (360 : Int32) dX9_tellsOurs_129 (by decide +kernel) ?_
        refine G.ia 132 360 (hs25.k k0_285) (by decide +kernel) (by decide +kernel) dX9_tellsOurs_132 ?_
        refine G.iadd 133 dX9_tellsOurs_133 ?_
        refine G.goto 134 139 dX9_tellsOurs_134 (by decide) ?_
        (have hf9 := Option.some.inj hf; subst hf9)
        exact G.rI 139 hq dX9_tellsOurs_139 hs25
    · replace hf := (if_neg h20).symm.trans hf
      by_cases h28 : q11 = (4 : Int32)
      · replace hf := (if_pos h28).symm.trans hf
        refine G.tableIn 22 140 (off := 118) dX9_tellsOurs_22 (by rw [h28]; decide +kernel) (by rw [h28]; decide +kernel) (by rw [h28]; decide +kernel) (by decide) ?_
        refine G.iload_n 140 0 dX9_tellsOurs_140 rfl rfl ?_
        refine G.aload_n 141 2 dX9_tellsOurs_141 rfl rfl ?_
        refine G.iload_n 142 3 dX9_tellsOurs_142 rfl rfl ?_
        refine G.bipush 143 (8 : Int32) dX9_tellsOurs_143 (by decide +kernel) ?_
        obtain ⟨q31, e32, hf⟩ := bd_e hf
        refine G.cvI 145 (As := [.int x1, .int (8 : Int32)]) ck_9 (hs9.k k0_284) (c_X9_get Z hs9 x1 (8 : Int32) e32) mk_X9_get vk_X9_get rfl wd_1411 hR (by decide +kernel) ⟨rfl, rfl⟩ rfl (Nat.le_of_ble_eq_true rfl) dX9_tellsOurs_145 (fun hs29 => ?_)
        refine G.iadd 148 dX9_tellsOurs_148 ?_
        (have hf9 := Option.some.inj hf; subst hf9)
        exact G.rI 149 hq dX9_tellsOurs_149 hs29
      · replace hf := (if_neg h28).symm.trans hf
        by_cases h33 : q11 = (5 : Int32)
        · replace hf := (if_pos h33).symm.trans hf
          refine G.tableIn 22 150 (off := 128) dX9_tellsOurs_22 (by rw [h33]; decide +kernel) (by rw [h33]; decide +kernel) (by rw [h33]; decide +kernel) (by decide) ?_
          refine G.iload_n 150 1 dX9_tellsOurs_150 rfl rfl ?_
          refine G.iload_n 151 0 dX9_tellsOurs_151 rfl rfl ?_
          refine G.aload_n 152 2 dX9_tellsOurs_152 rfl rfl ?_
          refine G.iload_n 153 3 dX9_tellsOurs_153 rfl rfl ?_
          refine G.bipush 154 (8 : Int32) dX9_tellsOurs_154 (by decide +kernel) ?_
          obtain ⟨q36, e37, hf⟩ := bd_e hf
          refine G.cvI 156 (As := [.int x1, .int (8 : Int32)]) ck_9 (hs9.k k0_284) (c_X9_get Z hs9 x1 (8 : Int32) e37) mk_X9_get vk_X9_get rfl wd_1411 hR (by decide +kernel) ⟨rfl, rfl⟩ rfl (Nat.le_of_ble_eq_true rfl) dX9_tellsOurs_156 (fun hs34 => ?_)
          refine G.iadd 159 dX9_tellsOurs_159 ?_
          refine G.csI 160 (As := [.int q3, .int (q7 + q36)]) (c_X9_less Z hs34 q3 (q7 + q36) rfl) mk_X9_less wd_1439 wd_1438 hR (by decide +kernel) ⟨rfl, rfl⟩ rfl (Nat.le_of_ble_eq_true rfl) dX9_tellsOurs_160 (fun hs38 => ?_)
          (have hf9 := Option.some.inj hf; subst hf9)
          exact G.rI 163 hq dX9_tellsOurs_163 hs38
        · replace hf := (if_neg h33).symm.trans hf
          by_cases h40 : q11 = (6 : Int32)
          · replace hf := (if_pos h40).symm.trans hf
            refine G.tableIn 22 164 (off := 142) dX9_tellsOurs_22 (by rw [h40]; decide +kernel) (by rw [h40]; decide +kernel) (by rw [h40]; decide +kernel) (by decide) ?_
            refine G.aload_n 164 2 dX9_tellsOurs_164 rfl rfl ?_
            refine G.iload_n 165 3 dX9_tellsOurs_165 rfl rfl ?_
            refine G.iconst 166 (0 : Int32) dX9_tellsOurs_166 (by decide +kernel) ?_
            obtain ⟨q43, e44, hf⟩ := bd_e hf
            refine G.cvI 167 (As := [.int x1, .int (0 : Int32)]) ck_9 (hs9.k k0_284) (c_X9_get Z hs9 x1 (0 : Int32) e44) mk_X9_get vk_X9_get rfl wd_1411 hR (by decide +kernel) ⟨rfl, rfl⟩ rfl (Nat.le_of_ble_eq_true rfl) dX9_tellsOurs_167 (fun hs41 => ?_)
            (have hf9 := Option.some.inj hf; subst hf9)
            exact G.rI 170 hq dX9_tellsOurs_170 hs41
          · replace hf := (if_neg h40).symm.trans hf
            by_cases h45 : q11 = (7 : Int32)
            · replace hf := (if_pos h45).symm.trans hf
              refine G.tableIn 22 171 (off := 149) dX9_tellsOurs_22 (by rw [h45]; decide +kernel) (by rw [h45]; decide +kernel) (by rw [h45]; decide +kernel) (by decide) ?_
              refine G.iload_n 171 0 dX9_tellsOurs_171 rfl rfl ?_
              refine G.bipush 172 (100 : Int32) dX9_tellsOurs_172 (by decide +kernel) ?_
              refine G.idiv 174 dX9_tellsOurs_174 (by decide +kernel) ?_
              refine G.bipush 175 (100 : Int32) dX9_tellsOurs_175 (by decide +kernel) ?_
              refine G.imul 177 dX9_tellsOurs_177 ?_
              refine G.iload_n 178 0 dX9_tellsOurs_178 rfl rfl ?_
              refine G.bipush 179 (10 : Int32) dX9_tellsOurs_179 (by decide +kernel) ?_
              refine G.iremJ 181 dX9_tellsOurs_181 (by decide +kernel) ?_
              refine G.bipush 182 (10 : Int32) dX9_tellsOurs_182 (by decide +kernel) ?_
              refine G.imul 184 dX9_tellsOurs_184 ?_
              refine G.iadd 185 dX9_tellsOurs_185 ?_
              refine G.iload_n 186 0 dX9_tellsOurs_186 rfl rfl ?_
              refine G.bipush 187 (10 : Int32) dX9_tellsOurs_187 (by decide +kernel) ?_
              refine G.idiv 189 dX9_tellsOurs_189 (by decide +kernel) ?_
              refine G.bipush 190 (10 : Int32) dX9_tellsOurs_190 (by decide +kernel) ?_
              refine G.iremJ 192 dX9_tellsOurs_192 (by decide +kernel) ?_
              refine G.iadd 193 dX9_tellsOurs_193 ?_
              refine G.istore 194 [(4, .int ((((q7 / (100 : Int32)) * (100 : Int32)) + ((jrem q7 (10 : Int32)) * (10 : Int32))) + (jrem (q7 / (10 : Int32)) (10 : Int32)))), (3, .int q7), (2, .int q3), (0, .ref (zs Z + 284)), (1, .int x1)] dX9_tellsOurs_194 (Nat.le_of_ble_eq_true rfl) rfl ?_
              refine G.iload 196 0 dX9_tellsOurs_196 rfl ?_
              refine G.iload_n 198 2 dX9_tellsOurs_198 rfl rfl ?_
              refine G.icmp_gt 199 207 dX9_tellsOurs_199 (by decide) (fun h46 => ?_) (fun h46 => ?_)
              · replace hf := (if_pos h46).symm.trans hf
                refine G.iload_n 207 1 dX9_tellsOurs_207 rfl rfl ?_
                (have hf9 := Option.some.inj hf; subst hf9)
                exact G.rI 208 hq dX9_tellsOurs_208 hs9
              · replace hf := (if_neg h46).symm.trans hf
                refine G.iload 202 0 dX9_tellsOurs_202 rfl ?_
                refine G.goto 204 208 dX9_tellsOurs_204 (by decide) ?_
                (have hf9 := Option.some.inj hf; subst hf9)
                exact G.rI 208 hq dX9_tellsOurs_208 hs9
            · replace hf := (if_neg h45).symm.trans hf
              have t_h13 := ti (2 : Int32) (2) (by decide +kernel) h13
              have t_h20 := ti (3 : Int32) (3) (by decide +kernel) h20
              have t_h28 := ti (4 : Int32) (4) (by decide +kernel) h28
              have t_h33 := ti (5 : Int32) (5) (by decide +kernel) h33
              have t_h40 := ti (6 : Int32) (6) (by decide +kernel) h40
              have t_h45 := ti (7 : Int32) (7) (by decide +kernel) h45
              refine G.tableOut 22 209 dX9_tellsOurs_22 (by omega) (by decide) ?_
              refine G.iload_n 209 0 dX9_tellsOurs_209 rfl rfl ?_
              (have hf9 := Option.some.inj hf; subst hf9)
              exact G.rI 210 hq dX9_tellsOurs_210 hs9
