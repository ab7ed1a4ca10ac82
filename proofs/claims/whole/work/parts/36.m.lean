abbrev Y_X9_written : My := (cX9_written, RX9, 5)
def rm_X9_written : Room := { frames := 3, cells := 0, slots := 0, locals := 243 }
theorem dX9_written_0 : decode cX9_written 0 = .ok (.iconst 0, 1) := by decide +kernel
theorem dX9_written_1 : decode cX9_written 1 = .ok (.istore_n 3, 1) := by decide +kernel
theorem dX9_written_2 : decode cX9_written 2 = .ok (.iconst 0, 1) := by decide +kernel
theorem dX9_written_3 : decode cX9_written 3 = .ok (.istore 4, 2) := by decide +kernel
theorem dX9_written_5 : decode cX9_written 5 = .ok (.iload 4, 2) := by decide +kernel
theorem dX9_written_7 : decode cX9_written 7 = .ok (.aload_n 0, 1) := by decide +kernel
theorem dX9_written_8 : decode cX9_written 8 = .ok (.getfield 9, 3) := by decide +kernel
theorem dX9_written_11 : decode cX9_written 11 = .ok (.sipush 1192, 3) := by decide +kernel
theorem dX9_written_14 : decode cX9_written 14 = .ok (.iaload, 1) := by decide +kernel
theorem dX9_written_15 : decode cX9_written 15 = .ok (.if_icmp .ge 46, 3) := by decide +kernel
theorem dX9_written_18 : decode cX9_written 18 = .ok (.iload_n 3, 1) := by decide +kernel
theorem dX9_written_19 : decode cX9_written 19 = .ok (.aload_n 0, 1) := by decide +kernel
theorem dX9_written_20 : decode cX9_written 20 = .ok (.iload 4, 2) := by decide +kernel
theorem dX9_written_22 : decode cX9_written 22 = .ok (.invokevirtual 97, 3) := by decide +kernel
theorem dX9_written_25 : decode cX9_written 25 = .ok (.ifCond .eq 27, 3) := by decide +kernel
theorem dX9_written_28 : decode cX9_written 28 = .ok (.aload_n 0, 1) := by decide +kernel
theorem dX9_written_29 : decode cX9_written 29 = .ok (.iload 4, 2) := by decide +kernel
theorem dX9_written_31 : decode cX9_written 31 = .ok (.iconst 3, 1) := by decide +kernel
theorem dX9_written_32 : decode cX9_written 32 = .ok (.invokevirtual 76, 3) := by decide +kernel
theorem dX9_written_35 : decode cX9_written 35 = .ok (.iload_n 1, 1) := by decide +kernel
theorem dX9_written_36 : decode cX9_written 36 = .ok (.if_icmp .ne 16, 3) := by decide +kernel
theorem dX9_written_39 : decode cX9_written 39 = .ok (.aload_n 0, 1) := by decide +kernel
theorem dX9_written_40 : decode cX9_written 40 = .ok (.iload 4, 2) := by decide +kernel
theorem dX9_written_42 : decode cX9_written 42 = .ok (.bipush 9, 2) := by decide +kernel
theorem dX9_written_44 : decode cX9_written 44 = .ok (.iload_n 2, 1) := by decide +kernel
theorem dX9_written_45 : decode cX9_written 45 = .ok (.iadd, 1) := by decide +kernel
theorem dX9_written_46 : decode cX9_written 46 = .ok (.invokevirtual 76, 3) := by decide +kernel
theorem dX9_written_49 : decode cX9_written 49 = .ok (.goto 4, 3) := by decide +kernel
theorem dX9_written_52 : decode cX9_written 52 = .ok (.iconst 0, 1) := by decide +kernel
theorem dX9_written_53 : decode cX9_written 53 = .ok (.iadd, 1) := by decide +kernel
theorem dX9_written_54 : decode cX9_written 54 = .ok (.istore_n 3, 1) := by decide +kernel
theorem dX9_written_55 : decode cX9_written 55 = .ok (.iinc 4 1, 3) := by decide +kernel
theorem dX9_written_58 : decode cX9_written 58 = .ok (.goto (-53), 3) := by decide +kernel
theorem dX9_written_61 : decode cX9_written 61 = .ok (.iload_n 3, 1) := by decide +kernel
theorem dX9_written_62 : decode cX9_written 62 = .ok (.ireturn, 1) := by decide +kernel
def L_X9_written_5 : Nat → Int32 → Int32 → Int32 → Int32 → Mem → Option Int32
  | 0, _, _, _, _, _ => none
  | n + 1, x1, x2, x3, x4, M => if (mI M 285 1192) ≤ x4 then some x3 else (f_X9_has x4 M).bind fun q4 => if q4 = 0 then L_X9_written_5 n x1 x2 (x3 + (0 : Int32)) (x4 + 1) M else (f_X9_get x4 (3 : Int32) M).bind fun q9 => if q9 = x1 then (f_X9_get x4 ((9 : Int32) + x2) M).bind fun q14 => L_X9_written_5 n x1 x2 (x3 + q14) (x4 + 1) M else L_X9_written_5 n x1 x2 (x3 + (0 : Int32)) (x4 + 1) M
def f_X9_written (x1 : Int32) (x2 : Int32) (M : Mem) : Option Int32 := L_X9_written_5 FU x1 x2 (0 : Int32) (0 : Int32) M
set_option maxRecDepth 100000 in
set_option maxHeartbeats 4000000 in
theorem l_X9_written_5 (Z : Sys) (X : Cx) (hR : xR X = rm_X9_written) {q : Int32} {M : Mem} (hq : RetOk Z X (some .int) False (PostI q M) 0 0) : ∀ (n : Nat) (x1 : Int32) (x2 : Int32) (x3 : Int32) (x4 : Int32) (hs : St M) (hf : L_X9_written_5 n x1 x2 x3 x4 M = some q), G Z X Y_X9_written False 0 0 5 [(0, .ref (zs Z + 284)), (1, .int x1), (2, .int x2), (3, .int x3), (4, .int x4)] [] M := by
  intro n
  induction n with
  | zero => intro x1 x2 x3 x4 hs  hf; cases hf
  | succ n ih =>
    intro x1 x2 x3 x4 hs  hf
    unfold L_X9_written_5 at hf
    refine G.iload 5 4 dX9_written_5 rfl ?_
    refine G.aload_n 7 0 dX9_written_7 rfl rfl ?_
    refine G.getp 8 ck_9 0 285 (hs.k k0_284) (pc_9_0 hs) (by decide) (by decide +kernel) wd_1305 dX9_written_8 ?_
    refine G.sipush 11 (1192 : Int32) dX9_written_11 (by decide +kernel) ?_
    refine G.ia 14 1192 (hs.k k0_285) (by decide +kernel) (by decide +kernel) dX9_written_14 ?_
    refine G.icmp_ge 15 61 dX9_written_15 (by decide) (fun h1 => ?_) (fun h1 => ?_)
    · replace hf := (if_pos h1).symm.trans hf
      refine G.iload_n 61 3 dX9_written_61 rfl rfl ?_
      (have hf9 := Option.some.inj hf; subst hf9)
      exact G.rI 62 hq dX9_written_62 hs
    · replace hf := (if_neg h1).symm.trans hf
      refine G.iload_n 18 3 dX9_written_18 rfl rfl ?_
      refine G.aload_n 19 0 dX9_written_19 rfl rfl ?_
      refine G.iload 20 4 dX9_written_20 rfl ?_
      obtain ⟨q4, e5, hf⟩ := bd_e hf
      refine G.cvZ 22 (As := [.int x4]) ck_9 (hs.k k0_284) (c_X9_has Z hs x4 e5) mk_X9_has vk_X9_has rfl wd_1445 hR (by decide +kernel) ⟨rfl, rfl⟩ rfl (Nat.le_of_ble_eq_true rfl) dX9_written_22 (fun hs2 z3 => ?_)
      refine G.if_eq 25 52 dX9_written_25 (by decide) (fun h6 => ?_) (fun h6 => ?_)
      · replace hf := (if_pos h6).symm.trans hf
        refine G.iconst 52 (0 : Int32) dX9_written_52 (by decide +kernel) ?_
        refine G.iadd 53 dX9_written_53 ?_
        refine G.istore_n 54 [(3, .int (x3 + (0 : Int32))), (0, .ref (zs Z + 284)), (1, .int x1), (2, .int x2), (4, .int x4)] dX9_written_54 rfl (Nat.le_of_ble_eq_true rfl) rfl ?_
        refine G.iinc 55 4 (x4 + 1) [(4, .int (x4 + 1)), (3, .int (x3 + (0 : Int32))), (0, .ref (zs Z + 284)), (1, .int x1), (2, .int x2)] dX9_written_55 rfl (congrArg (fun z => x4 + z) (by decide +kernel)) (Nat.le_of_ble_eq_true rfl) rfl ?_
        refine G.goto 58 5 dX9_written_58 (by decide) ?_
        refine G.locs [2, 3, 4, 1, 0] rfl ?_
        exact ih x1 x2 (x3 + (0 : Int32)) (x4 + 1) hs2 hf
      · replace hf := (if_neg h6).symm.trans hf
        refine G.aload_n 28 0 dX9_written_28 rfl rfl ?_
        refine G.iload 29 4 dX9_written_29 rfl ?_
        refine G.iconst 31 (3 : Int32) dX9_written_31 (by decide +kernel) ?_
        obtain ⟨q9, e10, hf⟩ := bd_e hf
        refine G.cvI 32 (As := [.int x4, .int (3 : Int32)]) ck_9 (hs2.k k0_284) (c_X9_get Z hs2 x4 (3 : Int32) e10) mk_X9_get vk_X9_get rfl wd_1411 hR (by decide +kernel) ⟨rfl, rfl⟩ rfl (Nat.le_of_ble_eq_true rfl) dX9_written_32 (fun hs7 => ?_)
        refine G.iload_n 35 1 dX9_written_35 rfl rfl ?_
        refine G.icmp_ne 36 52 dX9_written_36 (by decide) (fun h11 => ?_) (fun h11 => ?_)
        · replace hf := (if_neg h11).symm.trans hf
          refine G.iconst 52 (0 : Int32) dX9_written_52 (by decide +kernel) ?_
          refine G.iadd 53 dX9_written_53 ?_
          refine G.istore_n 54 [(3, .int (x3 + (0 : Int32))), (0, .ref (zs Z + 284)), (1, .int x1), (2, .int x2), (4, .int x4)] dX9_written_54 rfl (Nat.le_of_ble_eq_true rfl) rfl ?_
          refine G.iinc 55 4 (x4 + 1) [(4, .int (x4 + 1)), (3, .int (x3 + (0 : Int32))), (0, .ref (zs Z + 284)), (1, .int x1), (2, .int x2)] dX9_written_55 rfl (congrArg (fun z => x4 + z) (by decide +kernel)) (Nat.le_of_ble_eq_true rfl) rfl ?_
          refine G.goto 58 5 dX9_written_58 (by decide) ?_
          refine G.locs [2, 3, 4, 1, 0] rfl ?_
          exact ih x1 x2 (x3 + (0 : Int32)) (x4 + 1) hs7 hf
        · replace hf := (if_pos h11).symm.trans hf
          refine G.aload_n 39 0 dX9_written_39 rfl rfl ?_
          refine G.iload 40 4 dX9_written_40 rfl ?_
          refine G.bipush 42 (9 : Int32) dX9_written_42 (by decide +kernel) ?_
          refine G.iload_n 44 2 dX9_written_44 rfl rfl ?_
          refine G.iadd 45 dX9_written_45 ?_
          obtain ⟨q14, e15, hf⟩ := bd_e hf
          refine G.cvI 46 (As := [.int x4, .int ((9 : Int32) + x2)]) ck_9 (hs7.k k0_284) (c_X9_get Z hs7 x4 ((9 : Int32) + x2) e15) mk_X9_get vk_X9_get rfl wd_1411 hR (by decide +kernel) ⟨rfl, rfl⟩ rfl (Nat.le_of_ble_eq_true rfl) dX9_written_46 (fun hs12 => ?_)
          refine G.goto 49 53 dX9_written_49 (by decide) ?_
          refine G.iadd 53 dX9_written_53 ?_
          refine G.istore_n 54 [(3, .int (x3 + q14)), (0, .ref (zs Z + 284)), (1, .int x1), (2, .int x2), (4, .int x4)] dX9_written_54 rfl (Nat.le_of_ble_eq_true rfl) rfl ?_
          refine G.iinc 55 4 (x4 + 1) [(4, .int (x4 + 1)), (3, .int (x3 + q14)), (0, .ref (zs Z + 284)), (1, .int x1), (2, .int x2)] dX9_written_55 rfl (congrArg (fun z => x4 + z) (by decide +kernel)) (Nat.le_of_ble_eq_true rfl) rfl ?_
          refine G.goto 58 5 dX9_written_58 (by decide) ?_
          refine G.locs [2, 3, 4, 1, 0] rfl ?_
          exact ih x1 x2 (x3 + q14) (x4 + 1) hs12 hf
set_option maxRecDepth 100000 in
set_option maxHeartbeats 4000000 in
theorem c_X9_written (Z : Sys) {M : Mem} (hs : St M) (x1 : Int32) (x2 : Int32) {q : Int32} (hf : f_X9_written x1 x2 M = some q) : Ct Z yX9_written cX9_written 5 (some .int) rm_X9_written [.ref (zs Z + 284), .int x1, .int x2] M False (PostI q M) := by
  refine Ct.of (by decide +kernel) (Nat.le_of_ble_eq_true rfl) (fun X hR hq _ => ?_)
  show G Z X Y_X9_written False 0 0 0 [(0, .ref (zs Z + 284)), (1, .int x1), (2, .int x2)] [] M
  replace hq : RetOk Z X (some .int) False (PostI q M) 0 0 := hq
  unfold f_X9_written at hf
  refine G.iconst 0 (0 : Int32) dX9_written_0 (by decide +kernel) ?_
  refine G.istore_n 1 [(3, .int (0 : Int32)), (0, .ref (zs Z + 284)), (1, .int x1), (2, .int x2)] dX9_written_1 rfl (Nat.le_of_ble_eq_true rfl) rfl ?_
  refine G.iconst 2 (0 : Int32) dX9_written_2 (by decide +kernel) ?_
  refine G.istore 3 [(4, .int (0 : Int32)), (3, .int (0 : Int32)), (0, .ref (zs Z + 284)), (1, .int x1), (2, .int x2)] dX9_written_3 (Nat.le_of_ble_eq_true rfl) rfl ?_
  refine G.locs [2, 3, 4, 1, 0] rfl ?_
  exact l_X9_written_5 Z X hR hq FU x1 x2 (0 : Int32) (0 : Int32) hs hf
abbrev Y_X9_sentUp : My := (cX9_sentUp, RX9, 3)
def rm_X9_sentUp : Room := { frames := 4, cells := 0, slots := 0, locals := 267 }
theorem dX9_sentUp_0 : decode cX9_sentUp 0 = .ok (.aload_n 0, 1) := by decide +kernel
theorem dX9_sentUp_1 : decode cX9_sentUp 1 = .ok (.getfield 9, 3) := by decide +kernel
theorem dX9_sentUp_4 : decode cX9_sentUp 4 = .ok (.sipush 370, 3) := by decide +kernel
theorem dX9_sentUp_7 : decode cX9_sentUp 7 = .ok (.iconst 3, 1) := by decide +kernel
theorem dX9_sentUp_8 : decode cX9_sentUp 8 = .ok (.iload_n 1, 1) := by decide +kernel
theorem dX9_sentUp_9 : decode cX9_sentUp 9 = .ok (.imul, 1) := by decide +kernel
theorem dX9_sentUp_10 : decode cX9_sentUp 10 = .ok (.iadd, 1) := by decide +kernel
theorem dX9_sentUp_11 : decode cX9_sentUp 11 = .ok (.iaload, 1) := by decide +kernel
theorem dX9_sentUp_12 : decode cX9_sentUp 12 = .ok (.iconst 1, 1) := by decide +kernel
theorem dX9_sentUp_13 : decode cX9_sentUp 13 = .ok (.if_icmp .ne 22, 3) := by decide +kernel
theorem dX9_sentUp_16 : decode cX9_sentUp 16 = .ok (.aload_n 0, 1) := by decide +kernel
theorem dX9_sentUp_17 : decode cX9_sentUp 17 = .ok (.getfield 9, 3) := by decide +kernel
theorem dX9_sentUp_20 : decode cX9_sentUp 20 = .ok (.sipush 370, 3) := by decide +kernel
theorem dX9_sentUp_23 : decode cX9_sentUp 23 = .ok (.iconst 3, 1) := by decide +kernel
theorem dX9_sentUp_24 : decode cX9_sentUp 24 = .ok (.iload_n 1, 1) := by decide +kernel
theorem dX9_sentUp_25 : decode cX9_sentUp 25 = .ok (.imul, 1) := by decide +kernel
theorem dX9_sentUp_26 : decode cX9_sentUp 26 = .ok (.iadd, 1) := by decide +kernel
theorem dX9_sentUp_27 : decode cX9_sentUp 27 = .ok (.iconst 1, 1) := by decide +kernel
theorem dX9_sentUp_28 : decode cX9_sentUp 28 = .ok (.iadd, 1) := by decide +kernel
theorem dX9_sentUp_29 : decode cX9_sentUp 29 = .ok (.iload_n 2, 1) := by decide +kernel
theorem dX9_sentUp_30 : decode cX9_sentUp 30 = .ok (.iadd, 1) := by decide +kernel
theorem dX9_sentUp_31 : decode cX9_sentUp 31 = .ok (.iaload, 1) := by decide +kernel
theorem dX9_sentUp_32 : decode cX9_sentUp 32 = .ok (.goto 9, 3) := by decide +kernel
theorem dX9_sentUp_35 : decode cX9_sentUp 35 = .ok (.aload_n 0, 1) := by decide +kernel
theorem dX9_sentUp_36 : decode cX9_sentUp 36 = .ok (.iload_n 1, 1) := by decide +kernel
theorem dX9_sentUp_37 : decode cX9_sentUp 37 = .ok (.iload_n 2, 1) := by decide +kernel
theorem dX9_sentUp_38 : decode cX9_sentUp 38 = .ok (.invokevirtual 164, 3) := by decide +kernel
theorem dX9_sentUp_41 : decode cX9_sentUp 41 = .ok (.ireturn, 1) := by decide +kernel
def f_X9_sentUp (x1 : Int32) (x2 : Int32) (M : Mem) : Option Int32 := gd (inR ((370 : Int32) + ((3 : Int32) * x1)) 1194) (if (mI M 285 ((370 : Int32) + ((3 : Int32) * x1)).toNatClampNeg) = (1 : Int32) then gd (inR ((((370 : Int32) + ((3 : Int32) * x1)) + (1 : Int32)) + x2) 1194) (some (mI M 285 ((((370 : Int32) + ((3 : Int32) * x1)) + (1 : Int32)) + x2).toNatClampNeg)) else (f_X9_written x1 x2 M).bind fun q5 => some q5)
set_option maxRecDepth 100000 in
set_option maxHeartbeats 4000000 in
theorem c_X9_sentUp (Z : Sys) {M : Mem} (hs : St M) (x1 : Int32) (x2 : Int32) {q : Int32} (hf : f_X9_sentUp x1 x2 M = some q) : Ct Z yX9_sentUp cX9_sentUp 3 (some .int) rm_X9_sentUp [.ref (zs Z + 284), .int x1, .int x2] M False (PostI q M) := by
  refine Ct.of (by decide +kernel) (Nat.le_of_ble_eq_true rfl) (fun X hR hq _ => ?_)
  show G Z X Y_X9_sentUp False 0 0 0 [(0, .ref (zs Z + 284)), (1, .int x1), (2, .int x2)] [] M
  replace hq : RetOk Z X (some .int) False (PostI q M) 0 0 := hq
  unfold f_X9_sentUp at hf
  refine G.aload_n 0 0 dX9_sentUp_0 rfl rfl ?_
  refine G.getp 1 ck_9 0 285 (hs.k k0_284) (pc_9_0 hs) (by decide) (by decide +kernel) wd_1305 dX9_sentUp_1 ?_
  refine G.sipush 4 (370 : Int32) dX9_sentUp_4 (by decide +kernel) ?_
  refine G.iconst 7 (3 : Int32) dX9_sentUp_7 (by decide +kernel) ?_
  refine G.iload_n 8 1 dX9_sentUp_8 rfl rfl ?_
  refine G.imul 9 dX9_sentUp_9 ?_
  refine G.iadd 10 dX9_sentUp_10 ?_
  obtain ⟨g1, hf⟩ := gd_e hf
  refine G.ia 11 ((370 : Int32) + ((3 : Int32) * x1)).toNatClampNeg (hs.k k0_285) g1 rfl dX9_sentUp_11 ?_
  refine G.iconst 12 (1 : Int32) dX9_sentUp_12 (by decide +kernel) ?_
  refine G.icmp_ne 13 35 dX9_sentUp_13 (by decide) (fun h2 => ?_) (fun h2 => ?_)
  · replace hf := (if_neg h2).symm.trans hf
    refine G.aload_n 35 0 dX9_sentUp_35 rfl rfl ?_
    refine G.iload_n 36 1 dX9_sentUp_36 rfl rfl ?_
    refine G.iload_n 37 2 dX9_sentUp_37 rfl rfl ?_
    obtain ⟨q5, e6, hf⟩ := bd_e hf
    refine G.cvI 38 (As := [.int x1, .int x2]) ck_9 (hs.k k0_284) (c_X9_written Z hs x1 x2 e6) mk_X9_written vk_X9_written rfl wd_1567 hR (by decide +kernel) ⟨rfl, rfl⟩ rfl (Nat.le_of_ble_eq_true rfl) dX9_sentUp_38 (fun hs3 => ?_)
    (have hf9 := Option.some.inj hf; subst hf9)
    exact G.rI 41 hq dX9_sentUp_41 hs3
  · replace hf := (if_pos h2).symm.trans hf
    refine G.aload_n 16 0 dX9_sentUp_16 rfl rfl ?_
    refine G.getp 17 ck_9 0 285 (hs.k k0_284) (pc_9_0 hs) (by decide) (by decide +kernel) wd_1305 dX9_sentUp_17 ?_
    refine G.sipush 20 (370 : Int32) dX9_sentUp_20 (by decide +kernel) ?_
    refine G.iconst 23 (3 : Int32) dX9_sentUp_23 (by decide +kernel) ?_
    refine G.iload_n 24 1 dX9_sentUp_24 rfl rfl ?_
    refine G.imul 25 dX9_sentUp_25 ?_
    refine G.iadd 26 dX9_sentUp_26 ?_
    refine G.iconst 27 (1 : Int32) dX9_sentUp_27 (by decide +kernel) ?_
    refine G.iadd 28 dX9_sentUp_28 ?_
    refine G.iload_n 29 2 dX9_sentUp_29 rfl rfl ?_
    refine G.iadd 30 dX9_sentUp_30 ?_
    obtain ⟨g7, hf⟩ := gd_e hf
    refine G.ia 31 ((((370 : Int32) + ((3 : Int32) * x1)) + (1 : Int32)) + x2).toNatClampNeg (hs.k k0_285) g7 rfl dX9_sentUp_31 ?_
    refine G.goto 32 41 dX9_sentUp_32 (by decide) ?_
    (have hf9 := Option.some.inj hf; subst hf9)
    exact G.rI 41 hq dX9_sentUp_41 hs
abbrev Y_X9_helped : My := (cX9_helped, RX9, 3)
def rm_X9_helped : Room := { frames := 5, cells := 0, slots := 0, locals := 289 }
theorem dX9_helped_0 : decode cX9_helped 0 = .ok (.iconst 0, 1) := by decide +kernel
theorem dX9_helped_1 : decode cX9_helped 1 = .ok (.istore_n 1, 1) := by decide +kernel
theorem dX9_helped_2 : decode cX9_helped 2 = .ok (.iconst 0, 1) := by decide +kernel
theorem dX9_helped_3 : decode cX9_helped 3 = .ok (.istore_n 2, 1) := by decide +kernel
theorem dX9_helped_4 : decode cX9_helped 4 = .ok (.iload_n 2, 1) := by decide +kernel
theorem dX9_helped_5 : decode cX9_helped 5 = .ok (.iconst 4, 1) := by decide +kernel
theorem dX9_helped_6 : decode cX9_helped 6 = .ok (.if_icmp .ge 41, 3) := by decide +kernel
theorem dX9_helped_9 : decode cX9_helped 9 = .ok (.iload_n 1, 1) := by decide +kernel
theorem dX9_helped_10 : decode cX9_helped 10 = .ok (.iconst 2, 1) := by decide +kernel
theorem dX9_helped_11 : decode cX9_helped 11 = .ok (.aload_n 0, 1) := by decide +kernel
theorem dX9_helped_12 : decode cX9_helped 12 = .ok (.iload_n 2, 1) := by decide +kernel
theorem dX9_helped_13 : decode cX9_helped 13 = .ok (.iconst 1, 1) := by decide +kernel
theorem dX9_helped_14 : decode cX9_helped 14 = .ok (.invokevirtual 169, 3) := by decide +kernel
theorem dX9_helped_17 : decode cX9_helped 17 = .ok (.aload_n 0, 1) := by decide +kernel
theorem dX9_helped_18 : decode cX9_helped 18 = .ok (.iload_n 2, 1) := by decide +kernel
theorem dX9_helped_19 : decode cX9_helped 19 = .ok (.iconst 1, 1) := by decide +kernel
theorem dX9_helped_20 : decode cX9_helped 20 = .ok (.invokevirtual 164, 3) := by decide +kernel
theorem dX9_helped_23 : decode cX9_helped 23 = .ok (.isub, 1) := by decide +kernel
theorem dX9_helped_24 : decode cX9_helped 24 = .ok (.imul, 1) := by decide +kernel
theorem dX9_helped_25 : decode cX9_helped 25 = .ok (.aload_n 0, 1) := by decide +kernel
theorem dX9_helped_26 : decode cX9_helped 26 = .ok (.iload_n 2, 1) := by decide +kernel
theorem dX9_helped_27 : decode cX9_helped 27 = .ok (.iconst 0, 1) := by decide +kernel
theorem dX9_helped_28 : decode cX9_helped 28 = .ok (.invokevirtual 169, 3) := by decide +kernel
theorem dX9_helped_31 : decode cX9_helped 31 = .ok (.aload_n 0, 1) := by decide +kernel
theorem dX9_helped_32 : decode cX9_helped 32 = .ok (.iload_n 2, 1) := by decide +kernel
theorem dX9_helped_33 : decode cX9_helped 33 = .ok (.iconst 0, 1) := by decide +kernel
theorem dX9_helped_34 : decode cX9_helped 34 = .ok (.invokevirtual 164, 3) := by decide +kernel
theorem dX9_helped_37 : decode cX9_helped 37 = .ok (.isub, 1) := by decide +kernel
theorem dX9_helped_38 : decode cX9_helped 38 = .ok (.isub, 1) := by decide +kernel
theorem dX9_helped_39 : decode cX9_helped 39 = .ok (.iadd, 1) := by decide +kernel
theorem dX9_helped_40 : decode cX9_helped 40 = .ok (.istore_n 1, 1) := by decide +kernel
theorem dX9_helped_41 : decode cX9_helped 41 = .ok (.iinc 2 1, 3) := by decide +kernel
theorem dX9_helped_44 : decode cX9_helped 44 = .ok (.goto (-40), 3) := by decide +kernel
theorem dX9_helped_47 : decode cX9_helped 47 = .ok (.iload_n 1, 1) := by decide +kernel
theorem dX9_helped_48 : decode cX9_helped 48 = .ok (.ireturn, 1) := by decide +kernel
def L_X9_helped_4 : Nat → Int32 → Int32 → Mem → Option Int32
  | 0, _, _, _ => none
  | n + 1, x1, x2, M => if (4 : Int32) ≤ x2 then some x1 else (f_X9_sentUp x2 (1 : Int32) M).bind fun q4 => (f_X9_written x2 (1 : Int32) M).bind fun q8 => (f_X9_sentUp x2 (0 : Int32) M).bind fun q12 => (f_X9_written x2 (0 : Int32) M).bind fun q16 => L_X9_helped_4 n (x1 + (((2 : Int32) * (q4 - q8)) - (q12 - q16))) (x2 + 1) M
def f_X9_helped (M : Mem) : Option Int32 := L_X9_helped_4 FU (0 : Int32) (0 : Int32) M
set_option maxRecDepth 100000 in
set_option maxHeartbeats 4000000 in
theorem l_X9_helped_4 (Z : Sys) (X : Cx) (hR : xR X = rm_X9_helped) {q : Int32} {M : Mem} (hq : RetOk Z X (some .int) False (PostI q M) 0 0) : ∀ (n : Nat) (x1 : Int32) (x2 : Int32) (hs : St M) (hf : L_X9_helped_4 n x1 x2 M = some q), G Z X Y_X9_helped False 0 0 4 [(0, .ref (zs Z + 284)), (1, .int x1), (2, .int x2)] [] M := by
  intro n
  induction n with
  | zero => intro x1 x2 hs  hf; cases hf
  | succ n ih =>
    intro x1 x2 hs  hf
    unfold L_X9_helped_4 at hf
    refine G.iload_n 4 2 dX9_helped_4 rfl rfl ?_
    refine G.iconst 5 (4 : Int32) dX9_helped_5 (by decide +kernel) ?_
    refine G.icmp_ge 6 47 dX9_helped_6 (by decide) (fun h1 => ?_) (fun h1 => ?_)
    · replace hf := (if_pos h1).symm.trans hf
      refine G.iload_n 47 1 dX9_helped_47 rfl rfl ?_
      (have hf9 := Option.some.inj hf; subst hf9)
      exact G.rI 48 hq dX9_helped_48 hs
    · replace hf := (if_neg h1).symm.trans hf
      refine G.iload_n 9 1 dX9_helped_9 rfl rfl ?_
      refine G.iconst 10 (2 : Int32) dX9_helped_10 (by decide +kernel) ?_
      refine G.aload_n 11 0 dX9_helped_11 rfl rfl ?_
      refine G.iload_n 12 2 dX9_helped_12 rfl rfl ?_
      refine G.iconst 13 (1 : Int32) dX9_helped_13 (by decide +kernel) ?_
      obtain ⟨q4, e5, hf⟩ := bd_e hf
      refine G.cvI 14 (As := [.int x2, .int (1 : Int32)]) ck_9 (hs.k k0_284) (c_X9_sentUp Z hs x2 (1 : Int32) e5) mk_X9_sentUp vk_X9_sentUp rfl wd_1571 hR (by decide +kernel) ⟨rfl, rfl⟩ rfl (Nat.le_of_ble_eq_true rfl) dX9_helped_14 (fun hs2 => ?_)
      refine G.aload_n 17 0 dX9_helped_17 rfl rfl ?_
      refine G.iload_n 18 2 dX9_helped_18 rfl rfl ?_
      refine G.iconst 19 (1 : Int32) dX9_helped_19 (by decide +kernel) ?_
      obtain ⟨q8, e9, hf⟩ := bd_e hf
      refine G.cvI 20 (As := [.int x2, .int (1 : Int32)]) ck_9 (hs2.k k0_284) (c_X9_written Z hs2 x2 (1 : Int32) e9) mk_X9_written vk_X9_written rfl wd_1567 hR (by decide +kernel) ⟨rfl, rfl⟩ rfl (Nat.le_of_ble_eq_true rfl) dX9_helped_20 (fun hs6 => ?_)
      refine G.isub 23 dX9_helped_23 ?_
      refine G.imul 24 dX9_helped_24 ?_
      refine G.aload_n 25 0 dX9_helped_25 rfl rfl ?_
      refine G.iload_n 26 2 dX9_helped_26 rfl rfl ?_
      refine G.iconst 27 (0 : Int32) dX9_helped_27 (by decide +kernel) ?_
      obtain ⟨q12, e13, hf⟩ := bd_e hf
      refine G.cvI 28 (As := [.int x2, .int (0 : Int32)]) ck_9 (hs6.k k0_284) (c_X9_sentUp Z hs6 x2 (0 : Int32) e13) mk_X9_sentUp vk_X9_sentUp rfl wd_1571 hR (by decide +kernel) ⟨rfl, rfl⟩ rfl (Nat.le_of_ble_eq_true rfl) dX9_helped_28 (fun hs10 => ?_)
      refine G.aload_n 31 0 dX9_helped_31 rfl rfl ?_
      refine G.iload_n 32 2 dX9_helped_32 rfl rfl ?_
      refine G.iconst 33 (0 : Int32) dX9_helped_33 (by decide +kernel) ?_
      obtain ⟨q16, e17, hf⟩ := bd_e hf
      refine G.cvI 34 (As := [.int x2, .int (0 : Int32)]) ck_9 (hs10.k k0_284) (c_X9_written Z hs10 x2 (0 : Int32) e17) mk_X9_written vk_X9_written rfl wd_1567 hR (by decide +kernel) ⟨rfl, rfl⟩ rfl (Nat.le_of_ble_eq_true rfl) dX9_helped_34 (fun hs14 => ?_)
      refine G.isub 37 dX9_helped_37 ?_
      refine G.isub 38 dX9_helped_38 ?_
      refine G.iadd 39 dX9_helped_39 ?_
      refine G.istore_n 40 [(1, .int (x1 + (((2 : Int32) * (q4 - q8)) - (q12 - q16)))), (0, .ref (zs Z + 284)), (2, .int x2)] dX9_helped_40 rfl (Nat.le_of_ble_eq_true rfl) rfl ?_
      refine G.iinc 41 2 (x2 + 1) [(2, .int (x2 + 1)), (1, .int (x1 + (((2 : Int32) * (q4 - q8)) - (q12 - q16)))), (0, .ref (zs Z + 284))] dX9_helped_41 rfl (congrArg (fun z => x2 + z) (by decide +kernel)) (Nat.le_of_ble_eq_true rfl) rfl ?_
      refine G.goto 44 4 dX9_helped_44 (by decide) ?_
      refine G.locs [2, 1, 0] rfl ?_
      exact ih (x1 + (((2 : Int32) * (q4 - q8)) - (q12 - q16))) (x2 + 1) hs14 hf
set_option maxRecDepth 100000 in
set_option maxHeartbeats 4000000 in
theorem c_X9_helped (Z : Sys) {M : Mem} (hs : St M) {q : Int32} (hf : f_X9_helped M = some q) : Ct Z yX9_helped cX9_helped 3 (some .int) rm_X9_helped [.ref (zs Z + 284)] M False (PostI q M) := by
  refine Ct.of (by decide +kernel) (Nat.le_of_ble_eq_true rfl) (fun X hR hq _ => ?_)
  show G Z X Y_X9_helped False 0 0 0 [(0, .ref (zs Z + 284))] [] M
  replace hq : RetOk Z X (some .int) False (PostI q M) 0 0 := hq
  unfold f_X9_helped at hf
  refine G.iconst 0 (0 : Int32) dX9_helped_0 (by decide +kernel) ?_
  refine G.istore_n 1 [(1, .int (0 : Int32)), (0, .ref (zs Z + 284))] dX9_helped_1 rfl (Nat.le_of_ble_eq_true rfl) rfl ?_
  refine G.iconst 2 (0 : Int32) dX9_helped_2 (by decide +kernel) ?_
  refine G.istore_n 3 [(2, .int (0 : Int32)), (1, .int (0 : Int32)), (0, .ref (zs Z + 284))] dX9_helped_3 rfl (Nat.le_of_ble_eq_true rfl) rfl ?_
  refine G.locs [2, 1, 0] rfl ?_
  exact l_X9_helped_4 Z X hR hq FU (0 : Int32) (0 : Int32) hs hf
abbrev Y_X9_hundredths : My := (cX9_hundredths, RX9, 3)
def rm_X9_hundredths : Room := { frames := 2, cells := 0, slots := 0, locals := 221 }
theorem dX9_hundredths_0 : decode cX9_hundredths 0 = .ok (.aload_n 0, 1) := by decide +kernel
theorem dX9_hundredths_1 : decode cX9_hundredths 1 = .ok (.aload_n 0, 1) := by decide +kernel
theorem dX9_hundredths_2 : decode cX9_hundredths 2 = .ok (.getfield 206, 3) := by decide +kernel
theorem dX9_hundredths_5 : decode cX9_hundredths 5 = .ok (.ldc 209, 2) := by decide +kernel
theorem dX9_hundredths_7 : decode cX9_hundredths 7 = .ok (.imul, 1) := by decide +kernel
theorem dX9_hundredths_8 : decode cX9_hundredths 8 = .ok (.sipush 12345, 3) := by decide +kernel
theorem dX9_hundredths_11 : decode cX9_hundredths 11 = .ok (.iadd, 1) := by decide +kernel
theorem dX9_hundredths_12 : decode cX9_hundredths 12 = .ok (.putfield 206, 3) := by decide +kernel
theorem dX9_hundredths_15 : decode cX9_hundredths 15 = .ok (.iload_n 1, 1) := by decide +kernel
theorem dX9_hundredths_16 : decode cX9_hundredths 16 = .ok (.aload_n 0, 1) := by decide +kernel
theorem dX9_hundredths_17 : decode cX9_hundredths 17 = .ok (.getfield 206, 3) := by decide +kernel
theorem dX9_hundredths_20 : decode cX9_hundredths 20 = .ok (.ldc 210, 2) := by decide +kernel
theorem dX9_hundredths_22 : decode cX9_hundredths 22 = .ok (.iand, 1) := by decide +kernel
theorem dX9_hundredths_23 : decode cX9_hundredths 23 = .ok (.ldc 211, 2) := by decide +kernel
theorem dX9_hundredths_25 : decode cX9_hundredths 25 = .ok (.idiv, 1) := by decide +kernel
theorem dX9_hundredths_26 : decode cX9_hundredths 26 = .ok (.iconst 2, 1) := by decide +kernel
theorem dX9_hundredths_27 : decode cX9_hundredths 27 = .ok (.aload_n 0, 1) := by decide +kernel
theorem dX9_hundredths_28 : decode cX9_hundredths 28 = .ok (.getfield 9, 3) := by decide +kernel
theorem dX9_hundredths_31 : decode cX9_hundredths 31 = .ok (.sipush 363, 3) := by decide +kernel
theorem dX9_hundredths_34 : decode cX9_hundredths 34 = .ok (.iaload, 1) := by decide +kernel
theorem dX9_hundredths_35 : decode cX9_hundredths 35 = .ok (.imul, 1) := by decide +kernel
theorem dX9_hundredths_36 : decode cX9_hundredths 36 = .ok (.iconst 1, 1) := by decide +kernel
theorem dX9_hundredths_37 : decode cX9_hundredths 37 = .ok (.iadd, 1) := by decide +kernel
theorem dX9_hundredths_38 : decode cX9_hundredths 38 = .ok (.irem, 1) := by decide +kernel
theorem dX9_hundredths_39 : decode cX9_hundredths 39 = .ok (.iadd, 1) := by decide +kernel
theorem dX9_hundredths_40 : decode cX9_hundredths 40 = .ok (.aload_n 0, 1) := by decide +kernel
theorem dX9_hundredths_41 : decode cX9_hundredths 41 = .ok (.getfield 9, 3) := by decide +kernel
theorem dX9_hundredths_44 : decode cX9_hundredths 44 = .ok (.sipush 363, 3) := by decide +kernel
theorem dX9_hundredths_47 : decode cX9_hundredths 47 = .ok (.iaload, 1) := by decide +kernel
theorem dX9_hundredths_48 : decode cX9_hundredths 48 = .ok (.isub, 1) := by decide +kernel
theorem dX9_hundredths_49 : decode cX9_hundredths 49 = .ok (.istore_n 2, 1) := by decide +kernel
theorem dX9_hundredths_50 : decode cX9_hundredths 50 = .ok (.iload_n 2, 1) := by decide +kernel
theorem dX9_hundredths_51 : decode cX9_hundredths 51 = .ok (.bipush 100, 2) := by decide +kernel
theorem dX9_hundredths_53 : decode cX9_hundredths 53 = .ok (.invokestatic 115, 3) := by decide +kernel
theorem dX9_hundredths_56 : decode cX9_hundredths 56 = .ok (.ireturn, 1) := by decide +kernel
def f_X9_hundredths (x1 : Int32) (M : Mem) : Option (Int32 × Mem) := gd (¬ (((2 : Int32) * (mI (sI M 284 16 (((mI M 284 16) * (1103515245 : Int32)) + (12345 : Int32))) 285 363)) + (1 : Int32)) = 0) (some ((f_X9_held ((x1 + (jrem (((mI (sI M 284 16 (((mI M 284 16) * (1103515245 : Int32)) + (12345 : Int32))) 284 16) &&& (2147483647 : Int32)) / (65536 : Int32)) (((2 : Int32) * (mI (sI M 284 16 (((mI M 284 16) * (1103515245 : Int32)) + (12345 : Int32))) 285 363)) + (1 : Int32)))) - (mI (sI M 284 16 (((mI M 284 16) * (1103515245 : Int32)) + (12345 : Int32))) 285 363)) (100 : Int32)), (sI M 284 16 (((mI M 284 16) * (1103515245 : Int32)) + (12345 : Int32)))))
set_option maxRecDepth 100000 in
set_option maxHeartbeats 4000000 in
theorem c_X9_hundredths (Z : Sys) {M : Mem} (hs : St M) (x1 : Int32) {q : Int32 × Mem} (hf : f_X9_hundredths x1 M = some q) : Ct Z yX9_hundredths cX9_hundredths 3 (some .int) rm_X9_hundredths [.ref (zs Z + 284), .int x1] M False (PostI q.1 q.2) := by
  refine Ct.of (by decide +kernel) (Nat.le_of_ble_eq_true rfl) (fun X hR hq _ => ?_)
  show G Z X Y_X9_hundredths False 0 0 0 [(0, .ref (zs Z + 284)), (1, .int x1)] [] M
  replace hq : RetOk Z X (some .int) False (PostI q.1 q.2) 0 0 := hq
  unfold f_X9_hundredths at hf
  refine G.aload_n 0 0 dX9_hundredths_0 rfl rfl ?_
  refine G.aload_n 1 0 dX9_hundredths_1 rfl rfl ?_
  refine G.geti 2 ck_9 16 (hs.k k0_284) (by decide) (by decide +kernel) wd_1321 dX9_hundredths_2 ?_
  refine G.ldc 5 (1103515245 : Int32) wd_1650 dX9_hundredths_5 ?_
  refine G.imul 7 dX9_hundredths_7 ?_
  refine G.sipush 8 (12345 : Int32) dX9_hundredths_8 (by decide +kernel) ?_
  refine G.iadd 11 dX9_hundredths_11 ?_
  refine G.puti 12 ck_9 16 (hs.k k0_284) (by decide) (by decide +kernel) rfl wd_1321 rfl rfl dX9_hundredths_12 ?_
  refine G.iload_n 15 1 dX9_hundredths_15 rfl rfl ?_
  refine G.aload_n 16 0 dX9_hundredths_16 rfl rfl ?_
  refine G.geti 17 ck_9 16 ((St.i hs).k k0_284) (by decide) (by decide +kernel) wd_1321 dX9_hundredths_17 ?_
  refine G.ldc 20 (2147483647 : Int32) wd_1651 dX9_hundredths_20 ?_
  refine G.iand 22 dX9_hundredths_22 ?_
  refine G.ldc 23 (65536 : Int32) wd_1652 dX9_hundredths_23 ?_
  refine G.idiv 25 dX9_hundredths_25 (by decide +kernel) ?_
  refine G.iconst 26 (2 : Int32) dX9_hundredths_26 (by decide +kernel) ?_
  refine G.aload_n 27 0 dX9_hundredths_27 rfl rfl ?_
  refine G.getp 28 ck_9 0 285 ((St.i hs).k k0_284) (pc_9_0 (St.i hs)) (by decide) (by decide +kernel) wd_1305 dX9_hundredths_28 ?_
  refine G.sipush 31 (363 : Int32) dX9_hundredths_31 (by decide +kernel) ?_
  refine G.ia 34 363 ((St.i hs).k k0_285) (by decide +kernel) (by decide +kernel) dX9_hundredths_34 ?_
  refine G.imul 35 dX9_hundredths_35 ?_
  refine G.iconst 36 (1 : Int32) dX9_hundredths_36 (by decide +kernel) ?_
  refine G.iadd 37 dX9_hundredths_37 ?_
  obtain ⟨g1, hf⟩ := gd_e hf
  refine G.iremJ 38 dX9_hundredths_38 g1 ?_
  refine G.iadd 39 dX9_hundredths_39 ?_
  refine G.aload_n 40 0 dX9_hundredths_40 rfl rfl ?_
  refine G.getp 41 ck_9 0 285 ((St.i hs).k k0_284) (pc_9_0 (St.i hs)) (by decide) (by decide +kernel) wd_1305 dX9_hundredths_41 ?_
  refine G.sipush 44 (363 : Int32) dX9_hundredths_44 (by decide +kernel) ?_
  refine G.ia 47 363 ((St.i hs).k k0_285) (by decide +kernel) (by decide +kernel) dX9_hundredths_47 ?_
  refine G.isub 48 dX9_hundredths_48 ?_
  refine G.istore_n 49 [(2, .int ((x1 + (jrem (((mI (sI M 284 16 (((mI M 284 16) * (1103515245 : Int32)) + (12345 : Int32))) 284 16) &&& (2147483647 : Int32)) / (65536 : Int32)) (((2 : Int32) * (mI (sI M 284 16 (((mI M 284 16) * (1103515245 : Int32)) + (12345 : Int32))) 285 363)) + (1 : Int32)))) - (mI (sI M 284 16 (((mI M 284 16) * (1103515245 : Int32)) + (12345 : Int32))) 285 363))), (0, .ref (zs Z + 284)), (1, .int x1)] dX9_hundredths_49 rfl (Nat.le_of_ble_eq_true rfl) rfl ?_
  refine G.iload_n 50 0 dX9_hundredths_50 rfl rfl ?_
  refine G.bipush 51 (100 : Int32) dX9_hundredths_51 (by decide +kernel) ?_
  refine G.csI 53 (As := [.int ((x1 + (jrem (((mI (sI M 284 16 (((mI M 284 16) * (1103515245 : Int32)) + (12345 : Int32))) 284 16) &&& (2147483647 : Int32)) / (65536 : Int32)) (((2 : Int32) * (mI (sI M 284 16 (((mI M 284 16) * (1103515245 : Int32)) + (12345 : Int32))) 285 363)) + (1 : Int32)))) - (mI (sI M 284 16 (((mI M 284 16) * (1103515245 : Int32)) + (12345 : Int32))) 285 363)), .int (100 : Int32)]) (c_X9_held Z (St.i hs) ((x1 + (jrem (((mI (sI M 284 16 (((mI M 284 16) * (1103515245 : Int32)) + (12345 : Int32))) 284 16) &&& (2147483647 : Int32)) / (65536 : Int32)) (((2 : Int32) * (mI (sI M 284 16 (((mI M 284 16) * (1103515245 : Int32)) + (12345 : Int32))) 285 363)) + (1 : Int32)))) - (mI (sI M 284 16 (((mI M 284 16) * (1103515245 : Int32)) + (12345 : Int32))) 285 363)) (100 : Int32) rfl) mk_X9_held wd_1474 wd_1473 hR (by decide +kernel) ⟨rfl, rfl⟩ rfl (Nat.le_of_ble_eq_true rfl) dX9_hundredths_53 (fun hs2 => ?_)
  (have hf9 := Option.some.inj hf; subst hf9)
  exact G.rI 56 hq dX9_hundredths_56 hs2
abbrev Y_X9_image : My := (cX9_image, RX9, 2)
def rm_X9_image : Room := { frames := 1, cells := 0, slots := 0, locals := 200 }
theorem dX9_image_0 : decode cX9_image 0 = .ok (.iconst 0, 1) := by decide +kernel
theorem dX9_image_1 : decode cX9_image 1 = .ok (.istore_n 1, 1) := by decide +kernel
theorem dX9_image_2 : decode cX9_image 2 = .ok (.iload_n 1, 1) := by decide +kernel
theorem dX9_image_3 : decode cX9_image 3 = .ok (.sipush 1194, 3) := by decide +kernel
theorem dX9_image_6 : decode cX9_image 6 = .ok (.if_icmp .ge 21, 3) := by decide +kernel
theorem dX9_image_9 : decode cX9_image 9 = .ok (.aload_n 0, 1) := by decide +kernel
theorem dX9_image_10 : decode cX9_image 10 = .ok (.getfield 13, 3) := by decide +kernel
theorem dX9_image_13 : decode cX9_image 13 = .ok (.iload_n 1, 1) := by decide +kernel
theorem dX9_image_14 : decode cX9_image 14 = .ok (.aload_n 0, 1) := by decide +kernel
theorem dX9_image_15 : decode cX9_image 15 = .ok (.getfield 9, 3) := by decide +kernel
theorem dX9_image_18 : decode cX9_image 18 = .ok (.iload_n 1, 1) := by decide +kernel
theorem dX9_image_19 : decode cX9_image 19 = .ok (.iaload, 1) := by decide +kernel
theorem dX9_image_20 : decode cX9_image 20 = .ok (.iastore, 1) := by decide +kernel
theorem dX9_image_21 : decode cX9_image 21 = .ok (.iinc 1 1, 3) := by decide +kernel
theorem dX9_image_24 : decode cX9_image 24 = .ok (.goto (-22), 3) := by decide +kernel
theorem dX9_image_27 : decode cX9_image 27 = .ok (.aload_n 0, 1) := by decide +kernel
theorem dX9_image_28 : decode cX9_image 28 = .ok (.iconst 1, 1) := by decide +kernel
theorem dX9_image_29 : decode cX9_image 29 = .ok (.putfield 291, 3) := by decide +kernel
theorem dX9_image_32 : decode cX9_image 32 = .ok (.aload_n 0, 1) := by decide +kernel
theorem dX9_image_33 : decode cX9_image 33 = .ok (.getfield 9, 3) := by decide +kernel
theorem dX9_image_36 : decode cX9_image 36 = .ok (.sipush 1192, 3) := by decide +kernel
theorem dX9_image_39 : decode cX9_image 39 = .ok (.iaload, 1) := by decide +kernel
theorem dX9_image_40 : decode cX9_image 40 = .ok (.ireturn, 1) := by decide +kernel
def B_X9_image_27 (M : Mem) : Option (Int32 × Mem) := some ((mI (sI M 284 8 (1 : Int32)) 285 1192), (sI M 284 8 (1 : Int32)))
def L_X9_image_2 : Nat → Int32 → Mem → Option (Int32 × Mem)
  | 0, _, _ => none
  | n + 1, x1, M => if (1194 : Int32) ≤ x1 then B_X9_image_27 M else gd (inR x1 1194) (L_X9_image_2 n (x1 + 1) (sI M 286 x1.toNatClampNeg (mI M 285 x1.toNatClampNeg)))
def f_X9_image (M : Mem) : Option (Int32 × Mem) := L_X9_image_2 FU (0 : Int32) M
set_option maxRecDepth 100000 in
set_option maxHeartbeats 4000000 in
theorem b_X9_image_27 (Z : Sys) (X : Cx) (hR : xR X = rm_X9_image) {q : Int32 × Mem} (hq : RetOk Z X (some .int) False (PostI q.1 q.2) 0 0) {M : Mem} (hs : St M) (hf : B_X9_image_27 M = some q) : G Z X Y_X9_image False 0 0 27 [(0, .ref (zs Z + 284))] [] M := by
  unfold B_X9_image_27 at hf
  refine G.aload_n 27 0 dX9_image_27 rfl rfl ?_
  refine G.iconst 28 (1 : Int32) dX9_image_28 (by decide +kernel) ?_
  refine G.puti 29 ck_9 8 (hs.k k0_284) (by decide) (by decide +kernel) rfl wd_1313 rfl rfl dX9_image_29 ?_
  refine G.aload_n 32 0 dX9_image_32 rfl rfl ?_
  refine G.getp 33 ck_9 0 285 ((St.i hs).k k0_284) (pc_9_0 (St.i hs)) (by decide) (by decide +kernel) wd_1305 dX9_image_33 ?_
  refine G.sipush 36 (1192 : Int32) dX9_image_36 (by decide +kernel) ?_
  refine G.ia 39 1192 ((St.i hs).k k0_285) (by decide +kernel) (by decide +kernel) dX9_image_39 ?_
  (have hf9 := Option.some.inj hf; subst hf9)
  exact G.rI 40 hq dX9_image_40 (St.i hs)
set_option maxRecDepth 100000 in
set_option maxHeartbeats 4000000 in
theorem l_X9_image_2 (Z : Sys) (X : Cx) (hR : xR X = rm_X9_image) {q : Int32 × Mem} (hq : RetOk Z X (some .int) False (PostI q.1 q.2) 0 0) : ∀ (n : Nat) (x1 : Int32) (M : Mem) (hs : St M) (hf : L_X9_image_2 n x1 M = some q), G Z X Y_X9_image False 0 0 2 [(0, .ref (zs Z + 284)), (1, .int x1)] [] M := by
  intro n
  induction n with
  | zero => intro x1 M hs  hf; cases hf
  | succ n ih =>
    intro x1 M hs  hf
    unfold L_X9_image_2 at hf
    refine G.iload_n 2 1 dX9_image_2 rfl rfl ?_
    refine G.sipush 3 (1194 : Int32) dX9_image_3 (by decide +kernel) ?_
    refine G.icmp_ge 6 27 dX9_image_6 (by decide) (fun h1 => ?_) (fun h1 => ?_)
    · replace hf := (if_pos h1).symm.trans hf
      refine G.locs [0] rfl ?_
      exact b_X9_image_27 Z X hR hq hs hf
    · replace hf := (if_neg h1).symm.trans hf
      refine G.aload_n 9 0 dX9_image_9 rfl rfl ?_
      refine G.getp 10 ck_9 1 286 (hs.k k0_284) (pc_9_1 hs) (by decide) (by decide +kernel) wd_1306 dX9_image_10 ?_
      refine G.iload_n 13 1 dX9_image_13 rfl rfl ?_
      refine G.aload_n 14 0 dX9_image_14 rfl rfl ?_
      refine G.getp 15 ck_9 0 285 (hs.k k0_284) (pc_9_0 hs) (by decide) (by decide +kernel) wd_1305 dX9_image_15 ?_
      refine G.iload_n 18 1 dX9_image_18 rfl rfl ?_
      obtain ⟨g2, hf⟩ := gd_e hf
      refine G.ia 19 x1.toNatClampNeg (hs.k k0_285) g2 rfl dX9_image_19 ?_
      refine G.ist 20 x1.toNatClampNeg (hs.k k0_286) g2 rfl dX9_image_20 ?_
      refine G.iinc 21 1 (x1 + 1) [(1, .int (x1 + 1)), (0, .ref (zs Z + 284))] dX9_image_21 rfl (congrArg (fun z => x1 + z) (by decide +kernel)) (Nat.le_of_ble_eq_true rfl) rfl ?_
      refine G.goto 24 2 dX9_image_24 (by decide) ?_
      refine G.locs [1, 0] rfl ?_
      exact ih (x1 + 1) (sI M 286 x1.toNatClampNeg (mI M 285 x1.toNatClampNeg)) (St.i hs) hf
set_option maxRecDepth 100000 in
set_option maxHeartbeats 4000000 in
theorem c_X9_image (Z : Sys) {M : Mem} (hs : St M) {q : Int32 × Mem} (hf : f_X9_image M = some q) : Ct Z yX9_image cX9_image 2 (some .int) rm_X9_image [.ref (zs Z + 284)] M False (PostI q.1 q.2) := by
  refine Ct.of (by decide +kernel) (Nat.le_of_ble_eq_true rfl) (fun X hR hq _ => ?_)
  show G Z X Y_X9_image False 0 0 0 [(0, .ref (zs Z + 284))] [] M
  replace hq : RetOk Z X (some .int) False (PostI q.1 q.2) 0 0 := hq
  unfold f_X9_image at hf
  refine G.iconst 0 (0 : Int32) dX9_image_0 (by decide +kernel) ?_
  refine G.istore_n 1 [(1, .int (0 : Int32)), (0, .ref (zs Z + 284))] dX9_image_1 rfl (Nat.le_of_ble_eq_true rfl) rfl ?_
  refine G.locs [1, 0] rfl ?_
  exact l_X9_image_2 Z X hR hq FU (0 : Int32) M hs hf
abbrev Y_X9_isHall : My := (cX9_isHall, RX9, 2)
def rm_X9_isHall : Room := { frames := 2, cells := 0, slots := 0, locals := 225 }
theorem dX9_isHall_0 : decode cX9_isHall 0 = .ok (.iload_n 1, 1) := by decide +kernel
theorem dX9_isHall_1 : decode cX9_isHall 1 = .ok (.i2l, 1) := by decide +kernel
theorem dX9_isHall_2 : decode cX9_isHall 2 = .ok (.lconst 0, 1) := by decide +kernel
theorem dX9_isHall_3 : decode cX9_isHall 3 = .ok (.aload_n 0, 1) := by decide +kernel
theorem dX9_isHall_4 : decode cX9_isHall 4 = .ok (.getfield 9, 3) := by decide +kernel
theorem dX9_isHall_7 : decode cX9_isHall 7 = .ok (.sipush 1192, 3) := by decide +kernel
theorem dX9_isHall_10 : decode cX9_isHall 10 = .ok (.iaload, 1) := by decide +kernel
theorem dX9_isHall_11 : decode cX9_isHall 11 = .ok (.iconst 1, 1) := by decide +kernel
theorem dX9_isHall_12 : decode cX9_isHall 12 = .ok (.isub, 1) := by decide +kernel
theorem dX9_isHall_13 : decode cX9_isHall 13 = .ok (.i2l, 1) := by decide +kernel
theorem dX9_isHall_14 : decode cX9_isHall 14 = .ok (.invokestatic 62, 3) := by decide +kernel
theorem dX9_isHall_17 : decode cX9_isHall 17 = .ok (.ireturn, 1) := by decide +kernel
def f_X9_isHall (x1 : Int32) (M : Mem) : Int32 := (f_X9_isIn x1.toInt64 (0 : Int64) ((mI M 285 1192) - (1 : Int32)).toInt64)
set_option maxRecDepth 100000 in
set_option maxHeartbeats 4000000 in
theorem c_X9_isHall (Z : Sys) {M : Mem} (hs : St M) (x1 : Int32) {q : Int32} (hf : f_X9_isHall x1 M = q) : Ct Z yX9_isHall cX9_isHall 2 (some .boolean) rm_X9_isHall [.ref (zs Z + 284), .int x1] M False (PostZ q M) := by
  refine Ct.of (by decide +kernel) (Nat.le_of_ble_eq_true rfl) (fun X hR hq _ => ?_)
  show G Z X Y_X9_isHall False 0 0 0 [(0, .ref (zs Z + 284)), (1, .int x1)] [] M
  replace hq : RetOk Z X (some .boolean) False (PostZ q M) 0 0 := hq
  unfold f_X9_isHall at hf
  refine G.iload_n 0 1 dX9_isHall_0 rfl rfl ?_
  refine G.i2l 1 dX9_isHall_1 ?_
  refine G.lconst 2 (0 : Int64) dX9_isHall_2 (by decide +kernel) ?_
  refine G.aload_n 3 0 dX9_isHall_3 rfl rfl ?_
  refine G.getp 4 ck_9 0 285 (hs.k k0_284) (pc_9_0 hs) (by decide) (by decide +kernel) wd_1305 dX9_isHall_4 ?_
  refine G.sipush 7 (1192 : Int32) dX9_isHall_7 (by decide +kernel) ?_
  refine G.ia 10 1192 (hs.k k0_285) (by decide +kernel) (by decide +kernel) dX9_isHall_10 ?_
  refine G.iconst 11 (1 : Int32) dX9_isHall_11 (by decide +kernel) ?_
  refine G.isub 12 dX9_isHall_12 ?_
  refine G.i2l 13 dX9_isHall_13 ?_
  refine G.csZ 14 (As := [.long x1.toInt64, .long (0 : Int64), .long ((mI M 285 1192) - (1 : Int32)).toInt64]) (c_X9_isIn Z hs x1.toInt64 (0 : Int64) ((mI M 285 1192) - (1 : Int32)).toInt64 rfl) mk_X9_isIn wd_1400 wd_1399 hR (by decide +kernel) ⟨rfl, rfl⟩ rfl (Nat.le_of_ble_eq_true rfl) dX9_isHall_14 (fun hs1 z2 => ?_)
  subst hf
  exact G.rZ 17 hq dX9_isHall_17 hs1 z2
abbrev Y_X9_isRound : My := (cX9_isRound, RX9, 2)
def rm_X9_isRound : Room := { frames := 1, cells := 0, slots := 0, locals := 200 }
theorem dX9_isRound_0 : decode cX9_isRound 0 = .ok (.iload_n 0, 1) := by decide +kernel
theorem dX9_isRound_1 : decode cX9_isRound 1 = .ok (.ifCond .le 27, 3) := by decide +kernel
theorem dX9_isRound_4 : decode cX9_isRound 4 = .ok (.iload_n 1, 1) := by decide +kernel
theorem dX9_isRound_5 : decode cX9_isRound 5 = .ok (.bipush 100, 2) := by decide +kernel
theorem dX9_isRound_7 : decode cX9_isRound 7 = .ok (.imul, 1) := by decide +kernel
theorem dX9_isRound_8 : decode cX9_isRound 8 = .ok (.iload_n 0, 1) := by decide +kernel
theorem dX9_isRound_9 : decode cX9_isRound 9 = .ok (.irem, 1) := by decide +kernel
theorem dX9_isRound_10 : decode cX9_isRound 10 = .ok (.ifCond .ne 18, 3) := by decide +kernel
theorem dX9_isRound_13 : decode cX9_isRound 13 = .ok (.iload_n 1, 1) := by decide +kernel
theorem dX9_isRound_14 : decode cX9_isRound 14 = .ok (.bipush 100, 2) := by decide +kernel
theorem dX9_isRound_16 : decode cX9_isRound 16 = .ok (.imul, 1) := by decide +kernel
theorem dX9_isRound_17 : decode cX9_isRound 17 = .ok (.iload_n 0, 1) := by decide +kernel
theorem dX9_isRound_18 : decode cX9_isRound 18 = .ok (.idiv, 1) := by decide +kernel
theorem dX9_isRound_19 : decode cX9_isRound 19 = .ok (.iconst 5, 1) := by decide +kernel
theorem dX9_isRound_20 : decode cX9_isRound 20 = .ok (.irem, 1) := by decide +kernel
theorem dX9_isRound_21 : decode cX9_isRound 21 = .ok (.ifCond .ne 7, 3) := by decide +kernel
theorem dX9_isRound_24 : decode cX9_isRound 24 = .ok (.iconst 1, 1) := by decide +kernel
theorem dX9_isRound_25 : decode cX9_isRound 25 = .ok (.goto 4, 3) := by decide +kernel
theorem dX9_isRound_28 : decode cX9_isRound 28 = .ok (.iconst 0, 1) := by decide +kernel
theorem dX9_isRound_29 : decode cX9_isRound 29 = .ok (.ireturn, 1) := by decide +kernel
def f_X9_isRound (x0 : Int32) (x1 : Int32) : Option Int32 := if x0 ≤ 0 then some (0 : Int32) else gd (¬ x0 = 0) (if (jrem (x1 * (100 : Int32)) x0) = 0 then if (jrem ((x1 * (100 : Int32)) / x0) (5 : Int32)) = 0 then some (1 : Int32) else some (0 : Int32) else some (0 : Int32))
set_option maxRecDepth 100000 in
set_option maxHeartbeats 4000000 in
theorem c_X9_isRound (Z : Sys) {M : Mem} (hs : St M) (x0 : Int32) (x1 : Int32) {q : Int32} (hf : f_X9_isRound x0 x1 = some q) : Ct Z yX9_isRound cX9_isRound 2 (some .boolean) rm_X9_isRound [.int x0, .int x1] M False (PostZ q M) := by
  refine Ct.of (by decide +kernel) (Nat.le_of_ble_eq_true rfl) (fun X hR hq _ => ?_)
  show G Z X Y_X9_isRound False 0 0 0 [(0, .int x0), (1, .int x1)] [] M
  replace hq : RetOk Z X (some .boolean) False (PostZ q M) 0 0 := hq
  unfold f_X9_isRound at hf
  refine G.iload_n 0 0 dX9_isRound_0 rfl rfl ?_
  refine G.if_le 1 28 dX9_isRound_1 (by decide) (fun h1 => ?_) (fun h1 => ?_)
  · replace hf := (if_pos h1).symm.trans hf
    refine G.iconst 28 (0 : Int32) dX9_isRound_28 (by decide +kernel) ?_
    (have hf9 := Option.some.inj hf; subst hf9)
    exact G.rZ 29 hq dX9_isRound_29 hs (Or.inl rfl)
  · replace hf := (if_neg h1).symm.trans hf
    refine G.iload_n 4 1 dX9_isRound_4 rfl rfl ?_
    refine G.bipush 5 (100 : Int32) dX9_isRound_5 (by decide +kernel) ?_
    refine G.imul 7 dX9_isRound_7 ?_
    refine G.iload_n 8 0 dX9_isRound_8 rfl rfl ?_
    obtain ⟨g2, hf⟩ := gd_e hf
    refine G.iremJ 9 dX9_isRound_9 g2 ?_
    refine G.if_ne 10 28 dX9_isRound_10 (by decide) (fun h3 => ?_) (fun h3 => ?_)
    · replace hf := (if_neg h3).symm.trans hf
      refine G.iconst 28 (0 : Int32) dX9_isRound_28 (by decide +kernel) ?_
      (have hf9 := Option.some.inj hf; subst hf9)
      exact G.rZ 29 hq dX9_isRound_29 hs (Or.inl rfl)
    · replace hf := (if_pos h3).symm.trans hf
      refine G.iload_n 13 1 dX9_isRound_13 rfl rfl ?_
      refine G.bipush 14 (100 : Int32) dX9_isRound_14 (by decide +kernel) ?_
      refine G.imul 16 dX9_isRound_16 ?_
      refine G.iload_n 17 0 dX9_isRound_17 rfl rfl ?_
      refine G.idiv 18 dX9_isRound_18 g2 ?_
      refine G.iconst 19 (5 : Int32) dX9_isRound_19 (by decide +kernel) ?_
      refine G.iremJ 20 dX9_isRound_20 (by decide +kernel) ?_
      refine G.if_ne 21 28 dX9_isRound_21 (by decide) (fun h4 => ?_) (fun h4 => ?_)
      · replace hf := (if_neg h4).symm.trans hf
        refine G.iconst 28 (0 : Int32) dX9_isRound_28 (by decide +kernel) ?_
        (have hf9 := Option.some.inj hf; subst hf9)
        exact G.rZ 29 hq dX9_isRound_29 hs (Or.inl rfl)
      · replace hf := (if_pos h4).symm.trans hf
        refine G.iconst 24 (1 : Int32) dX9_isRound_24 (by decide +kernel) ?_
        refine G.goto 25 29 dX9_isRound_25 (by decide) ?_
        (have hf9 := Option.some.inj hf; subst hf9)
        exact G.rZ 29 hq dX9_isRound_29 hs (Or.inr rfl)
abbrev Y_X9_weightOf : My := (cX9_weightOf, RX9, 2)
def rm_X9_weightOf : Room := { frames := 2, cells := 0, slots := 0, locals := 222 }
theorem dX9_weightOf_0 : decode cX9_weightOf 0 = .ok (.aload_n 0, 1) := by decide +kernel
theorem dX9_weightOf_1 : decode cX9_weightOf 1 = .ok (.iload_n 1, 1) := by decide +kernel
theorem dX9_weightOf_2 : decode cX9_weightOf 2 = .ok (.bipush 7, 2) := by decide +kernel
theorem dX9_weightOf_4 : decode cX9_weightOf 4 = .ok (.invokevirtual 76, 3) := by decide +kernel
theorem dX9_weightOf_7 : decode cX9_weightOf 7 = .ok (.tableswitch 88 0 6 #[41, 44, 47, 50, 61, 72, 85], 41) := by decide +kernel
theorem dX9_weightOf_48 : decode cX9_weightOf 48 = .ok (.bipush 10, 2) := by decide +kernel
theorem dX9_weightOf_50 : decode cX9_weightOf 50 = .ok (.ireturn, 1) := by decide +kernel
theorem dX9_weightOf_51 : decode cX9_weightOf 51 = .ok (.bipush 11, 2) := by decide +kernel
theorem dX9_weightOf_53 : decode cX9_weightOf 53 = .ok (.ireturn, 1) := by decide +kernel
theorem dX9_weightOf_54 : decode cX9_weightOf 54 = .ok (.bipush 15, 2) := by decide +kernel
theorem dX9_weightOf_56 : decode cX9_weightOf 56 = .ok (.ireturn, 1) := by decide +kernel
theorem dX9_weightOf_57 : decode cX9_weightOf 57 = .ok (.bipush 20, 2) := by decide +kernel
theorem dX9_weightOf_59 : decode cX9_weightOf 59 = .ok (.aload_n 0, 1) := by decide +kernel
theorem dX9_weightOf_60 : decode cX9_weightOf 60 = .ok (.iload_n 1, 1) := by decide +kernel
theorem dX9_weightOf_61 : decode cX9_weightOf 61 = .ok (.bipush 8, 2) := by decide +kernel
theorem dX9_weightOf_63 : decode cX9_weightOf 63 = .ok (.invokevirtual 76, 3) := by decide +kernel
theorem dX9_weightOf_66 : decode cX9_weightOf 66 = .ok (.iadd, 1) := by decide +kernel
theorem dX9_weightOf_67 : decode cX9_weightOf 67 = .ok (.ireturn, 1) := by decide +kernel
theorem dX9_weightOf_68 : decode cX9_weightOf 68 = .ok (.bipush 11, 2) := by decide +kernel
theorem dX9_weightOf_70 : decode cX9_weightOf 70 = .ok (.aload_n 0, 1) := by decide +kernel
theorem dX9_weightOf_71 : decode cX9_weightOf 71 = .ok (.iload_n 1, 1) := by decide +kernel
theorem dX9_weightOf_72 : decode cX9_weightOf 72 = .ok (.bipush 8, 2) := by decide +kernel
theorem dX9_weightOf_74 : decode cX9_weightOf 74 = .ok (.invokevirtual 76, 3) := by decide +kernel
theorem dX9_weightOf_77 : decode cX9_weightOf 77 = .ok (.iadd, 1) := by decide +kernel
theorem dX9_weightOf_78 : decode cX9_weightOf 78 = .ok (.ireturn, 1) := by decide +kernel
theorem dX9_weightOf_79 : decode cX9_weightOf 79 = .ok (.bipush 10, 2) := by decide +kernel
theorem dX9_weightOf_81 : decode cX9_weightOf 81 = .ok (.iconst 2, 1) := by decide +kernel
theorem dX9_weightOf_82 : decode cX9_weightOf 82 = .ok (.aload_n 0, 1) := by decide +kernel
theorem dX9_weightOf_83 : decode cX9_weightOf 83 = .ok (.iload_n 1, 1) := by decide +kernel
theorem dX9_weightOf_84 : decode cX9_weightOf 84 = .ok (.bipush 8, 2) := by decide +kernel
theorem dX9_weightOf_86 : decode cX9_weightOf 86 = .ok (.invokevirtual 76, 3) := by decide +kernel
theorem dX9_weightOf_89 : decode cX9_weightOf 89 = .ok (.imul, 1) := by decide +kernel
theorem dX9_weightOf_90 : decode cX9_weightOf 90 = .ok (.iadd, 1) := by decide +kernel
theorem dX9_weightOf_91 : decode cX9_weightOf 91 = .ok (.ireturn, 1) := by decide +kernel
theorem dX9_weightOf_92 : decode cX9_weightOf 92 = .ok (.bipush 22, 2) := by decide +kernel
theorem dX9_weightOf_94 : decode cX9_weightOf 94 = .ok (.ireturn, 1) := by decide +kernel
theorem dX9_weightOf_95 : decode cX9_weightOf 95 = .ok (.bipush 7, 2) := by decide +kernel
theorem dX9_weightOf_97 : decode cX9_weightOf 97 = .ok (.ireturn, 1) := by decide +kernel
def f_X9_weightOf (x1 : Int32) (M : Mem) : Option Int32 := (f_X9_get x1 (7 : Int32) M).bind fun q3 => if q3 = (0 : Int32) then some (10 : Int32) else if q3 = (1 : Int32) then some (11 : Int32) else if q3 = (2 : Int32) then some (15 : Int32) else if q3 = (3 : Int32) then (f_X9_get x1 (8 : Int32) M).bind fun q11 => some ((20 : Int32) + q11) else if q3 = (4 : Int32) then (f_X9_get x1 (8 : Int32) M).bind fun q16 => some ((11 : Int32) + q16) else if q3 = (5 : Int32) then (f_X9_get x1 (8 : Int32) M).bind fun q21 => some ((10 : Int32) + ((2 : Int32) * q21)) else if q3 = (6 : Int32) then some (22 : Int32) else some (7 : Int32)
set_option maxRecDepth 100000 in
set_option maxHeartbeats 4000000 in
theorem c_X9_weightOf (Z : Sys) {M : Mem} (hs : St M) (x1 : Int32) {q : Int32} (hf : f_X9_weightOf x1 M = some q) : Ct Z yX9_weightOf cX9_weightOf 2 (some .int) rm_X9_weightOf [.ref (zs Z + 284), .int x1] M False (PostI q M) := by
  refine Ct.of (by decide +kernel) (Nat.le_of_ble_eq_true rfl) (fun X hR hq _ => ?_)
  show G Z X Y_X9_weightOf False 0 0 0 [(0, .ref (zs Z + 284)), (1, .int x1)] [] M
  replace hq : RetOk Z X (some .int) False (PostI q M) 0 0 := hq
  unfold f_X9_weightOf at hf
  refine G.aload_n 0 0 dX9_weightOf_0 rfl rfl ?_
  refine G.iload_n 1 1 dX9_weightOf_1 rfl rfl ?_
  refine G.bipush 2 (7 : Int32) dX9_weightOf_2 (by decide +kernel) ?_
  obtain ⟨q3, e4, hf⟩ := bd_e hf
  refine G.cvI 4 (As := [.int x1, .int (7 : Int32)]) ck_9 (hs.k k0_284) (c_X9_get Z hs x1 (7 : Int32) e4) mk_X9_get vk_X9_get rfl wd_1411 hR (by decide +kernel) ⟨rfl, rfl⟩ rfl (Nat.le_of_ble_eq_true rfl) dX9_weightOf_4 (fun hs1 => ?_)
  by_cases h5 : q3 = (0 : Int32)
  · replace hf := (if_pos h5).symm.trans hf
    refine G.tableIn 7 48 (off := 41) dX9_weightOf_7 (by rw [h5]; decide +kernel) (by rw [h5]; decide +kernel) (by rw [h5]; decide +kernel) (by decide) ?_
    refine G.bipush 48 (10 : Int32) dX9_weightOf_48 (by decide +kernel) ?_
    (have hf9 := Option.some.inj hf; subst hf9)
    exact G.rI 50 hq dX9_weightOf_50 hs1
  · replace hf := (if_neg h5).symm.trans hf
    by_cases h6 : q3 = (1 : Int32)
    · replace hf := (if_pos h6).symm.trans hf
      refine G.tableIn 7 51 (off := 44) dX9_weightOf_7 (by rw [h6]; decide +kernel) (by rw [h6]; decide +kernel) (by rw [h6]; decide +kernel) (by decide) ?_
      refine G.bipush 51 (11 : Int32) dX9_weightOf_51 (by decide +kernel) ?_
      (have hf9 := Option.some.inj hf; subst hf9)
      exact G.rI 53 hq dX9_weightOf_53 hs1
    · replace hf := (if_neg h6).symm.trans hf
      by_cases h7 : q3 = (2 : Int32)
      · replace hf := (if_pos h7).symm.trans hf
        refine G.tableIn 7 54 (off := 47) dX9_weightOf_7 (by rw [h7]; decide +kernel) (by rw [h7]; decide +kernel) (by rw [h7]; decide +kernel) (by decide) ?_
        refine G.bipush 54 (15 : Int32) dX9_weightOf_54 (by decide +kernel) ?_
        (have hf9 := Option.some.inj hf; subst hf9)
        exact G.rI 56 hq dX9_weightOf_56 hs1
      · replace hf := (if_neg h7).symm.trans hf
        by_cases h8 : q3 = (3 : Int32)
        · replace hf := (if_pos h8).symm.trans hf
          refine G.tableIn 7 57 (off := 50) dX9_weightOf_7 (by rw [h8]; decide +kernel) (by rw [h8]; decide +kernel) (by rw [h8]; decide +kernel) (by decide) ?_
          refine G.bipush 57 (20 : Int32) dX9_weightOf_57 (by decide +kernel) ?_
          refine G.aload_n 59 0 dX9_weightOf_59 rfl rfl ?_
          refine G.iload_n 60 1 dX9_weightOf_60 rfl rfl ?_
          refine G.bipush 61 (8 : Int32) dX9_weightOf_61 (by decide +kernel) ?_
          obtain ⟨q11, e12, hf⟩ := bd_e hf
          refine G.cvI 63 (As := [.int x1, .int (8 : Int32)]) ck_9 (hs1.k k0_284) (c_X9_get Z hs1 x1 (8 : Int32) e12) mk_X9_get vk_X9_get rfl wd_1411 hR (by decide +kernel) ⟨rfl, rfl⟩ rfl (Nat.le_of_ble_eq_true rfl) dX9_weightOf_63 (fun hs9 => ?_)
          refine G.iadd 66 dX9_weightOf_66 ?_
          (have hf9 := Option.some.inj hf; subst hf9)
          exact G.rI 67 hq dX9_weightOf_67 hs9
        · replace hf := (if_neg h8).symm.trans hf
          by_cases h13 : q3 = (4 : Int32)
          · replace hf := (if_pos h13).symm.trans hf
            refine G.tableIn 7 68 (off := 61) dX9_weightOf_7 (by rw [h13]; decide +kernel) (by rw [h13]; decide +kernel) (by rw [h13]; decide +kernel) (by decide) ?_
            refine G.bipush 68 (11 : Int32) dX9_weightOf_68 (by decide +kernel) ?_
            refine G.aload_n 70 0 dX9_weightOf_70 rfl rfl ?_
            refine G.iload_n 71 1 dX9_weightOf_71 rfl rfl ?_
            refine G.bipush 72 (8 : Int32) dX9_weightOf_72 (by decide +kernel) ?_
            obtain ⟨q16, e17, hf⟩ := bd_e hf
            refine G.cvI 74 (As := [.int x1, .int (8 : Int32)]) ck_9 (hs1.k k0_284) (c_X9_get Z hs1 x1 (8 : Int32) e17) mk_X9_get vk_X9_get rfl wd_1411 hR (by decide +kernel) ⟨rfl, rfl⟩ rfl (Nat.le_of_ble_eq_true rfl) dX9_weightOf_74 (fun hs14 => ?_)
            refine G.iadd 77 dX9_weightOf_77 ?_
            (have hf9 := Option.some.inj hf; subst hf9)
            exact G.rI 78 hq dX9_weightOf_78 hs14
          · replace hf := (if_neg h13).symm.trans hf
            by_cases h18 : q3 = (5 : Int32)
            · replace hf := (if_pos h18).symm.trans hf
              refine G.tableIn 7 79 (off := 72) dX9_weightOf_7 (by rw [h18]; decide +kernel) (by rw [h18]; decide +kernel) (by rw [h18]; decide +kernel) (by decide) ?_
              refine G.bipush 79 (10 : Int32) dX9_weightOf_79 (by decide +kernel) ?_
              refine G.iconst 81 (2 : Int32) dX9_weightOf_81 (by decide +kernel) ?_
              refine G.aload_n 82 0 dX9_weightOf_82 rfl rfl ?_
              refine G.iload_n 83 1 dX9_weightOf_83 rfl rfl ?_
              refine G.bipush 84 (8 : Int32) dX9_weightOf_84 (by decide +kernel) ?_
              obtain ⟨q21, e22, hf⟩ := bd_e hf
              refine G.cvI 86 (As := [.int x1, .int (8 : Int32)]) ck_9 (hs1.k k0_284) (c_X9_get Z hs1 x1 (8 : Int32) e22) mk_X9_get vk_X9_get rfl wd_1411 hR (by decide +kernel) ⟨rfl, rfl⟩ rfl (Nat.le_of_ble_eq_true rfl) dX9_weightOf_86 (fun hs19 => ?_)
              refine G.imul 89 dX9_weightOf_89 ?_
              refine G.iadd 90 dX9_weightOf_90 ?_
              (have hf9 := Option.some.inj hf; subst hf9)
              exact G.rI 91 hq dX9_weightOf_91 hs19
            · replace hf := (if_neg h18).symm.trans hf
              by_cases h23 : q3 = (6 : Int32)
              · replace hf := (if_pos h23).symm.trans hf
                refine G.tableIn 7 92 (off := 85) dX9_weightOf_7 (by rw [h23]; decide +kernel) (by rw [h23]; decide +kernel) (by rw [h23]; decide +kernel) (by decide) ?_
                refine G.bipush 92 (22 : Int32) dX9_weightOf_92 (by decide +kernel) ?_
                (have hf9 := Option.some.inj hf; subst hf9)
                exact G.rI 94 hq dX9_weightOf_94 hs1
              · replace hf := (if_neg h23).symm.trans hf
                have t_h5 := ti (0 : Int32) (0) (by decide +kernel) h5
                have t_h6 := ti (1 : Int32) (1) (by decide +kernel) h6
                have t_h7 := ti (2 : Int32) (2) (by decide +kernel) h7
                have t_h8 := ti (3 : Int32) (3) (by decide +kernel) h8
                have t_h13 := ti (4 : Int32) (4) (by decide +kernel) h13
                have t_h18 := ti (5 : Int32) (5) (by decide +kernel) h18
                have t_h23 := ti (6 : Int32) (6) (by decide +kernel) h23
                refine G.tableOut 7 95 dX9_weightOf_7 (by omega) (by decide) ?_
                refine G.bipush 95 (7 : Int32) dX9_weightOf_95 (by decide +kernel) ?_
                (have hf9 := Option.some.inj hf; subst hf9)
                exact G.rI 97 hq dX9_weightOf_97 hs1
abbrev Y_X9_keep : My := (cX9_keep, RX9, 5)
def rm_X9_keep : Room := { frames := 3, cells := 0, slots := 0, locals := 246 }
theorem dX9_keep_0 : decode cX9_keep 0 = .ok (.iload_n 1, 1) := by decide +kernel
theorem dX9_keep_1 : decode cX9_keep 1 = .ok (.invokestatic 111, 3) := by decide +kernel
theorem dX9_keep_4 : decode cX9_keep 4 = .ok (.ifCond .eq 26, 3) := by decide +kernel
theorem dX9_keep_7 : decode cX9_keep 7 = .ok (.iload_n 2, 1) := by decide +kernel
theorem dX9_keep_8 : decode cX9_keep 8 = .ok (.i2l, 1) := by decide +kernel
theorem dX9_keep_9 : decode cX9_keep 9 = .ok (.lconst 0, 1) := by decide +kernel
theorem dX9_keep_10 : decode cX9_keep 10 = .ok (.lconst 1, 1) := by decide +kernel
theorem dX9_keep_11 : decode cX9_keep 11 = .ok (.invokestatic 62, 3) := by decide +kernel
theorem dX9_keep_14 : decode cX9_keep 14 = .ok (.ifCond .eq 16, 3) := by decide +kernel
theorem dX9_keep_17 : decode cX9_keep 17 = .ok (.iload_n 2, 1) := by decide +kernel
theorem dX9_keep_18 : decode cX9_keep 18 = .ok (.iconst 1, 1) := by decide +kernel
theorem dX9_keep_19 : decode cX9_keep 19 = .ok (.if_icmp .ne 13, 3) := by decide +kernel
theorem dX9_keep_22 : decode cX9_keep 22 = .ok (.aload_n 0, 1) := by decide +kernel
theorem dX9_keep_23 : decode cX9_keep 23 = .ok (.iload_n 3, 1) := by decide +kernel
theorem dX9_keep_24 : decode cX9_keep 24 = .ok (.invokevirtual 72, 3) := by decide +kernel
theorem dX9_keep_27 : decode cX9_keep 27 = .ok (.ifCond .ne 5, 3) := by decide +kernel
theorem dX9_keep_30 : decode cX9_keep 30 = .ok (.iconst (-1), 1) := by decide +kernel
theorem dX9_keep_31 : decode cX9_keep 31 = .ok (.ireturn, 1) := by decide +kernel
theorem dX9_keep_32 : decode cX9_keep 32 = .ok (.aload_n 0, 1) := by decide +kernel
theorem dX9_keep_33 : decode cX9_keep 33 = .ok (.getfield 16, 3) := by decide +kernel
theorem dX9_keep_36 : decode cX9_keep 36 = .ok (.iload_n 1, 1) := by decide +kernel
theorem dX9_keep_37 : decode cX9_keep 37 = .ok (.iload_n 2, 1) := by decide +kernel
theorem dX9_keep_38 : decode cX9_keep 38 = .ok (.iastore, 1) := by decide +kernel
theorem dX9_keep_39 : decode cX9_keep 39 = .ok (.iload_n 2, 1) := by decide +kernel
theorem dX9_keep_40 : decode cX9_keep 40 = .ok (.ifCond .ne 5, 3) := by decide +kernel
theorem dX9_keep_43 : decode cX9_keep 43 = .ok (.iconst 0, 1) := by decide +kernel
theorem dX9_keep_44 : decode cX9_keep 44 = .ok (.ireturn, 1) := by decide +kernel
theorem dX9_keep_45 : decode cX9_keep 45 = .ok (.aload_n 0, 1) := by decide +kernel
theorem dX9_keep_46 : decode cX9_keep 46 = .ok (.iload_n 3, 1) := by decide +kernel
theorem dX9_keep_47 : decode cX9_keep 47 = .ok (.bipush 7, 2) := by decide +kernel
theorem dX9_keep_49 : decode cX9_keep 49 = .ok (.invokevirtual 76, 3) := by decide +kernel
theorem dX9_keep_52 : decode cX9_keep 52 = .ok (.istore 4, 2) := by decide +kernel
theorem dX9_keep_54 : decode cX9_keep 54 = .ok (.aload_n 0, 1) := by decide +kernel
theorem dX9_keep_55 : decode cX9_keep 55 = .ok (.getfield 28, 3) := by decide +kernel
theorem dX9_keep_58 : decode cX9_keep 58 = .ok (.iload_n 1, 1) := by decide +kernel
theorem dX9_keep_59 : decode cX9_keep 59 = .ok (.aload_n 0, 1) := by decide +kernel
theorem dX9_keep_60 : decode cX9_keep 60 = .ok (.iload_n 3, 1) := by decide +kernel
theorem dX9_keep_61 : decode cX9_keep 61 = .ok (.invokevirtual 296, 3) := by decide +kernel
theorem dX9_keep_64 : decode cX9_keep 64 = .ok (.iastore, 1) := by decide +kernel
theorem dX9_keep_65 : decode cX9_keep 65 = .ok (.aload_n 0, 1) := by decide +kernel
theorem dX9_keep_66 : decode cX9_keep 66 = .ok (.getfield 31, 3) := by decide +kernel
theorem dX9_keep_69 : decode cX9_keep 69 = .ok (.iload_n 1, 1) := by decide +kernel
theorem dX9_keep_70 : decode cX9_keep 70 = .ok (.iload 4, 2) := by decide +kernel
theorem dX9_keep_72 : decode cX9_keep 72 = .ok (.bipush 6, 2) := by decide +kernel
theorem dX9_keep_74 : decode cX9_keep 74 = .ok (.if_icmp .eq 12, 3) := by decide +kernel
theorem dX9_keep_77 : decode cX9_keep 77 = .ok (.aload_n 0, 1) := by decide +kernel
theorem dX9_keep_78 : decode cX9_keep 78 = .ok (.iload_n 3, 1) := by decide +kernel
theorem dX9_keep_79 : decode cX9_keep 79 = .ok (.iconst 5, 1) := by decide +kernel
theorem dX9_keep_80 : decode cX9_keep 80 = .ok (.invokevirtual 76, 3) := by decide +kernel
theorem dX9_keep_83 : decode cX9_keep 83 = .ok (.ifCond .ne 8, 3) := by decide +kernel
theorem dX9_keep_86 : decode cX9_keep 86 = .ok (.bipush (-15), 2) := by decide +kernel
theorem dX9_keep_88 : decode cX9_keep 88 = .ok (.goto 48, 3) := by decide +kernel
theorem dX9_keep_91 : decode cX9_keep 91 = .ok (.iload 4, 2) := by decide +kernel
theorem dX9_keep_93 : decode cX9_keep 93 = .ok (.iconst 4, 1) := by decide +kernel
theorem dX9_keep_94 : decode cX9_keep 94 = .ok (.if_icmp .ne 10, 3) := by decide +kernel
theorem dX9_keep_97 : decode cX9_keep 97 = .ok (.iload_n 3, 1) := by decide +kernel
theorem dX9_keep_98 : decode cX9_keep 98 = .ok (.bipush 100, 2) := by decide +kernel
theorem dX9_keep_100 : decode cX9_keep 100 = .ok (.iadd, 1) := by decide +kernel
theorem dX9_keep_101 : decode cX9_keep 101 = .ok (.goto 35, 3) := by decide +kernel
theorem dX9_keep_104 : decode cX9_keep 104 = .ok (.iload 4, 2) := by decide +kernel
theorem dX9_keep_106 : decode cX9_keep 106 = .ok (.bipush 7, 2) := by decide +kernel
theorem dX9_keep_108 : decode cX9_keep 108 = .ok (.if_icmp .ne 11, 3) := by decide +kernel
theorem dX9_keep_111 : decode cX9_keep 111 = .ok (.iload_n 3, 1) := by decide +kernel
theorem dX9_keep_112 : decode cX9_keep 112 = .ok (.sipush 200, 3) := by decide +kernel
theorem dX9_keep_115 : decode cX9_keep 115 = .ok (.iadd, 1) := by decide +kernel
theorem dX9_keep_116 : decode cX9_keep 116 = .ok (.goto 20, 3) := by decide +kernel
theorem dX9_keep_119 : decode cX9_keep 119 = .ok (.iload 4, 2) := by decide +kernel
theorem dX9_keep_121 : decode cX9_keep 121 = .ok (.iconst 3, 1) := by decide +kernel
theorem dX9_keep_122 : decode cX9_keep 122 = .ok (.if_icmp .ne 13, 3) := by decide +kernel
theorem dX9_keep_125 : decode cX9_keep 125 = .ok (.aload_n 0, 1) := by decide +kernel
theorem dX9_keep_126 : decode cX9_keep 126 = .ok (.iload_n 3, 1) := by decide +kernel
theorem dX9_keep_127 : decode cX9_keep 127 = .ok (.bipush 8, 2) := by decide +kernel
theorem dX9_keep_129 : decode cX9_keep 129 = .ok (.invokevirtual 76, 3) := by decide +kernel
theorem dX9_keep_132 : decode cX9_keep 132 = .ok (.goto 4, 3) := by decide +kernel
theorem dX9_keep_135 : decode cX9_keep 135 = .ok (.iload_n 3, 1) := by decide +kernel
theorem dX9_keep_136 : decode cX9_keep 136 = .ok (.iastore, 1) := by decide +kernel
theorem dX9_keep_137 : decode cX9_keep 137 = .ok (.iconst 0, 1) := by decide +kernel
theorem dX9_keep_138 : decode cX9_keep 138 = .ok (.ireturn, 1) := by decide +kernel
def B_X9_keep_32 (x1 : Int32) (x2 : Int32) (x3 : Int32) (M : Mem) : Option (Int32 × Mem) := gd (inR x1 8) (if x2 = 0 then some ((0 : Int32), (sI M 287 x1.toNatClampNeg x2)) else (f_X9_get x3 (7 : Int32) (sI M 287 x1.toNatClampNeg x2)).bind fun q12 => (f_X9_weightOf x3 (sI M 287 x1.toNatClampNeg x2)).bind fun q16 => if q12 = (6 : Int32) then some ((0 : Int32), (sI (sI (sI M 287 x1.toNatClampNeg x2) 291 x1.toNatClampNeg q16) 292 x1.toNatClampNeg (-15 : Int32))) else (f_X9_get x3 (5 : Int32) (sI (sI M 287 x1.toNatClampNeg x2) 291 x1.toNatClampNeg q16)).bind fun q21 => if q21 = 0 then some ((0 : Int32), (sI (sI (sI M 287 x1.toNatClampNeg x2) 291 x1.toNatClampNeg q16) 292 x1.toNatClampNeg (-15 : Int32))) else if q12 = (4 : Int32) then some ((0 : Int32), (sI (sI (sI M 287 x1.toNatClampNeg x2) 291 x1.toNatClampNeg q16) 292 x1.toNatClampNeg (x3 + (100 : Int32)))) else if q12 = (7 : Int32) then some ((0 : Int32), (sI (sI (sI M 287 x1.toNatClampNeg x2) 291 x1.toNatClampNeg q16) 292 x1.toNatClampNeg (x3 + (200 : Int32)))) else if q12 = (3 : Int32) then (f_X9_get x3 (8 : Int32) (sI (sI M 287 x1.toNatClampNeg x2) 291 x1.toNatClampNeg q16)).bind fun q29 => some ((0 : Int32), (sI (sI (sI M 287 x1.toNatClampNeg x2) 291 x1.toNatClampNeg q16) 292 x1.toNatClampNeg q29)) else some ((0 : Int32), (sI (sI (sI M 287 x1.toNatClampNeg x2) 291 x1.toNatClampNeg q16) 292 x1.toNatClampNeg x3)))
def f_X9_keep (x1 : Int32) (x2 : Int32) (x3 : Int32) (M : Mem) : Option (Int32 × Mem) := if (f_X9_isShelf x1) = 0 then some ((-1 : Int32), M) else if (f_X9_isIn x2.toInt64 (0 : Int64) (1 : Int64)) = 0 then some ((-1 : Int32), M) else if x2 = (1 : Int32) then if (f_X9_isHall x3 M) = 0 then some ((-1 : Int32), M) else B_X9_keep_32 x1 x2 x3 M else B_X9_keep_32 x1 x2 x3 M
set_option maxRecDepth 100000 in
set_option maxHeartbeats 4000000 in
theorem b_X9_keep_32 (Z : Sys) (X : Cx) (hR : xR X = rm_X9_keep) {q : Int32 × Mem} (hq : RetOk Z X (some .int) False (PostI q.1 q.2) 0 0) (x1 : Int32) (x2 : Int32) (x3 : Int32) {M : Mem} (hs : St M) (hf : B_X9_keep_32 x1 x2 x3 M = some q) : G Z X Y_X9_keep False 0 0 32 [(0, .ref (zs Z + 284)), (1, .int x1), (2, .int x2), (3, .int x3)] [] M := by
  unfold B_X9_keep_32 at hf
  refine G.aload_n 32 0 dX9_keep_32 rfl rfl ?_
  refine G.getp 33 ck_9 2 287 (hs.k k0_284) (pc_9_2 hs) (by decide) (by decide +kernel) wd_1307 dX9_keep_33 ?_
  refine G.iload_n 36 1 dX9_keep_36 rfl rfl ?_
  refine G.iload_n 37 2 dX9_keep_37 rfl rfl ?_
  obtain ⟨g8, hf⟩ := gd_e hf
  refine G.ist 38 x1.toNatClampNeg (hs.k k0_287) g8 rfl dX9_keep_38 ?_
  refine G.iload_n 39 2 dX9_keep_39 rfl rfl ?_
  refine G.if_ne 40 45 dX9_keep_40 (by decide) (fun h9 => ?_) (fun h9 => ?_)
  · replace hf := (if_neg h9).symm.trans hf
    refine G.aload_n 45 0 dX9_keep_45 rfl rfl ?_
    refine G.iload_n 46 3 dX9_keep_46 rfl rfl ?_
    refine G.bipush 47 (7 : Int32) dX9_keep_47 (by decide +kernel) ?_
    obtain ⟨q12, e13, hf⟩ := bd_e hf
    refine G.cvI 49 (As := [.int x3, .int (7 : Int32)]) ck_9 ((St.i hs).k k0_284) (c_X9_get Z (St.i hs) x3 (7 : Int32) e13) mk_X9_get vk_X9_get rfl wd_1411 hR (by decide +kernel) ⟨rfl, rfl⟩ rfl (Nat.le_of_ble_eq_true rfl) dX9_keep_49 (fun hs10 => ?_)
    refine G.istore 52 [(4, .int q12), (0, .ref (zs Z + 284)), (1, .int x1), (2, .int x2), (3, .int x3)] dX9_keep_52 (Nat.le_of_ble_eq_true rfl) rfl ?_
    refine G.aload_n 54 1 dX9_keep_54 rfl rfl ?_
    refine G.getp 55 ck_9 6 291 (hs10.k k0_284) (pc_9_6 hs10) (by decide) (by decide +kernel) wd_1311 dX9_keep_55 ?_
    refine G.iload_n 58 2 dX9_keep_58 rfl rfl ?_
    refine G.aload_n 59 1 dX9_keep_59 rfl rfl ?_
    refine G.iload_n 60 4 dX9_keep_60 rfl rfl ?_
    obtain ⟨q16, e17, hf⟩ := bd_e hf
    refine G.cvI 61 (As := [.int x3]) ck_9 (hs10.k k0_284) (c_X9_weightOf Z hs10 x3 e17) mk_X9_weightOf vk_X9_weightOf rfl wd_1751 hR (by decide +kernel) ⟨rfl, rfl⟩ rfl (Nat.le_of_ble_eq_true rfl) dX9_keep_61 (fun hs14 => ?_)
    refine G.ist 64 x1.toNatClampNeg (hs14.k k0_291) g8 rfl dX9_keep_64 ?_
    refine G.aload_n 65 1 dX9_keep_65 rfl rfl ?_
    refine G.getp 66 ck_9 7 292 ((St.i hs14).k k0_284) (pc_9_7 (St.i hs14)) (by decide) (by decide +kernel) wd_1312 dX9_keep_66 ?_
    refine G.iload_n 69 2 dX9_keep_69 rfl rfl ?_
    refine G.iload 70 0 dX9_keep_70 rfl ?_
    refine G.bipush 72 (6 : Int32) dX9_keep_72 (by decide +kernel) ?_
    refine G.icmp_eq 74 86 dX9_keep_74 (by decide) (fun h18 => ?_) (fun h18 => ?_)
    · replace hf := (if_pos h18).symm.trans hf
      refine G.bipush 86 (-15 : Int32) dX9_keep_86 (by decide +kernel) ?_
      refine G.goto 88 136 dX9_keep_88 (by decide) ?_
      refine G.ist 136 x1.toNatClampNeg ((St.i hs14).k k0_292) g8 rfl dX9_keep_136 ?_
      refine G.iconst 137 (0 : Int32) dX9_keep_137 (by decide +kernel) ?_
      (have hf9 := Option.some.inj hf; subst hf9)
      exact G.rI 138 hq dX9_keep_138 (St.i (St.i hs14))
    · replace hf := (if_neg h18).symm.trans hf
      refine G.aload_n 77 1 dX9_keep_77 rfl rfl ?_
      refine G.iload_n 78 4 dX9_keep_78 rfl rfl ?_
      refine G.iconst 79 (5 : Int32) dX9_keep_79 (by decide +kernel) ?_
      obtain ⟨q21, e22, hf⟩ := bd_e hf
      refine G.cvI 80 (As := [.int x3, .int (5 : Int32)]) ck_9 ((St.i hs14).k k0_284) (c_X9_get Z (St.i hs14) x3 (5 : Int32) e22) mk_X9_get vk_X9_get rfl wd_1411 hR (by decide +kernel) ⟨rfl, rfl⟩ rfl (Nat.le_of_ble_eq_true rfl) dX9_keep_80 (fun hs19 => ?_)
      refine G.if_ne 83 91 dX9_keep_83 (by decide) (fun h23 => ?_) (fun h23 => ?_)
      · replace hf := (if_neg h23).symm.trans hf
        refine G.iload 91 0 dX9_keep_91 rfl ?_
        refine G.iconst 93 (4 : Int32) dX9_keep_93 (by decide +kernel) ?_
        refine G.icmp_ne 94 104 dX9_keep_94 (by decide) (fun h24 => ?_) (fun h24 => ?_)
        · replace hf := (if_neg h24).symm.trans hf
          refine G.iload 104 0 dX9_keep_104 rfl ?_
          refine G.bipush 106 (7 : Int32) dX9_keep_106 (by decide +kernel) ?_
          refine G.icmp_ne 108 119 dX9_keep_108 (by decide) (fun h25 => ?_) (fun h25 => ?_)
          · replace hf := (if_neg h25).symm.trans hf
            refine G.iload 119 0 dX9_keep_119 rfl ?_
            refine G.iconst 121 (3 : Int32) dX9_keep_121 (by decide +kernel) ?_
            refine G.icmp_ne 122 135 dX9_keep_122 (by decide) (fun h26 => ?_) (fun h26 => ?_)
            · replace hf := (if_neg h26).symm.trans hf
              refine G.iload_n 135 4 dX9_keep_135 rfl rfl ?_
              refine G.ist 136 x1.toNatClampNeg (hs19.k k0_292) g8 rfl dX9_keep_136 ?_
              refine G.iconst 137 (0 : Int32) dX9_keep_137 (by decide +kernel) ?_
              (have hf9 := Option.some.inj hf; subst hf9)
              exact G.rI 138 hq dX9_keep_138 (St.i hs19)
            · replace hf := (if_pos h26).symm.trans hf
              refine G.aload_n 125 1 dX9_keep_125 rfl rfl ?_
              refine G.iload_n 126 4 dX9_keep_126 rfl rfl ?_
              refine G.bipush 127 (8 : Int32) dX9_keep_127 (by decide +kernel) ?_
              obtain ⟨q29, e30, hf⟩ := bd_e hf
              refine G.cvI 129 (As := [.int x3, .int (8 : Int32)]) ck_9 (hs19.k k0_284) (c_X9_get Z hs19 x3 (8 : Int32) e30) mk_X9_get vk_X9_get rfl wd_1411 hR (by decide +kernel) ⟨rfl, rfl⟩ rfl (Nat.le_of_ble_eq_true rfl) dX9_keep_129 (fun hs27 => ?_)
              refine G.goto 132 136 dX9_keep_132 (by decide) ?_
              refine G.ist 136 x1.toNatClampNeg (hs27.k k0_292) g8 rfl dX9_keep_136 ?_
              refine G.iconst 137 (0 : Int32) dX9_keep_137 (by decide +kernel) ?_
              (have hf9 := Option.some.inj hf; subst hf9)
              exact G.rI 138 hq dX9_keep_138 (St.i hs27)
          · replace hf := (if_pos h25).symm.trans hf
            refine G.iload_n 111 4 dX9_keep_111 rfl rfl ?_
            refine G.sipush 112 (200 : Int32) dX9_keep_112 (by decide +kernel) ?_
            refine G.iadd 115 dX9_keep_115 ?_
            refine G.goto 116 136 dX9_keep_116 (by decide) ?_
            refine G.ist 136 x1.toNatClampNeg (hs19.k k0_292) g8 rfl dX9_keep_136 ?_
            refine G.iconst 137 (0 : Int32) dX9_keep_137 (by decide +kernel) ?_
            (have hf9 := Option.some.inj hf; subst hf9)
            exact G.rI 138 hq dX9_keep_138 (St.i hs19)
        · replace hf := (if_pos h24).symm.trans hf
          refine G.iload_n 97 4 dX9_keep_97 rfl rfl ?_
          refine G.bipush 98 (100 : Int32) dX9_keep_98 (by decide +kernel) ?_
          refine G.iadd 100 dX9_keep_100 ?_
          refine G.goto 101 136 dX9_keep_101 (by decide) ?_
          refine G.ist 136 x1.toNatClampNeg (hs19.k k0_292) g8 rfl dX9_keep_136 ?_
          refine G.iconst 137 (0 : Int32) dX9_keep_137 (by decide +kernel) ?_
          (have hf9 := Option.some.inj hf; subst hf9)
          exact G.rI 138 hq dX9_keep_138 (St.i hs19)
      · replace hf := (if_pos h23).symm.trans hf
        refine G.bipush 86 (-15 : Int32) dX9_keep_86 (by decide +kernel) ?_
        refine G.goto 88 136 dX9_keep_88 (by decide) ?_
        refine G.ist 136 x1.toNatClampNeg (hs19.k k0_292) g8 rfl dX9_keep_136 ?_
        refine G.iconst 137 (0 : Int32) dX9_keep_137 (by decide +kernel) ?_
        (have hf9 := Option.some.inj hf; subst hf9)
        exact G.rI 138 hq dX9_keep_138 (St.i hs19)
  · replace hf := (if_pos h9).symm.trans hf
    refine G.iconst 43 (0 : Int32) dX9_keep_43 (by decide +kernel) ?_
    (have hf9 := Option.some.inj hf; subst hf9)
    exact G.rI 44 hq dX9_keep_44 (St.i hs)
set_option maxRecDepth 100000 in
set_option maxHeartbeats 4000000 in
theorem c_X9_keep (Z : Sys) {M : Mem} (hs : St M) (x1 : Int32) (x2 : Int32) (x3 : Int32) {q : Int32 × Mem} (hf : f_X9_keep x1 x2 x3 M = some q) : Ct Z yX9_keep cX9_keep 5 (some .int) rm_X9_keep [.ref (zs Z + 284), .int x1, .int x2, .int x3] M False (PostI q.1 q.2) := by
  refine Ct.of (by decide +kernel) (Nat.le_of_ble_eq_true rfl) (fun X hR hq _ => ?_)
  show G Z X Y_X9_keep False 0 0 0 [(0, .ref (zs Z + 284)), (1, .int x1), (2, .int x2), (3, .int x3)] [] M
  replace hq : RetOk Z X (some .int) False (PostI q.1 q.2) 0 0 := hq
  unfold f_X9_keep at hf
  refine G.iload_n 0 1 dX9_keep_0 rfl rfl ?_
  refine G.csZ 1 (As := [.int x1]) (c_X9_isShelf Z hs x1 rfl) mk_X9_isShelf wd_1470 wd_1469 hR (by decide +kernel) ⟨rfl, rfl⟩ rfl (Nat.le_of_ble_eq_true rfl) dX9_keep_1 (fun hs1 z2 => ?_)
  refine G.if_eq 4 30 dX9_keep_4 (by decide) (fun h3 => ?_) (fun h3 => ?_)
  · replace hf := (if_pos h3).symm.trans hf
    refine G.iconst 30 (-1 : Int32) dX9_keep_30 (by decide +kernel) ?_
    (have hf9 := Option.some.inj hf; subst hf9)
    exact G.rI 31 hq dX9_keep_31 hs1
  · replace hf := (if_neg h3).symm.trans hf
    refine G.iload_n 7 2 dX9_keep_7 rfl rfl ?_
    refine G.i2l 8 dX9_keep_8 ?_
    refine G.lconst 9 (0 : Int64) dX9_keep_9 (by decide +kernel) ?_
    refine G.lconst 10 (1 : Int64) dX9_keep_10 (by decide +kernel) ?_
    refine G.csZ 11 (As := [.long x2.toInt64, .long (0 : Int64), .long (1 : Int64)]) (c_X9_isIn Z hs1 x2.toInt64 (0 : Int64) (1 : Int64) rfl) mk_X9_isIn wd_1400 wd_1399 hR (by decide +kernel) ⟨rfl, rfl⟩ rfl (Nat.le_of_ble_eq_true rfl) dX9_keep_11 (fun hs4 z5 => ?_)
    refine G.if_eq 14 30 dX9_keep_14 (by decide) (fun h6 => ?_) (fun h6 => ?_)
    · replace hf := (if_pos h6).symm.trans hf
      refine G.iconst 30 (-1 : Int32) dX9_keep_30 (by decide +kernel) ?_
      (have hf9 := Option.some.inj hf; subst hf9)
      exact G.rI 31 hq dX9_keep_31 hs4
    · replace hf := (if_neg h6).symm.trans hf
      refine G.iload_n 17 2 dX9_keep_17 rfl rfl ?_
      refine G.iconst 18 (1 : Int32) dX9_keep_18 (by decide +kernel) ?_
      refine G.icmp_ne 19 32 dX9_keep_19 (by decide) (fun h7 => ?_) (fun h7 => ?_)
      · replace hf := (if_neg h7).symm.trans hf
        exact b_X9_keep_32 Z X hR hq x1 x2 x3 hs4 hf
      · replace hf := (if_pos h7).symm.trans hf
        refine G.aload_n 22 0 dX9_keep_22 rfl rfl ?_
        refine G.iload_n 23 3 dX9_keep_23 rfl rfl ?_
        refine G.cvZ 24 (As := [.int x3]) ck_9 (hs4.k k0_284) (c_X9_isHall Z hs4 x3 rfl) mk_X9_isHall vk_X9_isHall rfl wd_1407 hR (by decide +kernel) ⟨rfl, rfl⟩ rfl (Nat.le_of_ble_eq_true rfl) dX9_keep_24 (fun hs31 z32 => ?_)
        refine G.if_ne 27 32 dX9_keep_27 (by decide) (fun h33 => ?_) (fun h33 => ?_)
        · replace hf := (if_neg h33).symm.trans hf
          exact b_X9_keep_32 Z X hR hq x1 x2 x3 hs31 hf
        · replace hf := (if_pos h33).symm.trans hf
          refine G.iconst 30 (-1 : Int32) dX9_keep_30 (by decide +kernel) ?_
          (have hf9 := Option.some.inj hf; subst hf9)
          exact G.rI 31 hq dX9_keep_31 hs31
abbrev Y_X9_makes : My := (cX9_makes, RX9, 3)
def rm_X9_makes : Room := { frames := 3, cells := 0, slots := 0, locals := 243 }
theorem dX9_makes_0 : decode cX9_makes 0 = .ok (.aload_n 0, 1) := by decide +kernel
theorem dX9_makes_1 : decode cX9_makes 1 = .ok (.iload_n 1, 1) := by decide +kernel
theorem dX9_makes_2 : decode cX9_makes 2 = .ok (.putfield 206, 3) := by decide +kernel
theorem dX9_makes_5 : decode cX9_makes 5 = .ok (.iconst 0, 1) := by decide +kernel
theorem dX9_makes_6 : decode cX9_makes 6 = .ok (.istore_n 2, 1) := by decide +kernel
theorem dX9_makes_7 : decode cX9_makes 7 = .ok (.iload_n 2, 1) := by decide +kernel
theorem dX9_makes_8 : decode cX9_makes 8 = .ok (.aload_n 0, 1) := by decide +kernel
theorem dX9_makes_9 : decode cX9_makes 9 = .ok (.getfield 9, 3) := by decide +kernel
theorem dX9_makes_12 : decode cX9_makes 12 = .ok (.sipush 1192, 3) := by decide +kernel
theorem dX9_makes_15 : decode cX9_makes 15 = .ok (.iaload, 1) := by decide +kernel
theorem dX9_makes_16 : decode cX9_makes 16 = .ok (.if_icmp .ge 79, 3) := by decide +kernel
theorem dX9_makes_19 : decode cX9_makes 19 = .ok (.aload_n 0, 1) := by decide +kernel
theorem dX9_makes_20 : decode cX9_makes 20 = .ok (.getfield 43, 3) := by decide +kernel
theorem dX9_makes_23 : decode cX9_makes 23 = .ok (.iload_n 2, 1) := by decide +kernel
theorem dX9_makes_24 : decode cX9_makes 24 = .ok (.aload_n 0, 1) := by decide +kernel
theorem dX9_makes_25 : decode cX9_makes 25 = .ok (.iload_n 2, 1) := by decide +kernel
theorem dX9_makes_26 : decode cX9_makes 26 = .ok (.iconst 0, 1) := by decide +kernel
theorem dX9_makes_27 : decode cX9_makes 27 = .ok (.invokevirtual 76, 3) := by decide +kernel
theorem dX9_makes_30 : decode cX9_makes 30 = .ok (.aload_n 0, 1) := by decide +kernel
theorem dX9_makes_31 : decode cX9_makes 31 = .ok (.aload_n 0, 1) := by decide +kernel
theorem dX9_makes_32 : decode cX9_makes 32 = .ok (.getfield 9, 3) := by decide +kernel
theorem dX9_makes_35 : decode cX9_makes 35 = .ok (.sipush 361, 3) := by decide +kernel
theorem dX9_makes_38 : decode cX9_makes 38 = .ok (.aload_n 0, 1) := by decide +kernel
theorem dX9_makes_39 : decode cX9_makes 39 = .ok (.iload_n 2, 1) := by decide +kernel
theorem dX9_makes_40 : decode cX9_makes 40 = .ok (.iconst 1, 1) := by decide +kernel
theorem dX9_makes_41 : decode cX9_makes 41 = .ok (.invokevirtual 76, 3) := by decide +kernel
theorem dX9_makes_44 : decode cX9_makes 44 = .ok (.iadd, 1) := by decide +kernel
theorem dX9_makes_45 : decode cX9_makes 45 = .ok (.iaload, 1) := by decide +kernel
theorem dX9_makes_46 : decode cX9_makes 46 = .ok (.invokevirtual 212, 3) := by decide +kernel
theorem dX9_makes_49 : decode cX9_makes 49 = .ok (.imul, 1) := by decide +kernel
theorem dX9_makes_50 : decode cX9_makes 50 = .ok (.bipush 100, 2) := by decide +kernel
theorem dX9_makes_52 : decode cX9_makes 52 = .ok (.idiv, 1) := by decide +kernel
theorem dX9_makes_53 : decode cX9_makes 53 = .ok (.iastore, 1) := by decide +kernel
theorem dX9_makes_54 : decode cX9_makes 54 = .ok (.aload_n 0, 1) := by decide +kernel
theorem dX9_makes_55 : decode cX9_makes 55 = .ok (.getfield 46, 3) := by decide +kernel
theorem dX9_makes_58 : decode cX9_makes 58 = .ok (.iload_n 2, 1) := by decide +kernel
theorem dX9_makes_59 : decode cX9_makes 59 = .ok (.aload_n 0, 1) := by decide +kernel
theorem dX9_makes_60 : decode cX9_makes 60 = .ok (.getfield 43, 3) := by decide +kernel
theorem dX9_makes_63 : decode cX9_makes 63 = .ok (.iload_n 2, 1) := by decide +kernel
theorem dX9_makes_64 : decode cX9_makes 64 = .ok (.iaload, 1) := by decide +kernel
theorem dX9_makes_65 : decode cX9_makes 65 = .ok (.aload_n 0, 1) := by decide +kernel
theorem dX9_makes_66 : decode cX9_makes 66 = .ok (.aload_n 0, 1) := by decide +kernel
theorem dX9_makes_67 : decode cX9_makes 67 = .ok (.getfield 9, 3) := by decide +kernel
theorem dX9_makes_70 : decode cX9_makes 70 = .ok (.sipush 364, 3) := by decide +kernel
theorem dX9_makes_73 : decode cX9_makes 73 = .ok (.aload_n 0, 1) := by decide +kernel
theorem dX9_makes_74 : decode cX9_makes 74 = .ok (.iload_n 2, 1) := by decide +kernel
theorem dX9_makes_75 : decode cX9_makes 75 = .ok (.iconst 2, 1) := by decide +kernel
theorem dX9_makes_76 : decode cX9_makes 76 = .ok (.invokevirtual 76, 3) := by decide +kernel
theorem dX9_makes_79 : decode cX9_makes 79 = .ok (.iadd, 1) := by decide +kernel
theorem dX9_makes_80 : decode cX9_makes 80 = .ok (.iaload, 1) := by decide +kernel
theorem dX9_makes_81 : decode cX9_makes 81 = .ok (.invokevirtual 212, 3) := by decide +kernel
theorem dX9_makes_84 : decode cX9_makes 84 = .ok (.imul, 1) := by decide +kernel
theorem dX9_makes_85 : decode cX9_makes 85 = .ok (.bipush 100, 2) := by decide +kernel
theorem dX9_makes_87 : decode cX9_makes 87 = .ok (.idiv, 1) := by decide +kernel
theorem dX9_makes_88 : decode cX9_makes 88 = .ok (.iastore, 1) := by decide +kernel
theorem dX9_makes_89 : decode cX9_makes 89 = .ok (.iinc 2 1, 3) := by decide +kernel
theorem dX9_makes_92 : decode cX9_makes 92 = .ok (.goto (-85), 3) := by decide +kernel
theorem dX9_makes_95 : decode cX9_makes 95 = .ok (.return_, 1) := by decide +kernel
def L_X9_makes_7 : Nat → Int32 → Mem → Option Mem
  | 0, _, _ => none
  | n + 1, x2, M => if (mI M 285 1192) ≤ x2 then some M else (f_X9_get x2 (0 : Int32) M).bind fun q4 => (f_X9_get x2 (1 : Int32) M).bind fun q8 => gd (inR ((361 : Int32) + q8) 1194) ((f_X9_hundredths (mI M 285 ((361 : Int32) + q8).toNatClampNeg) M).bind fun q13 => gd (inR x2 30) ((f_X9_get x2 (2 : Int32) (sI q13.2 296 x2.toNatClampNeg ((q4 * q13.1) / (100 : Int32)))).bind fun q18 => gd (inR ((364 : Int32) + q18) 1194) ((f_X9_hundredths (mI (sI q13.2 296 x2.toNatClampNeg ((q4 * q13.1) / (100 : Int32))) 285 ((364 : Int32) + q18).toNatClampNeg) (sI q13.2 296 x2.toNatClampNeg ((q4 * q13.1) / (100 : Int32)))).bind fun q23 => L_X9_makes_7 n (x2 + 1) (sI q23.2 297 x2.toNatClampNeg (((mI (sI q13.2 296 x2.toNatClampNeg ((q4 * q13.1) / (100 : Int32))) 296 x2.toNatClampNeg) * q23.1) / (100 : Int32))))))
def f_X9_makes (x1 : Int32) (M : Mem) : Option Mem := L_X9_makes_7 FU (0 : Int32) (sI M 284 16 x1)
set_option maxRecDepth 100000 in
set_option maxHeartbeats 4000000 in
theorem l_X9_makes_7 (Z : Sys) (X : Cx) (hR : xR X = rm_X9_makes) {q : Mem} (hq : RetOk Z X none False (PostV q) 0 0) : ∀ (n : Nat) (x2 : Int32) (M : Mem) (hs : St M) (hf : L_X9_makes_7 n x2 M = some q), G Z X Y_X9_makes False 0 0 7 [(0, .ref (zs Z + 284)), (2, .int x2)] [] M := by
  intro n
  induction n with
  | zero => intro x2 M hs  hf; cases hf
  | succ n ih =>
    intro x2 M hs  hf
    unfold L_X9_makes_7 at hf
    refine G.iload_n 7 1 dX9_makes_7 rfl rfl ?_
    refine G.aload_n 8 0 dX9_makes_8 rfl rfl ?_
    refine G.getp 9 ck_9 0 285 (hs.k k0_284) (pc_9_0 hs) (by decide) (by decide +kernel) wd_1305 dX9_makes_9 ?_
    refine G.sipush 12 (1192 : Int32) dX9_makes_12 (by decide +kernel) ?_
    refine G.ia 15 1192 (hs.k k0_285) (by decide +kernel) (by decide +kernel) dX9_makes_15 ?_
    refine G.icmp_ge 16 95 dX9_makes_16 (by decide) (fun h1 => ?_) (fun h1 => ?_)
    · replace hf := (if_pos h1).symm.trans hf
      (have hf9 := Option.some.inj hf; subst hf9)
      exact G.rV 95 hq dX9_makes_95 hs
    · replace hf := (if_neg h1).symm.trans hf
      refine G.aload_n 19 0 dX9_makes_19 rfl rfl ?_
      refine G.getp 20 ck_9 17 296 (hs.k k0_284) (pc_9_17 hs) (by decide) (by decide +kernel) wd_1322 dX9_makes_20 ?_
      refine G.iload_n 23 1 dX9_makes_23 rfl rfl ?_
      refine G.aload_n 24 0 dX9_makes_24 rfl rfl ?_
      refine G.iload_n 25 1 dX9_makes_25 rfl rfl ?_
      refine G.iconst 26 (0 : Int32) dX9_makes_26 (by decide +kernel) ?_
      obtain ⟨q4, e5, hf⟩ := bd_e hf
      refine G.cvI 27 (As := [.int x2, .int (0 : Int32)]) ck_9 (hs.k k0_284) (c_X9_get Z hs x2 (0 : Int32) e5) mk_X9_get vk_X9_get rfl wd_1411 hR (by decide +kernel) ⟨rfl, rfl⟩ rfl (Nat.le_of_ble_eq_true rfl) dX9_makes_27 (fun hs2 => ?_)
      refine G.aload_n 30 0 dX9_makes_30 rfl rfl ?_
      refine G.aload_n 31 0 dX9_makes_31 rfl rfl ?_
      refine G.getp 32 ck_9 0 285 (hs2.k k0_284) (pc_9_0 hs2) (by decide) (by decide +kernel) wd_1305 dX9_makes_32 ?_
      refine G.sipush 35 (361 : Int32) dX9_makes_35 (by decide +kernel) ?_
      refine G.aload_n 38 0 dX9_makes_38 rfl rfl ?_
      refine G.iload_n 39 1 dX9_makes_39 rfl rfl ?_
      refine G.iconst 40 (1 : Int32) dX9_makes_40 (by decide +kernel) ?_
      obtain ⟨q8, e9, hf⟩ := bd_e hf
      refine G.cvI 41 (As := [.int x2, .int (1 : Int32)]) ck_9 (hs2.k k0_284) (c_X9_get Z hs2 x2 (1 : Int32) e9) mk_X9_get vk_X9_get rfl wd_1411 hR (by decide +kernel) ⟨rfl, rfl⟩ rfl (Nat.le_of_ble_eq_true rfl) dX9_makes_41 (fun hs6 => ?_)
      refine G.iadd 44 dX9_makes_44 ?_
      obtain ⟨g10, hf⟩ := gd_e hf
      refine G.ia 45 ((361 : Int32) + q8).toNatClampNeg (hs6.k k0_285) g10 rfl dX9_makes_45 ?_
      obtain ⟨q13, e14, hf⟩ := bd_e hf
      refine G.cvI 46 (As := [.int (mI M 285 ((361 : Int32) + q8).toNatClampNeg)]) ck_9 (hs6.k k0_284) (c_X9_hundredths Z hs6 (mI M 285 ((361 : Int32) + q8).toNatClampNeg) e14) mk_X9_hundredths vk_X9_hundredths rfl wd_1646 hR (by decide +kernel) ⟨rfl, rfl⟩ rfl (Nat.le_of_ble_eq_true rfl) dX9_makes_46 (fun hs11 => ?_)
      refine G.imul 49 dX9_makes_49 ?_
      refine G.bipush 50 (100 : Int32) dX9_makes_50 (by decide +kernel) ?_
      refine G.idiv 52 dX9_makes_52 (by decide +kernel) ?_
      obtain ⟨g15, hf⟩ := gd_e hf
      refine G.ist 53 x2.toNatClampNeg (hs11.k k0_296) g15 rfl dX9_makes_53 ?_
      refine G.aload_n 54 0 dX9_makes_54 rfl rfl ?_
      refine G.getp 55 ck_9 18 297 ((St.i hs11).k k0_284) (pc_9_18 (St.i hs11)) (by decide) (by decide +kernel) wd_1323 dX9_makes_55 ?_
      refine G.iload_n 58 1 dX9_makes_58 rfl rfl ?_
      refine G.aload_n 59 0 dX9_makes_59 rfl rfl ?_
      refine G.getp 60 ck_9 17 296 ((St.i hs11).k k0_284) (pc_9_17 (St.i hs11)) (by decide) (by decide +kernel) wd_1322 dX9_makes_60 ?_
      refine G.iload_n 63 1 dX9_makes_63 rfl rfl ?_
      refine G.ia 64 x2.toNatClampNeg ((St.i hs11).k k0_296) g15 rfl dX9_makes_64 ?_
      refine G.aload_n 65 0 dX9_makes_65 rfl rfl ?_
      refine G.aload_n 66 0 dX9_makes_66 rfl rfl ?_
      refine G.getp 67 ck_9 0 285 ((St.i hs11).k k0_284) (pc_9_0 (St.i hs11)) (by decide) (by decide +kernel) wd_1305 dX9_makes_67 ?_
      refine G.sipush 70 (364 : Int32) dX9_makes_70 (by decide +kernel) ?_
      refine G.aload_n 73 0 dX9_makes_73 rfl rfl ?_
      refine G.iload_n 74 1 dX9_makes_74 rfl rfl ?_
      refine G.iconst 75 (2 : Int32) dX9_makes_75 (by decide +kernel) ?_
      obtain ⟨q18, e19, hf⟩ := bd_e hf
      refine G.cvI 76 (As := [.int x2, .int (2 : Int32)]) ck_9 ((St.i hs11).k k0_284) (c_X9_get Z (St.i hs11) x2 (2 : Int32) e19) mk_X9_get vk_X9_get rfl wd_1411 hR (by decide +kernel) ⟨rfl, rfl⟩ rfl (Nat.le_of_ble_eq_true rfl) dX9_makes_76 (fun hs16 => ?_)
      refine G.iadd 79 dX9_makes_79 ?_
      obtain ⟨g20, hf⟩ := gd_e hf
      refine G.ia 80 ((364 : Int32) + q18).toNatClampNeg (hs16.k k0_285) g20 rfl dX9_makes_80 ?_
      obtain ⟨q23, e24, hf⟩ := bd_e hf
      refine G.cvI 81 (As := [.int (mI (sI q13.2 296 x2.toNatClampNeg ((q4 * q13.1) / (100 : Int32))) 285 ((364 : Int32) + q18).toNatClampNeg)]) ck_9 (hs16.k k0_284) (c_X9_hundredths Z hs16 (mI (sI q13.2 296 x2.toNatClampNeg ((q4 * q13.1) / (100 : Int32))) 285 ((364 : Int32) + q18).toNatClampNeg) e24) mk_X9_hundredths vk_X9_hundredths rfl wd_1646 hR (by decide +kernel) ⟨rfl, rfl⟩ rfl (Nat.le_of_ble_eq_true rfl) dX9_makes_81 (fun hs21 => ?_)
      refine G.imul 84 dX9_makes_84 ?_
      refine G.bipush 85 (100 : Int32) dX9_makes_85 (by decide +kernel) ?_
      refine G.idiv 87 dX9_makes_87 (by decide +kernel) ?_
      refine G.ist 88 x2.toNatClampNeg (hs21.k k0_297) g15 rfl dX9_makes_88 ?_
      refine G.iinc 89 1 (x2 + 1) [(2, .int (x2 + 1)), (0, .ref (zs Z + 284))] dX9_makes_89 rfl (congrArg (fun z => x2 + z) (by decide +kernel)) (Nat.le_of_ble_eq_true rfl) rfl ?_
      refine G.goto 92 7 dX9_makes_92 (by decide) ?_
      refine G.locs [1, 0] rfl ?_
      exact ih (x2 + 1) (sI q23.2 297 x2.toNatClampNeg (((mI (sI q13.2 296 x2.toNatClampNeg ((q4 * q13.1) / (100 : Int32))) 296 x2.toNatClampNeg) * q23.1) / (100 : Int32))) (St.i hs21) hf
set_option maxRecDepth 100000 in
set_option maxHeartbeats 4000000 in
theorem c_X9_makes (Z : Sys) {M : Mem} (hs : St M) (x1 : Int32) {q : Mem} (hf : f_X9_makes x1 M = some q) : Ct Z yX9_makes cX9_makes 3 none rm_X9_makes [.ref (zs Z + 284), .int x1] M False (PostV q) := by
  refine Ct.of (by decide +kernel) (Nat.le_of_ble_eq_true rfl) (fun X hR hq _ => ?_)
  show G Z X Y_X9_makes False 0 0 0 [(0, .ref (zs Z + 284)), (1, .int x1)] [] M
  replace hq : RetOk Z X none False (PostV q) 0 0 := hq
  unfold f_X9_makes at hf
  refine G.aload_n 0 0 dX9_makes_0 rfl rfl ?_
  refine G.iload_n 1 1 dX9_makes_1 rfl rfl ?_
  refine G.puti 2 ck_9 16 (hs.k k0_284) (by decide) (by decide +kernel) rfl wd_1321 rfl rfl dX9_makes_2 ?_
  refine G.iconst 5 (0 : Int32) dX9_makes_5 (by decide +kernel) ?_
  refine G.istore_n 6 [(2, .int (0 : Int32)), (0, .ref (zs Z + 284)), (1, .int x1)] dX9_makes_6 rfl (Nat.le_of_ble_eq_true rfl) rfl ?_
  refine G.locs [1, 0] rfl ?_
  exact l_X9_makes_7 Z X hR hq FU (0 : Int32) (sI M 284 16 x1) (St.i hs) hf
