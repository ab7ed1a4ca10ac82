abbrev Y_X0_rowsWithFigure : My := (cX0_rowsWithFigure, RX0, 6)
def rm_X0_rowsWithFigure : Room := { frames := 2, cells := 0, slots := 0, locals := 228 }
theorem dX0_rowsWithFigure_0 : decode cX0_rowsWithFigure 0 = .ok (.iconst 0, 1) := by decide +kernel
theorem dX0_rowsWithFigure_1 : decode cX0_rowsWithFigure 1 = .ok (.istore_n 2, 1) := by decide +kernel
theorem dX0_rowsWithFigure_2 : decode cX0_rowsWithFigure 2 = .ok (.iconst 0, 1) := by decide +kernel
theorem dX0_rowsWithFigure_3 : decode cX0_rowsWithFigure 3 = .ok (.istore_n 3, 1) := by decide +kernel
theorem dX0_rowsWithFigure_4 : decode cX0_rowsWithFigure 4 = .ok (.iconst 0, 1) := by decide +kernel
theorem dX0_rowsWithFigure_5 : decode cX0_rowsWithFigure 5 = .ok (.istore 4, 2) := by decide +kernel
theorem dX0_rowsWithFigure_7 : decode cX0_rowsWithFigure 7 = .ok (.iload 4, 2) := by decide +kernel
theorem dX0_rowsWithFigure_9 : decode cX0_rowsWithFigure 9 = .ok (.aload_n 0, 1) := by decide +kernel
theorem dX0_rowsWithFigure_10 : decode cX0_rowsWithFigure 10 = .ok (.getfield 53, 3) := by decide +kernel
theorem dX0_rowsWithFigure_13 : decode cX0_rowsWithFigure 13 = .ok (.if_icmp .ge 56, 3) := by decide +kernel
theorem dX0_rowsWithFigure_16 : decode cX0_rowsWithFigure 16 = .ok (.iload_n 2, 1) := by decide +kernel
theorem dX0_rowsWithFigure_17 : decode cX0_rowsWithFigure 17 = .ok (.bipush 18, 2) := by decide +kernel
theorem dX0_rowsWithFigure_19 : decode cX0_rowsWithFigure 19 = .ok (.if_icmp .ge 50, 3) := by decide +kernel
theorem dX0_rowsWithFigure_22 : decode cX0_rowsWithFigure 22 = .ok (.aload_n 0, 1) := by decide +kernel
theorem dX0_rowsWithFigure_23 : decode cX0_rowsWithFigure 23 = .ok (.getfield 13, 3) := by decide +kernel
theorem dX0_rowsWithFigure_26 : decode cX0_rowsWithFigure 26 = .ok (.iload 4, 2) := by decide +kernel
theorem dX0_rowsWithFigure_28 : decode cX0_rowsWithFigure 28 = .ok (.aaload, 1) := by decide +kernel
theorem dX0_rowsWithFigure_29 : decode cX0_rowsWithFigure 29 = .ok (.invokevirtual 106, 3) := by decide +kernel
theorem dX0_rowsWithFigure_32 : decode cX0_rowsWithFigure 32 = .ok (.istore 5, 2) := by decide +kernel
theorem dX0_rowsWithFigure_34 : decode cX0_rowsWithFigure 34 = .ok (.iload_n 2, 1) := by decide +kernel
theorem dX0_rowsWithFigure_35 : decode cX0_rowsWithFigure 35 = .ok (.iload 5, 2) := by decide +kernel
theorem dX0_rowsWithFigure_37 : decode cX0_rowsWithFigure 37 = .ok (.bipush (-4), 2) := by decide +kernel
theorem dX0_rowsWithFigure_39 : decode cX0_rowsWithFigure 39 = .ok (.if_icmp .eq 7, 3) := by decide +kernel
theorem dX0_rowsWithFigure_42 : decode cX0_rowsWithFigure 42 = .ok (.iconst 1, 1) := by decide +kernel
theorem dX0_rowsWithFigure_43 : decode cX0_rowsWithFigure 43 = .ok (.goto 4, 3) := by decide +kernel
theorem dX0_rowsWithFigure_46 : decode cX0_rowsWithFigure 46 = .ok (.iconst 0, 1) := by decide +kernel
theorem dX0_rowsWithFigure_47 : decode cX0_rowsWithFigure 47 = .ok (.iadd, 1) := by decide +kernel
theorem dX0_rowsWithFigure_48 : decode cX0_rowsWithFigure 48 = .ok (.istore_n 2, 1) := by decide +kernel
theorem dX0_rowsWithFigure_49 : decode cX0_rowsWithFigure 49 = .ok (.iload_n 3, 1) := by decide +kernel
theorem dX0_rowsWithFigure_50 : decode cX0_rowsWithFigure 50 = .ok (.iload 5, 2) := by decide +kernel
theorem dX0_rowsWithFigure_52 : decode cX0_rowsWithFigure 52 = .ok (.iload_n 1, 1) := by decide +kernel
theorem dX0_rowsWithFigure_53 : decode cX0_rowsWithFigure 53 = .ok (.if_icmp .ne 7, 3) := by decide +kernel
theorem dX0_rowsWithFigure_56 : decode cX0_rowsWithFigure 56 = .ok (.iconst 1, 1) := by decide +kernel
theorem dX0_rowsWithFigure_57 : decode cX0_rowsWithFigure 57 = .ok (.goto 4, 3) := by decide +kernel
theorem dX0_rowsWithFigure_60 : decode cX0_rowsWithFigure 60 = .ok (.iconst 0, 1) := by decide +kernel
theorem dX0_rowsWithFigure_61 : decode cX0_rowsWithFigure 61 = .ok (.iadd, 1) := by decide +kernel
theorem dX0_rowsWithFigure_62 : decode cX0_rowsWithFigure 62 = .ok (.istore_n 3, 1) := by decide +kernel
theorem dX0_rowsWithFigure_63 : decode cX0_rowsWithFigure 63 = .ok (.iinc 4 1, 3) := by decide +kernel
theorem dX0_rowsWithFigure_66 : decode cX0_rowsWithFigure 66 = .ok (.goto (-59), 3) := by decide +kernel
theorem dX0_rowsWithFigure_69 : decode cX0_rowsWithFigure 69 = .ok (.iload_n 2, 1) := by decide +kernel
theorem dX0_rowsWithFigure_70 : decode cX0_rowsWithFigure 70 = .ok (.iload_n 3, 1) := by decide +kernel
theorem dX0_rowsWithFigure_71 : decode cX0_rowsWithFigure 71 = .ok (.invokestatic 109, 3) := by decide +kernel
theorem dX0_rowsWithFigure_74 : decode cX0_rowsWithFigure 74 = .ok (.lreturn, 1) := by decide +kernel
def B_X0_rowsWithFigure_69 (x2 : Int32) (x3 : Int32) (M : Mem) : Option Int64 := (f_X0_rowsWith x2 x3).bind fun q4 => some q4
def L_X0_rowsWithFigure_7 : Nat → Nat → Int32 → Int32 → Int32 → Int32 → Mem → Option Int64
  | 0, _, _, _, _, _, _ => none
  | n + 1, a0, x1, x2, x3, x4, M => if (mI M a0 1) ≤ x4 then B_X0_rowsWithFigure_69 x2 x3 M else if (18 : Int32) ≤ x2 then B_X0_rowsWithFigure_69 x2 x3 M else gd (inR x4 30) (if (f_X1_lastFigure ((a0 + 1) + 23 + 2 * x4.toNatClampNeg) M) = (-4 : Int32) then if (f_X1_lastFigure ((a0 + 1) + 23 + 2 * x4.toNatClampNeg) M) = x1 then L_X0_rowsWithFigure_7 n a0 x1 (x2 + (0 : Int32)) (x3 + (1 : Int32)) (x4 + 1) M else L_X0_rowsWithFigure_7 n a0 x1 (x2 + (0 : Int32)) (x3 + (0 : Int32)) (x4 + 1) M else if (f_X1_lastFigure ((a0 + 1) + 23 + 2 * x4.toNatClampNeg) M) = x1 then L_X0_rowsWithFigure_7 n a0 x1 (x2 + (1 : Int32)) (x3 + (1 : Int32)) (x4 + 1) M else L_X0_rowsWithFigure_7 n a0 x1 (x2 + (1 : Int32)) (x3 + (0 : Int32)) (x4 + 1) M)
def f_X0_rowsWithFigure (a0 : Nat) (x1 : Int32) (M : Mem) : Option Int64 := L_X0_rowsWithFigure_7 FU a0 x1 (0 : Int32) (0 : Int32) (0 : Int32) M
set_option maxRecDepth 100000 in
set_option maxHeartbeats 4000000 in
theorem b_X0_rowsWithFigure_69 (Z : Sys) (X : Cx) (hR : xR X = rm_X0_rowsWithFigure) {q : Int64} {M : Mem} (hq : RetOk Z X (some .long) False (PostL q M) 0 0) (x2 : Int32) (x3 : Int32) (hs : St M) (hf : B_X0_rowsWithFigure_69 x2 x3 M = some q) : G Z X Y_X0_rowsWithFigure False 0 0 69 [(2, .int x2), (3, .int x3)] [] M := by
  unfold B_X0_rowsWithFigure_69 at hf
  refine G.iload_n 69 0 dX0_rowsWithFigure_69 rfl rfl ?_
  refine G.iload_n 70 1 dX0_rowsWithFigure_70 rfl rfl ?_
  obtain ⟨q4, e5, hf⟩ := bd_e hf
  refine G.csL 71 (As := [.int x2, .int x3]) (c_X0_rowsWith Z hs x2 x3 e5) mk_X0_rowsWith wd_581 wd_580 hR (by decide +kernel) ⟨rfl, rfl⟩ rfl (Nat.le_of_ble_eq_true rfl) dX0_rowsWithFigure_71 (fun hs2 => ?_)
  (have hf9 := Option.some.inj hf; subst hf9)
  exact G.rL 74 hq dX0_rowsWithFigure_74 hs2
set_option maxRecDepth 100000 in
set_option maxHeartbeats 4000000 in
theorem l_X0_rowsWithFigure_7 (Z : Sys) (X : Cx) (hR : xR X = rm_X0_rowsWithFigure) {q : Int64} {M : Mem} (hq : RetOk Z X (some .long) False (PostL q M) 0 0) : ∀ (n : Nat) (a0 : Nat) (x1 : Int32) (x2 : Int32) (x3 : Int32) (x4 : Int32) (hs : St M) (k_a0 : K0[a0]? = some (0, 12)) (hf : L_X0_rowsWithFigure_7 n a0 x1 x2 x3 x4 M = some q), G Z X Y_X0_rowsWithFigure False 0 0 7 [(0, .ref (zs Z + a0)), (1, .int x1), (2, .int x2), (3, .int x3), (4, .int x4)] [] M := by
  intro n
  induction n with
  | zero => intro a0 x1 x2 x3 x4 hs k_a0 hf; cases hf
  | succ n ih =>
    intro a0 x1 x2 x3 x4 hs k_a0 hf
    unfold L_X0_rowsWithFigure_7 at hf
    refine G.iload 7 4 dX0_rowsWithFigure_7 rfl ?_
    refine G.aload_n 9 0 dX0_rowsWithFigure_9 rfl rfl ?_
    refine G.geti 10 ck_0 1 (hs.k k_a0) (by decide) (by decide +kernel) wd_261 dX0_rowsWithFigure_10 ?_
    refine G.icmp_ge 13 69 dX0_rowsWithFigure_13 (by decide) (fun h1 => ?_) (fun h1 => ?_)
    · replace hf := (if_pos h1).symm.trans hf
      refine G.locs [2, 3] rfl ?_
      exact b_X0_rowsWithFigure_69 Z X hR hq x2 x3 hs hf
    · replace hf := (if_neg h1).symm.trans hf
      refine G.iload_n 16 2 dX0_rowsWithFigure_16 rfl rfl ?_
      refine G.bipush 17 (18 : Int32) dX0_rowsWithFigure_17 (by decide +kernel) ?_
      refine G.icmp_ge 19 69 dX0_rowsWithFigure_19 (by decide) (fun h6 => ?_) (fun h6 => ?_)
      · replace hf := (if_pos h6).symm.trans hf
        refine G.locs [2, 3] rfl ?_
        exact b_X0_rowsWithFigure_69 Z X hR hq x2 x3 hs hf
      · replace hf := (if_neg h6).symm.trans hf
        refine G.aload_n 22 0 dX0_rowsWithFigure_22 rfl rfl ?_
        refine G.getp 23 ck_0 0 (a0 + 1) (hs.k k_a0) (pt_0_0 hs k_a0).1 (by decide) (by decide +kernel) wd_257 dX0_rowsWithFigure_23 ?_
        refine G.iload 26 4 dX0_rowsWithFigure_26 rfl ?_
        obtain ⟨g7, hf⟩ := gd_e hf
        refine G.aa 28 x4.toNatClampNeg ((a0 + 1) + 23 + 2 * x4.toNatClampNeg) (hs.k (pt_0_0 hs k_a0).2) (by decide) rfl rfl g7 rfl (pa_13 hs (pt_0_0 hs k_a0).2 (inlt g7)).1 dX0_rowsWithFigure_28 ?_
        refine G.cvI 29 (As := []) ck_1 (hs.k (pa_13 hs (pt_0_0 hs k_a0).2 (inlt g7)).2) (c_X1_lastFigure Z hs ((a0 + 1) + 23 + 2 * x4.toNatClampNeg) (pa_13 hs (pt_0_0 hs k_a0).2 (inlt g7)).2 rfl) mk_X1_lastFigure vk_X1_lastFigure rfl wd_567 hR (by decide +kernel) ⟨rfl, rfl⟩ rfl (Nat.le_of_ble_eq_true rfl) dX0_rowsWithFigure_29 (fun hs8 => ?_)
        refine G.istore 32 [(5, .int (f_X1_lastFigure ((a0 + 1) + 23 + 2 * x4.toNatClampNeg) M)), (0, .ref (zs Z + a0)), (1, .int x1), (2, .int x2), (3, .int x3), (4, .int x4)] dX0_rowsWithFigure_32 (Nat.le_of_ble_eq_true rfl) rfl ?_
        refine G.iload_n 34 3 dX0_rowsWithFigure_34 rfl rfl ?_
        refine G.iload 35 0 dX0_rowsWithFigure_35 rfl ?_
        refine G.bipush 37 (-4 : Int32) dX0_rowsWithFigure_37 (by decide +kernel) ?_
        refine G.icmp_eq 39 46 dX0_rowsWithFigure_39 (by decide) (fun h10 => ?_) (fun h10 => ?_)
        · replace hf := (if_pos h10).symm.trans hf
          refine G.iconst 46 (0 : Int32) dX0_rowsWithFigure_46 (by decide +kernel) ?_
          refine G.iadd 47 dX0_rowsWithFigure_47 ?_
          refine G.istore_n 48 [(2, .int (x2 + (0 : Int32))), (5, .int (f_X1_lastFigure ((a0 + 1) + 23 + 2 * x4.toNatClampNeg) M)), (0, .ref (zs Z + a0)), (1, .int x1), (3, .int x3), (4, .int x4)] dX0_rowsWithFigure_48 rfl (Nat.le_of_ble_eq_true rfl) rfl ?_
          refine G.iload_n 49 4 dX0_rowsWithFigure_49 rfl rfl ?_
          refine G.iload 50 1 dX0_rowsWithFigure_50 rfl ?_
          refine G.iload_n 52 3 dX0_rowsWithFigure_52 rfl rfl ?_
          refine G.icmp_ne 53 60 dX0_rowsWithFigure_53 (by decide) (fun h11 => ?_) (fun h11 => ?_)
          · replace hf := (if_neg h11).symm.trans hf
            refine G.iconst 60 (0 : Int32) dX0_rowsWithFigure_60 (by decide +kernel) ?_
            refine G.iadd 61 dX0_rowsWithFigure_61 ?_
            refine G.istore_n 62 [(3, .int (x3 + (0 : Int32))), (2, .int (x2 + (0 : Int32))), (5, .int (f_X1_lastFigure ((a0 + 1) + 23 + 2 * x4.toNatClampNeg) M)), (0, .ref (zs Z + a0)), (1, .int x1), (4, .int x4)] dX0_rowsWithFigure_62 rfl (Nat.le_of_ble_eq_true rfl) rfl ?_
            refine G.iinc 63 5 (x4 + 1) [(4, .int (x4 + 1)), (3, .int (x3 + (0 : Int32))), (2, .int (x2 + (0 : Int32))), (5, .int (f_X1_lastFigure ((a0 + 1) + 23 + 2 * x4.toNatClampNeg) M)), (0, .ref (zs Z + a0)), (1, .int x1)] dX0_rowsWithFigure_63 rfl (congrArg (fun z => x4 + z) (by decide +kernel)) (Nat.le_of_ble_eq_true rfl) rfl ?_
            refine G.goto 66 7 dX0_rowsWithFigure_66 (by decide) ?_
            refine G.locs [4, 5, 2, 1, 0] rfl ?_
            exact ih a0 x1 (x2 + (0 : Int32)) (x3 + (0 : Int32)) (x4 + 1) hs8 k_a0 hf
          · replace hf := (if_pos h11).symm.trans hf
            refine G.iconst 56 (1 : Int32) dX0_rowsWithFigure_56 (by decide +kernel) ?_
            refine G.goto 57 61 dX0_rowsWithFigure_57 (by decide) ?_
            refine G.iadd 61 dX0_rowsWithFigure_61 ?_
            refine G.istore_n 62 [(3, .int (x3 + (1 : Int32))), (2, .int (x2 + (0 : Int32))), (5, .int (f_X1_lastFigure ((a0 + 1) + 23 + 2 * x4.toNatClampNeg) M)), (0, .ref (zs Z + a0)), (1, .int x1), (4, .int x4)] dX0_rowsWithFigure_62 rfl (Nat.le_of_ble_eq_true rfl) rfl ?_
            refine G.iinc 63 5 (x4 + 1) [(4, .int (x4 + 1)), (3, .int (x3 + (1 : Int32))), (2, .int (x2 + (0 : Int32))), (5, .int (f_X1_lastFigure ((a0 + 1) + 23 + 2 * x4.toNatClampNeg) M)), (0, .ref (zs Z + a0)), (1, .int x1)] dX0_rowsWithFigure_63 rfl (congrArg (fun z => x4 + z) (by decide +kernel)) (Nat.le_of_ble_eq_true rfl) rfl ?_
            refine G.goto 66 7 dX0_rowsWithFigure_66 (by decide) ?_
            refine G.locs [4, 5, 2, 1, 0] rfl ?_
            exact ih a0 x1 (x2 + (0 : Int32)) (x3 + (1 : Int32)) (x4 + 1) hs8 k_a0 hf
        · replace hf := (if_neg h10).symm.trans hf
          refine G.iconst 42 (1 : Int32) dX0_rowsWithFigure_42 (by decide +kernel) ?_
          refine G.goto 43 47 dX0_rowsWithFigure_43 (by decide) ?_
          refine G.iadd 47 dX0_rowsWithFigure_47 ?_
          refine G.istore_n 48 [(2, .int (x2 + (1 : Int32))), (5, .int (f_X1_lastFigure ((a0 + 1) + 23 + 2 * x4.toNatClampNeg) M)), (0, .ref (zs Z + a0)), (1, .int x1), (3, .int x3), (4, .int x4)] dX0_rowsWithFigure_48 rfl (Nat.le_of_ble_eq_true rfl) rfl ?_
          refine G.iload_n 49 4 dX0_rowsWithFigure_49 rfl rfl ?_
          refine G.iload 50 1 dX0_rowsWithFigure_50 rfl ?_
          refine G.iload_n 52 3 dX0_rowsWithFigure_52 rfl rfl ?_
          refine G.icmp_ne 53 60 dX0_rowsWithFigure_53 (by decide) (fun h12 => ?_) (fun h12 => ?_)
          · replace hf := (if_neg h12).symm.trans hf
            refine G.iconst 60 (0 : Int32) dX0_rowsWithFigure_60 (by decide +kernel) ?_
            refine G.iadd 61 dX0_rowsWithFigure_61 ?_
            refine G.istore_n 62 [(3, .int (x3 + (0 : Int32))), (2, .int (x2 + (1 : Int32))), (5, .int (f_X1_lastFigure ((a0 + 1) + 23 + 2 * x4.toNatClampNeg) M)), (0, .ref (zs Z + a0)), (1, .int x1), (4, .int x4)] dX0_rowsWithFigure_62 rfl (Nat.le_of_ble_eq_true rfl) rfl ?_
            refine G.iinc 63 5 (x4 + 1) [(4, .int (x4 + 1)), (3, .int (x3 + (0 : Int32))), (2, .int (x2 + (1 : Int32))), (5, .int (f_X1_lastFigure ((a0 + 1) + 23 + 2 * x4.toNatClampNeg) M)), (0, .ref (zs Z + a0)), (1, .int x1)] dX0_rowsWithFigure_63 rfl (congrArg (fun z => x4 + z) (by decide +kernel)) (Nat.le_of_ble_eq_true rfl) rfl ?_
            refine G.goto 66 7 dX0_rowsWithFigure_66 (by decide) ?_
            refine G.locs [4, 5, 2, 1, 0] rfl ?_
            exact ih a0 x1 (x2 + (1 : Int32)) (x3 + (0 : Int32)) (x4 + 1) hs8 k_a0 hf
          · replace hf := (if_pos h12).symm.trans hf
            refine G.iconst 56 (1 : Int32) dX0_rowsWithFigure_56 (by decide +kernel) ?_
            refine G.goto 57 61 dX0_rowsWithFigure_57 (by decide) ?_
            refine G.iadd 61 dX0_rowsWithFigure_61 ?_
            refine G.istore_n 62 [(3, .int (x3 + (1 : Int32))), (2, .int (x2 + (1 : Int32))), (5, .int (f_X1_lastFigure ((a0 + 1) + 23 + 2 * x4.toNatClampNeg) M)), (0, .ref (zs Z + a0)), (1, .int x1), (4, .int x4)] dX0_rowsWithFigure_62 rfl (Nat.le_of_ble_eq_true rfl) rfl ?_
            refine G.iinc 63 5 (x4 + 1) [(4, .int (x4 + 1)), (3, .int (x3 + (1 : Int32))), (2, .int (x2 + (1 : Int32))), (5, .int (f_X1_lastFigure ((a0 + 1) + 23 + 2 * x4.toNatClampNeg) M)), (0, .ref (zs Z + a0)), (1, .int x1)] dX0_rowsWithFigure_63 rfl (congrArg (fun z => x4 + z) (by decide +kernel)) (Nat.le_of_ble_eq_true rfl) rfl ?_
            refine G.goto 66 7 dX0_rowsWithFigure_66 (by decide) ?_
            refine G.locs [4, 5, 2, 1, 0] rfl ?_
            exact ih a0 x1 (x2 + (1 : Int32)) (x3 + (1 : Int32)) (x4 + 1) hs8 k_a0 hf
set_option maxRecDepth 100000 in
set_option maxHeartbeats 4000000 in
theorem c_X0_rowsWithFigure (Z : Sys) {M : Mem} (hs : St M) (a0 : Nat) (x1 : Int32) (k_a0 : K0[a0]? = some (0, 12)) {q : Int64} (hf : f_X0_rowsWithFigure a0 x1 M = some q) : Ct Z yX0_rowsWithFigure cX0_rowsWithFigure 6 (some .long) rm_X0_rowsWithFigure [.ref (zs Z + a0), .int x1] M False (PostL q M) := by
  refine Ct.of (by decide +kernel) (Nat.le_of_ble_eq_true rfl) (fun X hR hq _ => ?_)
  show G Z X Y_X0_rowsWithFigure False 0 0 0 [(0, .ref (zs Z + a0)), (1, .int x1)] [] M
  replace hq : RetOk Z X (some .long) False (PostL q M) 0 0 := hq
  unfold f_X0_rowsWithFigure at hf
  refine G.iconst 0 (0 : Int32) dX0_rowsWithFigure_0 (by decide +kernel) ?_
  refine G.istore_n 1 [(2, .int (0 : Int32)), (0, .ref (zs Z + a0)), (1, .int x1)] dX0_rowsWithFigure_1 rfl (Nat.le_of_ble_eq_true rfl) rfl ?_
  refine G.iconst 2 (0 : Int32) dX0_rowsWithFigure_2 (by decide +kernel) ?_
  refine G.istore_n 3 [(3, .int (0 : Int32)), (2, .int (0 : Int32)), (0, .ref (zs Z + a0)), (1, .int x1)] dX0_rowsWithFigure_3 rfl (Nat.le_of_ble_eq_true rfl) rfl ?_
  refine G.iconst 4 (0 : Int32) dX0_rowsWithFigure_4 (by decide +kernel) ?_
  refine G.istore 5 [(4, .int (0 : Int32)), (3, .int (0 : Int32)), (2, .int (0 : Int32)), (0, .ref (zs Z + a0)), (1, .int x1)] dX0_rowsWithFigure_5 (Nat.le_of_ble_eq_true rfl) rfl ?_
  refine G.locs [3, 4, 2, 1, 0] rfl ?_
  exact l_X0_rowsWithFigure_7 Z X hR hq FU a0 x1 (0 : Int32) (0 : Int32) (0 : Int32) hs k_a0 hf
abbrev Y_X0_sentCame : My := (cX0_sentCame, RX0, 2)
def rm_X0_sentCame : Room := { frames := 2, cells := 0, slots := 0, locals := 223 }
theorem dX0_sentCame_0 : decode cX0_sentCame 0 = .ok (.aload_n 0, 1) := by decide +kernel
theorem dX0_sentCame_1 : decode cX0_sentCame 1 = .ok (.getfield 21, 3) := by decide +kernel
theorem dX0_sentCame_4 : decode cX0_sentCame 4 = .ok (.iload_n 1, 1) := by decide +kernel
theorem dX0_sentCame_5 : decode cX0_sentCame 5 = .ok (.baload, 1) := by decide +kernel
theorem dX0_sentCame_6 : decode cX0_sentCame 6 = .ok (.ifCond .eq 12, 3) := by decide +kernel
theorem dX0_sentCame_9 : decode cX0_sentCame 9 = .ok (.aload_n 0, 1) := by decide +kernel
theorem dX0_sentCame_10 : decode cX0_sentCame 10 = .ok (.getfield 25, 3) := by decide +kernel
theorem dX0_sentCame_13 : decode cX0_sentCame 13 = .ok (.iload_n 1, 1) := by decide +kernel
theorem dX0_sentCame_14 : decode cX0_sentCame 14 = .ok (.iaload, 1) := by decide +kernel
theorem dX0_sentCame_15 : decode cX0_sentCame 15 = .ok (.goto 8, 3) := by decide +kernel
theorem dX0_sentCame_18 : decode cX0_sentCame 18 = .ok (.aload_n 0, 1) := by decide +kernel
theorem dX0_sentCame_19 : decode cX0_sentCame 19 = .ok (.iload_n 1, 1) := by decide +kernel
theorem dX0_sentCame_20 : decode cX0_sentCame 20 = .ok (.invokevirtual 145, 3) := by decide +kernel
theorem dX0_sentCame_23 : decode cX0_sentCame 23 = .ok (.ireturn, 1) := by decide +kernel
def f_X0_sentCame (a0 : Nat) (x1 : Int32) (M : Mem) : Option Int32 := gd (inR x1 4) (if (mI M (a0 + 3) x1.toNatClampNeg) = 0 then (f_X0_writtenCame a0 x1 M).bind fun q5 => some q5 else some (mI M (a0 + 4) x1.toNatClampNeg))
set_option maxRecDepth 100000 in
set_option maxHeartbeats 4000000 in
theorem c_X0_sentCame (Z : Sys) {M : Mem} (hs : St M) (a0 : Nat) (x1 : Int32) (k_a0 : K0[a0]? = some (0, 12)) {q : Int32} (hf : f_X0_sentCame a0 x1 M = some q) : Ct Z yX0_sentCame cX0_sentCame 2 (some .int) rm_X0_sentCame [.ref (zs Z + a0), .int x1] M False (PostI q M) := by
  refine Ct.of (by decide +kernel) (Nat.le_of_ble_eq_true rfl) (fun X hR hq _ => ?_)
  show G Z X Y_X0_sentCame False 0 0 0 [(0, .ref (zs Z + a0)), (1, .int x1)] [] M
  replace hq : RetOk Z X (some .int) False (PostI q M) 0 0 := hq
  unfold f_X0_sentCame at hf
  refine G.aload_n 0 0 dX0_sentCame_0 rfl rfl ?_
  refine G.getp 1 ck_0 3 (a0 + 3) (hs.k k_a0) (pt_0_3 hs k_a0).1 (by decide) (by decide +kernel) wd_267 dX0_sentCame_1 ?_
  refine G.iload_n 4 1 dX0_sentCame_4 rfl rfl ?_
  obtain ⟨g1, hf⟩ := gd_e hf
  refine G.za 5 x1.toNatClampNeg (hs.k (pt_0_3 hs k_a0).2) g1 rfl dX0_sentCame_5 ?_
  refine G.if_eq 6 18 dX0_sentCame_6 (by decide) (fun h2 => ?_) (fun h2 => ?_)
  · replace hf := (if_pos h2).symm.trans hf
    refine G.aload_n 18 0 dX0_sentCame_18 rfl rfl ?_
    refine G.iload_n 19 1 dX0_sentCame_19 rfl rfl ?_
    obtain ⟨q5, e6, hf⟩ := bd_e hf
    refine G.cvI 20 (As := [.int x1]) ck_0 (hs.k k_a0) (c_X0_writtenCame Z hs a0 x1 k_a0 e6) mk_X0_writtenCame vk_X0_writtenCame rfl wd_710 hR (by decide +kernel) ⟨rfl, rfl⟩ rfl (Nat.le_of_ble_eq_true rfl) dX0_sentCame_20 (fun hs3 => ?_)
    (have hf9 := Option.some.inj hf; subst hf9)
    exact G.rI 23 hq dX0_sentCame_23 hs3
  · replace hf := (if_neg h2).symm.trans hf
    refine G.aload_n 9 0 dX0_sentCame_9 rfl rfl ?_
    refine G.getp 10 ck_0 4 (a0 + 4) (hs.k k_a0) (pt_0_4 hs k_a0).1 (by decide) (by decide +kernel) wd_269 dX0_sentCame_10 ?_
    refine G.iload_n 13 1 dX0_sentCame_13 rfl rfl ?_
    refine G.ia 14 x1.toNatClampNeg (hs.k (pt_0_4 hs k_a0).2) g1 rfl dX0_sentCame_14 ?_
    refine G.goto 15 23 dX0_sentCame_15 (by decide) ?_
    (have hf9 := Option.some.inj hf; subst hf9)
    exact G.rI 23 hq dX0_sentCame_23 hs
abbrev Y_X0_sentOurs : My := (cX0_sentOurs, RX0, 2)
def rm_X0_sentOurs : Room := { frames := 2, cells := 0, slots := 0, locals := 223 }
theorem dX0_sentOurs_0 : decode cX0_sentOurs 0 = .ok (.aload_n 0, 1) := by decide +kernel
theorem dX0_sentOurs_1 : decode cX0_sentOurs 1 = .ok (.getfield 21, 3) := by decide +kernel
theorem dX0_sentOurs_4 : decode cX0_sentOurs 4 = .ok (.iload_n 1, 1) := by decide +kernel
theorem dX0_sentOurs_5 : decode cX0_sentOurs 5 = .ok (.baload, 1) := by decide +kernel
theorem dX0_sentOurs_6 : decode cX0_sentOurs 6 = .ok (.ifCond .eq 12, 3) := by decide +kernel
theorem dX0_sentOurs_9 : decode cX0_sentOurs 9 = .ok (.aload_n 0, 1) := by decide +kernel
theorem dX0_sentOurs_10 : decode cX0_sentOurs 10 = .ok (.getfield 28, 3) := by decide +kernel
theorem dX0_sentOurs_13 : decode cX0_sentOurs 13 = .ok (.iload_n 1, 1) := by decide +kernel
theorem dX0_sentOurs_14 : decode cX0_sentOurs 14 = .ok (.iaload, 1) := by decide +kernel
theorem dX0_sentOurs_15 : decode cX0_sentOurs 15 = .ok (.goto 8, 3) := by decide +kernel
theorem dX0_sentOurs_18 : decode cX0_sentOurs 18 = .ok (.aload_n 0, 1) := by decide +kernel
theorem dX0_sentOurs_19 : decode cX0_sentOurs 19 = .ok (.iload_n 1, 1) := by decide +kernel
theorem dX0_sentOurs_20 : decode cX0_sentOurs 20 = .ok (.invokevirtual 148, 3) := by decide +kernel
theorem dX0_sentOurs_23 : decode cX0_sentOurs 23 = .ok (.ireturn, 1) := by decide +kernel
def f_X0_sentOurs (a0 : Nat) (x1 : Int32) (M : Mem) : Option Int32 := gd (inR x1 4) (if (mI M (a0 + 3) x1.toNatClampNeg) = 0 then (f_X0_writtenOurs a0 x1 M).bind fun q5 => some q5 else some (mI M (a0 + 5) x1.toNatClampNeg))
set_option maxRecDepth 100000 in
set_option maxHeartbeats 4000000 in
theorem c_X0_sentOurs (Z : Sys) {M : Mem} (hs : St M) (a0 : Nat) (x1 : Int32) (k_a0 : K0[a0]? = some (0, 12)) {q : Int32} (hf : f_X0_sentOurs a0 x1 M = some q) : Ct Z yX0_sentOurs cX0_sentOurs 2 (some .int) rm_X0_sentOurs [.ref (zs Z + a0), .int x1] M False (PostI q M) := by
  refine Ct.of (by decide +kernel) (Nat.le_of_ble_eq_true rfl) (fun X hR hq _ => ?_)
  show G Z X Y_X0_sentOurs False 0 0 0 [(0, .ref (zs Z + a0)), (1, .int x1)] [] M
  replace hq : RetOk Z X (some .int) False (PostI q M) 0 0 := hq
  unfold f_X0_sentOurs at hf
  refine G.aload_n 0 0 dX0_sentOurs_0 rfl rfl ?_
  refine G.getp 1 ck_0 3 (a0 + 3) (hs.k k_a0) (pt_0_3 hs k_a0).1 (by decide) (by decide +kernel) wd_267 dX0_sentOurs_1 ?_
  refine G.iload_n 4 1 dX0_sentOurs_4 rfl rfl ?_
  obtain ⟨g1, hf⟩ := gd_e hf
  refine G.za 5 x1.toNatClampNeg (hs.k (pt_0_3 hs k_a0).2) g1 rfl dX0_sentOurs_5 ?_
  refine G.if_eq 6 18 dX0_sentOurs_6 (by decide) (fun h2 => ?_) (fun h2 => ?_)
  · replace hf := (if_pos h2).symm.trans hf
    refine G.aload_n 18 0 dX0_sentOurs_18 rfl rfl ?_
    refine G.iload_n 19 1 dX0_sentOurs_19 rfl rfl ?_
    obtain ⟨q5, e6, hf⟩ := bd_e hf
    refine G.cvI 20 (As := [.int x1]) ck_0 (hs.k k_a0) (c_X0_writtenOurs Z hs a0 x1 k_a0 e6) mk_X0_writtenOurs vk_X0_writtenOurs rfl wd_715 hR (by decide +kernel) ⟨rfl, rfl⟩ rfl (Nat.le_of_ble_eq_true rfl) dX0_sentOurs_20 (fun hs3 => ?_)
    (have hf9 := Option.some.inj hf; subst hf9)
    exact G.rI 23 hq dX0_sentOurs_23 hs3
  · replace hf := (if_neg h2).symm.trans hf
    refine G.aload_n 9 0 dX0_sentOurs_9 rfl rfl ?_
    refine G.getp 10 ck_0 5 (a0 + 5) (hs.k k_a0) (pt_0_5 hs k_a0).1 (by decide) (by decide +kernel) wd_271 dX0_sentOurs_10 ?_
    refine G.iload_n 13 1 dX0_sentOurs_13 rfl rfl ?_
    refine G.ia 14 x1.toNatClampNeg (hs.k (pt_0_5 hs k_a0).2) g1 rfl dX0_sentOurs_14 ?_
    refine G.goto 15 23 dX0_sentOurs_15 (by decide) ?_
    (have hf9 := Option.some.inj hf; subst hf9)
    exact G.rI 23 hq dX0_sentOurs_23 hs
abbrev Y_X0_sentMargin : My := (cX0_sentMargin, RX0, 3)
def rm_X0_sentMargin : Room := { frames := 3, cells := 0, slots := 0, locals := 244 }
theorem dX0_sentMargin_0 : decode cX0_sentMargin 0 = .ok (.iconst 0, 1) := by decide +kernel
theorem dX0_sentMargin_1 : decode cX0_sentMargin 1 = .ok (.istore_n 1, 1) := by decide +kernel
theorem dX0_sentMargin_2 : decode cX0_sentMargin 2 = .ok (.iconst 0, 1) := by decide +kernel
theorem dX0_sentMargin_3 : decode cX0_sentMargin 3 = .ok (.istore_n 2, 1) := by decide +kernel
theorem dX0_sentMargin_4 : decode cX0_sentMargin 4 = .ok (.iload_n 2, 1) := by decide +kernel
theorem dX0_sentMargin_5 : decode cX0_sentMargin 5 = .ok (.iconst 4, 1) := by decide +kernel
theorem dX0_sentMargin_6 : decode cX0_sentMargin 6 = .ok (.if_icmp .ge 25, 3) := by decide +kernel
theorem dX0_sentMargin_9 : decode cX0_sentMargin 9 = .ok (.iload_n 1, 1) := by decide +kernel
theorem dX0_sentMargin_10 : decode cX0_sentMargin 10 = .ok (.iconst 2, 1) := by decide +kernel
theorem dX0_sentMargin_11 : decode cX0_sentMargin 11 = .ok (.aload_n 0, 1) := by decide +kernel
theorem dX0_sentMargin_12 : decode cX0_sentMargin 12 = .ok (.iload_n 2, 1) := by decide +kernel
theorem dX0_sentMargin_13 : decode cX0_sentMargin 13 = .ok (.invokevirtual 151, 3) := by decide +kernel
theorem dX0_sentMargin_16 : decode cX0_sentMargin 16 = .ok (.imul, 1) := by decide +kernel
theorem dX0_sentMargin_17 : decode cX0_sentMargin 17 = .ok (.aload_n 0, 1) := by decide +kernel
theorem dX0_sentMargin_18 : decode cX0_sentMargin 18 = .ok (.iload_n 2, 1) := by decide +kernel
theorem dX0_sentMargin_19 : decode cX0_sentMargin 19 = .ok (.invokevirtual 154, 3) := by decide +kernel
theorem dX0_sentMargin_22 : decode cX0_sentMargin 22 = .ok (.isub, 1) := by decide +kernel
theorem dX0_sentMargin_23 : decode cX0_sentMargin 23 = .ok (.iadd, 1) := by decide +kernel
theorem dX0_sentMargin_24 : decode cX0_sentMargin 24 = .ok (.istore_n 1, 1) := by decide +kernel
theorem dX0_sentMargin_25 : decode cX0_sentMargin 25 = .ok (.iinc 2 1, 3) := by decide +kernel
theorem dX0_sentMargin_28 : decode cX0_sentMargin 28 = .ok (.goto (-24), 3) := by decide +kernel
theorem dX0_sentMargin_31 : decode cX0_sentMargin 31 = .ok (.iload_n 1, 1) := by decide +kernel
theorem dX0_sentMargin_32 : decode cX0_sentMargin 32 = .ok (.ireturn, 1) := by decide +kernel
def L_X0_sentMargin_4 : Nat → Nat → Int32 → Int32 → Mem → Option Int32
  | 0, _, _, _, _ => none
  | n + 1, a0, x1, x2, M => if (4 : Int32) ≤ x2 then some x1 else (f_X0_sentOurs a0 x2 M).bind fun q4 => (f_X0_sentCame a0 x2 M).bind fun q8 => L_X0_sentMargin_4 n a0 (x1 + (((2 : Int32) * q4) - q8)) (x2 + 1) M
def f_X0_sentMargin (a0 : Nat) (M : Mem) : Option Int32 := L_X0_sentMargin_4 FU a0 (0 : Int32) (0 : Int32) M
set_option maxRecDepth 100000 in
set_option maxHeartbeats 4000000 in
theorem l_X0_sentMargin_4 (Z : Sys) (X : Cx) (hR : xR X = rm_X0_sentMargin) {q : Int32} {M : Mem} (hq : RetOk Z X (some .int) False (PostI q M) 0 0) : ∀ (n : Nat) (a0 : Nat) (x1 : Int32) (x2 : Int32) (hs : St M) (k_a0 : K0[a0]? = some (0, 12)) (hf : L_X0_sentMargin_4 n a0 x1 x2 M = some q), G Z X Y_X0_sentMargin False 0 0 4 [(0, .ref (zs Z + a0)), (1, .int x1), (2, .int x2)] [] M := by
  intro n
  induction n with
  | zero => intro a0 x1 x2 hs k_a0 hf; cases hf
  | succ n ih =>
    intro a0 x1 x2 hs k_a0 hf
    unfold L_X0_sentMargin_4 at hf
    refine G.iload_n 4 2 dX0_sentMargin_4 rfl rfl ?_
    refine G.iconst 5 (4 : Int32) dX0_sentMargin_5 (by decide +kernel) ?_
    refine G.icmp_ge 6 31 dX0_sentMargin_6 (by decide) (fun h1 => ?_) (fun h1 => ?_)
    · replace hf := (if_pos h1).symm.trans hf
      refine G.iload_n 31 1 dX0_sentMargin_31 rfl rfl ?_
      (have hf9 := Option.some.inj hf; subst hf9)
      exact G.rI 32 hq dX0_sentMargin_32 hs
    · replace hf := (if_neg h1).symm.trans hf
      refine G.iload_n 9 1 dX0_sentMargin_9 rfl rfl ?_
      refine G.iconst 10 (2 : Int32) dX0_sentMargin_10 (by decide +kernel) ?_
      refine G.aload_n 11 0 dX0_sentMargin_11 rfl rfl ?_
      refine G.iload_n 12 2 dX0_sentMargin_12 rfl rfl ?_
      obtain ⟨q4, e5, hf⟩ := bd_e hf
      refine G.cvI 13 (As := [.int x2]) ck_0 (hs.k k_a0) (c_X0_sentOurs Z hs a0 x2 k_a0 e5) mk_X0_sentOurs vk_X0_sentOurs rfl wd_724 hR (by decide +kernel) ⟨rfl, rfl⟩ rfl (Nat.le_of_ble_eq_true rfl) dX0_sentMargin_13 (fun hs2 => ?_)
      refine G.imul 16 dX0_sentMargin_16 ?_
      refine G.aload_n 17 0 dX0_sentMargin_17 rfl rfl ?_
      refine G.iload_n 18 2 dX0_sentMargin_18 rfl rfl ?_
      obtain ⟨q8, e9, hf⟩ := bd_e hf
      refine G.cvI 19 (As := [.int x2]) ck_0 (hs2.k k_a0) (c_X0_sentCame Z hs2 a0 x2 k_a0 e9) mk_X0_sentCame vk_X0_sentCame rfl wd_725 hR (by decide +kernel) ⟨rfl, rfl⟩ rfl (Nat.le_of_ble_eq_true rfl) dX0_sentMargin_19 (fun hs6 => ?_)
      refine G.isub 22 dX0_sentMargin_22 ?_
      refine G.iadd 23 dX0_sentMargin_23 ?_
      refine G.istore_n 24 [(1, .int (x1 + (((2 : Int32) * q4) - q8))), (0, .ref (zs Z + a0)), (2, .int x2)] dX0_sentMargin_24 rfl (Nat.le_of_ble_eq_true rfl) rfl ?_
      refine G.iinc 25 2 (x2 + 1) [(2, .int (x2 + 1)), (1, .int (x1 + (((2 : Int32) * q4) - q8))), (0, .ref (zs Z + a0))] dX0_sentMargin_25 rfl (congrArg (fun z => x2 + z) (by decide +kernel)) (Nat.le_of_ble_eq_true rfl) rfl ?_
      refine G.goto 28 4 dX0_sentMargin_28 (by decide) ?_
      refine G.locs [2, 1, 0] rfl ?_
      exact ih a0 (x1 + (((2 : Int32) * q4) - q8)) (x2 + 1) hs6 k_a0 hf
set_option maxRecDepth 100000 in
set_option maxHeartbeats 4000000 in
theorem c_X0_sentMargin (Z : Sys) {M : Mem} (hs : St M) (a0 : Nat) (k_a0 : K0[a0]? = some (0, 12)) {q : Int32} (hf : f_X0_sentMargin a0 M = some q) : Ct Z yX0_sentMargin cX0_sentMargin 3 (some .int) rm_X0_sentMargin [.ref (zs Z + a0)] M False (PostI q M) := by
  refine Ct.of (by decide +kernel) (Nat.le_of_ble_eq_true rfl) (fun X hR hq _ => ?_)
  show G Z X Y_X0_sentMargin False 0 0 0 [(0, .ref (zs Z + a0))] [] M
  replace hq : RetOk Z X (some .int) False (PostI q M) 0 0 := hq
  unfold f_X0_sentMargin at hf
  refine G.iconst 0 (0 : Int32) dX0_sentMargin_0 (by decide +kernel) ?_
  refine G.istore_n 1 [(1, .int (0 : Int32)), (0, .ref (zs Z + a0))] dX0_sentMargin_1 rfl (Nat.le_of_ble_eq_true rfl) rfl ?_
  refine G.iconst 2 (0 : Int32) dX0_sentMargin_2 (by decide +kernel) ?_
  refine G.istore_n 3 [(2, .int (0 : Int32)), (1, .int (0 : Int32)), (0, .ref (zs Z + a0))] dX0_sentMargin_3 rfl (Nat.le_of_ble_eq_true rfl) rfl ?_
  refine G.locs [2, 1, 0] rfl ?_
  exact l_X0_sentMargin_4 Z X hR hq FU a0 (0 : Int32) (0 : Int32) hs k_a0 hf
abbrev Y_X0_shareFromMiddle : My := (cX0_shareFromMiddle, RX0, 2)
def rm_X0_shareFromMiddle : Room := { frames := 4, cells := 0, slots := 0, locals := 265 }
theorem dX0_shareFromMiddle_0 : decode cX0_shareFromMiddle 0 = .ok (.aload_n 1, 1) := by decide +kernel
theorem dX0_shareFromMiddle_1 : decode cX0_shareFromMiddle 1 = .ok (.invokevirtual 125, 3) := by decide +kernel
theorem dX0_shareFromMiddle_4 : decode cX0_shareFromMiddle 4 = .ok (.aload_n 0, 1) := by decide +kernel
theorem dX0_shareFromMiddle_5 : decode cX0_shareFromMiddle 5 = .ok (.aload_n 1, 1) := by decide +kernel
theorem dX0_shareFromMiddle_6 : decode cX0_shareFromMiddle 6 = .ok (.getfield 131, 3) := by decide +kernel
theorem dX0_shareFromMiddle_9 : decode cX0_shareFromMiddle 9 = .ok (.invokevirtual 138, 3) := by decide +kernel
theorem dX0_shareFromMiddle_12 : decode cX0_shareFromMiddle 12 = .ok (.isub, 1) := by decide +kernel
theorem dX0_shareFromMiddle_13 : decode cX0_shareFromMiddle 13 = .ok (.ireturn, 1) := by decide +kernel
def f_X0_shareFromMiddle (a0 : Nat) (a1 : Nat) (M : Mem) : Option (Int32 × Mem) := (f_X1_share a1 M).bind fun q3 => (f_X0_middleShare a0 (mI M a1 2) M).bind fun q7 => some ((q3 - q7.1), q7.2)
set_option maxRecDepth 100000 in
set_option maxHeartbeats 4000000 in
theorem c_X0_shareFromMiddle (Z : Sys) {M : Mem} (hs : St M) (a0 : Nat) (a1 : Nat) (k_a0 : K0[a0]? = some (0, 12)) (k_a1 : K0[a1]? = some (1, 12)) {q : Int32 × Mem} (hf : f_X0_shareFromMiddle a0 a1 M = some q) : Ct Z yX0_shareFromMiddle cX0_shareFromMiddle 2 (some .int) rm_X0_shareFromMiddle [.ref (zs Z + a0), .ref (zs Z + a1)] M False (PostI q.1 q.2) := by
  refine Ct.of (by decide +kernel) (Nat.le_of_ble_eq_true rfl) (fun X hR hq _ => ?_)
  show G Z X Y_X0_shareFromMiddle False 0 0 0 [(0, .ref (zs Z + a0)), (1, .ref (zs Z + a1))] [] M
  replace hq : RetOk Z X (some .int) False (PostI q.1 q.2) 0 0 := hq
  unfold f_X0_shareFromMiddle at hf
  refine G.aload_n 0 1 dX0_shareFromMiddle_0 rfl rfl ?_
  obtain ⟨q3, e4, hf⟩ := bd_e hf
  refine G.cvI 1 (As := []) ck_1 (hs.k k_a1) (c_X1_share Z hs a1 k_a1 e4) mk_X1_share vk_X1_share rfl wd_595 hR (by decide +kernel) ⟨rfl, rfl⟩ rfl (Nat.le_of_ble_eq_true rfl) dX0_shareFromMiddle_1 (fun hs1 => ?_)
  refine G.aload_n 4 0 dX0_shareFromMiddle_4 rfl rfl ?_
  refine G.aload_n 5 1 dX0_shareFromMiddle_5 rfl rfl ?_
  refine G.geti 6 ck_1 2 (hs1.k k_a1) (by decide) (by decide +kernel) wd_196 dX0_shareFromMiddle_6 ?_
  obtain ⟨q7, e8, hf⟩ := bd_e hf
  refine G.cvI 9 (As := [.int (mI M a1 2)]) ck_0 (hs1.k k_a0) (c_X0_middleShare Z hs1 a0 (mI M a1 2) k_a0 e8) mk_X0_middleShare vk_X0_middleShare rfl wd_629 hR (by decide +kernel) ⟨rfl, rfl⟩ rfl (Nat.le_of_ble_eq_true rfl) dX0_shareFromMiddle_9 (fun hs5 => ?_)
  refine G.isub 12 dX0_shareFromMiddle_12 ?_
  (have hf9 := Option.some.inj hf; subst hf9)
  exact G.rI 13 hq dX0_shareFromMiddle_13 hs5
abbrev Y_X0_watchedCount : My := (cX0_watchedCount, RX0, 3)
def rm_X0_watchedCount : Room := { frames := 1, cells := 0, slots := 0, locals := 200 }
theorem dX0_watchedCount_0 : decode cX0_watchedCount 0 = .ok (.iconst 0, 1) := by decide +kernel
theorem dX0_watchedCount_1 : decode cX0_watchedCount 1 = .ok (.istore_n 1, 1) := by decide +kernel
theorem dX0_watchedCount_2 : decode cX0_watchedCount 2 = .ok (.iconst 0, 1) := by decide +kernel
theorem dX0_watchedCount_3 : decode cX0_watchedCount 3 = .ok (.istore_n 2, 1) := by decide +kernel
theorem dX0_watchedCount_4 : decode cX0_watchedCount 4 = .ok (.iload_n 2, 1) := by decide +kernel
theorem dX0_watchedCount_5 : decode cX0_watchedCount 5 = .ok (.aload_n 0, 1) := by decide +kernel
theorem dX0_watchedCount_6 : decode cX0_watchedCount 6 = .ok (.getfield 53, 3) := by decide +kernel
theorem dX0_watchedCount_9 : decode cX0_watchedCount 9 = .ok (.if_icmp .ge 24, 3) := by decide +kernel
theorem dX0_watchedCount_12 : decode cX0_watchedCount 12 = .ok (.aload_n 0, 1) := by decide +kernel
theorem dX0_watchedCount_13 : decode cX0_watchedCount 13 = .ok (.getfield 13, 3) := by decide +kernel
theorem dX0_watchedCount_16 : decode cX0_watchedCount 16 = .ok (.iload_n 2, 1) := by decide +kernel
theorem dX0_watchedCount_17 : decode cX0_watchedCount 17 = .ok (.aaload, 1) := by decide +kernel
theorem dX0_watchedCount_18 : decode cX0_watchedCount 18 = .ok (.getfield 86, 3) := by decide +kernel
theorem dX0_watchedCount_21 : decode cX0_watchedCount 21 = .ok (.ifCond .eq 6, 3) := by decide +kernel
theorem dX0_watchedCount_24 : decode cX0_watchedCount 24 = .ok (.iinc 1 1, 3) := by decide +kernel
theorem dX0_watchedCount_27 : decode cX0_watchedCount 27 = .ok (.iinc 2 1, 3) := by decide +kernel
theorem dX0_watchedCount_30 : decode cX0_watchedCount 30 = .ok (.goto (-26), 3) := by decide +kernel
theorem dX0_watchedCount_33 : decode cX0_watchedCount 33 = .ok (.iload_n 1, 1) := by decide +kernel
theorem dX0_watchedCount_34 : decode cX0_watchedCount 34 = .ok (.ireturn, 1) := by decide +kernel
def B_X0_watchedCount_27 (rc_4 : Nat → Int32 → Int32 → Mem → Option Int32) (a0 : Nat) (x1 : Int32) (x2 : Int32) (M : Mem) : Option Int32 := rc_4 a0 x1 (x2 + 1) M
def L_X0_watchedCount_4 : Nat → Nat → Int32 → Int32 → Mem → Option Int32
  | 0, _, _, _, _ => none
  | n + 1, a0, x1, x2, M => if (mI M a0 1) ≤ x2 then some x1 else gd (inR x2 30) (if (mI M ((a0 + 1) + 23 + 2 * x2.toNatClampNeg) 8) = 0 then B_X0_watchedCount_27 (L_X0_watchedCount_4 n) a0 x1 x2 M else B_X0_watchedCount_27 (L_X0_watchedCount_4 n) a0 (x1 + 1) x2 M)
def f_X0_watchedCount (a0 : Nat) (M : Mem) : Option Int32 := L_X0_watchedCount_4 FU a0 (0 : Int32) (0 : Int32) M
set_option maxRecDepth 100000 in
set_option maxHeartbeats 4000000 in
theorem b_X0_watchedCount_27 (Z : Sys) (X : Cx) (hR : xR X = rm_X0_watchedCount) {q : Int32} {M : Mem} (hq : RetOk Z X (some .int) False (PostI q M) 0 0) (rc_4 : Nat → Int32 → Int32 → Mem → Option Int32) (hrc_4 : ∀ (a0 : Nat) (x1 : Int32) (x2 : Int32), St M → K0[a0]? = some (0, 12) → rc_4 a0 x1 x2 M = some q → G Z X Y_X0_watchedCount False 0 0 4 [(0, .ref (zs Z + a0)), (1, .int x1), (2, .int x2)] [] M) (a0 : Nat) (x1 : Int32) (x2 : Int32) (hs : St M) (k_a0 : K0[a0]? = some (0, 12)) (hf : B_X0_watchedCount_27 rc_4 a0 x1 x2 M = some q) : G Z X Y_X0_watchedCount False 0 0 27 [(0, .ref (zs Z + a0)), (1, .int x1), (2, .int x2)] [] M := by
  unfold B_X0_watchedCount_27 at hf
  refine G.iinc 27 2 (x2 + 1) [(2, .int (x2 + 1)), (0, .ref (zs Z + a0)), (1, .int x1)] dX0_watchedCount_27 rfl (congrArg (fun z => x2 + z) (by decide +kernel)) (Nat.le_of_ble_eq_true rfl) rfl ?_
  refine G.goto 30 4 dX0_watchedCount_30 (by decide) ?_
  refine G.locs [1, 2, 0] rfl ?_
  exact hrc_4 a0 x1 (x2 + 1) hs k_a0 hf
set_option maxRecDepth 100000 in
set_option maxHeartbeats 4000000 in
theorem l_X0_watchedCount_4 (Z : Sys) (X : Cx) (hR : xR X = rm_X0_watchedCount) {q : Int32} {M : Mem} (hq : RetOk Z X (some .int) False (PostI q M) 0 0) : ∀ (n : Nat) (a0 : Nat) (x1 : Int32) (x2 : Int32) (hs : St M) (k_a0 : K0[a0]? = some (0, 12)) (hf : L_X0_watchedCount_4 n a0 x1 x2 M = some q), G Z X Y_X0_watchedCount False 0 0 4 [(0, .ref (zs Z + a0)), (1, .int x1), (2, .int x2)] [] M := by
  intro n
  induction n with
  | zero => intro a0 x1 x2 hs k_a0 hf; cases hf
  | succ n ih =>
    intro a0 x1 x2 hs k_a0 hf
    unfold L_X0_watchedCount_4 at hf
    refine G.iload_n 4 2 dX0_watchedCount_4 rfl rfl ?_
    refine G.aload_n 5 0 dX0_watchedCount_5 rfl rfl ?_
    refine G.geti 6 ck_0 1 (hs.k k_a0) (by decide) (by decide +kernel) wd_261 dX0_watchedCount_6 ?_
    refine G.icmp_ge 9 33 dX0_watchedCount_9 (by decide) (fun h1 => ?_) (fun h1 => ?_)
    · replace hf := (if_pos h1).symm.trans hf
      refine G.iload_n 33 1 dX0_watchedCount_33 rfl rfl ?_
      (have hf9 := Option.some.inj hf; subst hf9)
      exact G.rI 34 hq dX0_watchedCount_34 hs
    · replace hf := (if_neg h1).symm.trans hf
      refine G.aload_n 12 0 dX0_watchedCount_12 rfl rfl ?_
      refine G.getp 13 ck_0 0 (a0 + 1) (hs.k k_a0) (pt_0_0 hs k_a0).1 (by decide) (by decide +kernel) wd_257 dX0_watchedCount_13 ?_
      refine G.iload_n 16 2 dX0_watchedCount_16 rfl rfl ?_
      obtain ⟨g2, hf⟩ := gd_e hf
      refine G.aa 17 x2.toNatClampNeg ((a0 + 1) + 23 + 2 * x2.toNatClampNeg) (hs.k (pt_0_0 hs k_a0).2) (by decide) rfl rfl g2 rfl (pa_13 hs (pt_0_0 hs k_a0).2 (inlt g2)).1 dX0_watchedCount_17 ?_
      refine G.geti 18 ck_1 8 (hs.k (pa_13 hs (pt_0_0 hs k_a0).2 (inlt g2)).2) (by decide) (by decide +kernel) wd_216 dX0_watchedCount_18 ?_
      refine G.if_eq 21 27 dX0_watchedCount_21 (by decide) (fun h3 => ?_) (fun h3 => ?_)
      · replace hf := (if_pos h3).symm.trans hf
        exact b_X0_watchedCount_27 Z X hR hq (L_X0_watchedCount_4 n) ih a0 x1 x2 hs k_a0 hf
      · replace hf := (if_neg h3).symm.trans hf
        refine G.iinc 24 1 (x1 + 1) [(1, .int (x1 + 1)), (0, .ref (zs Z + a0)), (2, .int x2)] dX0_watchedCount_24 rfl (congrArg (fun z => x1 + z) (by decide +kernel)) (Nat.le_of_ble_eq_true rfl) rfl ?_
        refine G.locs [1, 0, 2] rfl ?_
        exact b_X0_watchedCount_27 Z X hR hq (L_X0_watchedCount_4 n) ih a0 (x1 + 1) x2 hs k_a0 hf
set_option maxRecDepth 100000 in
set_option maxHeartbeats 4000000 in
theorem c_X0_watchedCount (Z : Sys) {M : Mem} (hs : St M) (a0 : Nat) (k_a0 : K0[a0]? = some (0, 12)) {q : Int32} (hf : f_X0_watchedCount a0 M = some q) : Ct Z yX0_watchedCount cX0_watchedCount 3 (some .int) rm_X0_watchedCount [.ref (zs Z + a0)] M False (PostI q M) := by
  refine Ct.of (by decide +kernel) (Nat.le_of_ble_eq_true rfl) (fun X hR hq _ => ?_)
  show G Z X Y_X0_watchedCount False 0 0 0 [(0, .ref (zs Z + a0))] [] M
  replace hq : RetOk Z X (some .int) False (PostI q M) 0 0 := hq
  unfold f_X0_watchedCount at hf
  refine G.iconst 0 (0 : Int32) dX0_watchedCount_0 (by decide +kernel) ?_
  refine G.istore_n 1 [(1, .int (0 : Int32)), (0, .ref (zs Z + a0))] dX0_watchedCount_1 rfl (Nat.le_of_ble_eq_true rfl) rfl ?_
  refine G.iconst 2 (0 : Int32) dX0_watchedCount_2 (by decide +kernel) ?_
  refine G.istore_n 3 [(2, .int (0 : Int32)), (1, .int (0 : Int32)), (0, .ref (zs Z + a0))] dX0_watchedCount_3 rfl (Nat.le_of_ble_eq_true rfl) rfl ?_
  refine G.locs [2, 1, 0] rfl ?_
  exact l_X0_watchedCount_4 Z X hR hq FU a0 (0 : Int32) (0 : Int32) hs k_a0 hf
abbrev Y_X1_write : My := (cX1_write, RX1, 3)
def rm_X1_write : Room := { frames := 1, cells := 0, slots := 0, locals := 200 }
theorem dX1_write_0 : decode cX1_write 0 = .ok (.aload_n 0, 1) := by decide +kernel
theorem dX1_write_1 : decode cX1_write 1 = .ok (.iconst 0, 1) := by decide +kernel
theorem dX1_write_2 : decode cX1_write 2 = .ok (.putfield 50, 3) := by decide +kernel
theorem dX1_write_5 : decode cX1_write 5 = .ok (.aload_n 0, 1) := by decide +kernel
theorem dX1_write_6 : decode cX1_write 6 = .ok (.iload_n 1, 1) := by decide +kernel
theorem dX1_write_7 : decode cX1_write 7 = .ok (.putfield 57, 3) := by decide +kernel
theorem dX1_write_10 : decode cX1_write 10 = .ok (.aload_n 0, 1) := by decide +kernel
theorem dX1_write_11 : decode cX1_write 11 = .ok (.iload_n 2, 1) := by decide +kernel
theorem dX1_write_12 : decode cX1_write 12 = .ok (.putfield 60, 3) := by decide +kernel
theorem dX1_write_15 : decode cX1_write 15 = .ok (.return_, 1) := by decide +kernel
def f_X1_write (a0 : Nat) (x1 : Int32) (x2 : Int32) (M : Mem) : Option Mem := some (sI (sI (sI M a0 9 (0 : Int32)) a0 10 x1) a0 11 x2)
set_option maxRecDepth 100000 in
set_option maxHeartbeats 4000000 in
theorem c_X1_write (Z : Sys) {M : Mem} (hs : St M) (a0 : Nat) (x1 : Int32) (x2 : Int32) (k_a0 : K0[a0]? = some (1, 12)) {q : Mem} (hf : f_X1_write a0 x1 x2 M = some q) : Ct Z yX1_write cX1_write 3 none rm_X1_write [.ref (zs Z + a0), .int x1, .int x2] M False (PostV q) := by
  refine Ct.of (by decide +kernel) (Nat.le_of_ble_eq_true rfl) (fun X hR hq _ => ?_)
  show G Z X Y_X1_write False 0 0 0 [(0, .ref (zs Z + a0)), (1, .int x1), (2, .int x2)] [] M
  replace hq : RetOk Z X none False (PostV q) 0 0 := hq
  unfold f_X1_write at hf
  refine G.aload_n 0 0 dX1_write_0 rfl rfl ?_
  refine G.iconst 1 (0 : Int32) dX1_write_1 (by decide +kernel) ?_
  refine G.puti 2 ck_1 9 (hs.k k_a0) (by decide) (by decide +kernel) rfl wd_220 rfl rfl dX1_write_2 ?_
  refine G.aload_n 5 0 dX1_write_5 rfl rfl ?_
  refine G.iload_n 6 1 dX1_write_6 rfl rfl ?_
  refine G.puti 7 ck_1 10 ((St.i hs).k k_a0) (by decide) (by decide +kernel) rfl wd_224 rfl rfl dX1_write_7 ?_
  refine G.aload_n 10 0 dX1_write_10 rfl rfl ?_
  refine G.iload_n 11 2 dX1_write_11 rfl rfl ?_
  refine G.puti 12 ck_1 11 ((St.i (St.i hs)).k k_a0) (by decide) (by decide +kernel) rfl wd_228 rfl rfl dX1_write_12 ?_
  (have hf9 := Option.some.inj hf; subst hf9)
  exact G.rV 15 hq dX1_write_15 (St.i (St.i (St.i hs)))
abbrev Y_X0_writeTruth : My := (cX0_writeTruth, RX0, 3)
def rm_X0_writeTruth : Room := { frames := 2, cells := 0, slots := 0, locals := 222 }
theorem dX0_writeTruth_0 : decode cX0_writeTruth 0 = .ok (.iconst 0, 1) := by decide +kernel
theorem dX0_writeTruth_1 : decode cX0_writeTruth 1 = .ok (.istore_n 1, 1) := by decide +kernel
theorem dX0_writeTruth_2 : decode cX0_writeTruth 2 = .ok (.iload_n 1, 1) := by decide +kernel
theorem dX0_writeTruth_3 : decode cX0_writeTruth 3 = .ok (.aload_n 0, 1) := by decide +kernel
theorem dX0_writeTruth_4 : decode cX0_writeTruth 4 = .ok (.getfield 53, 3) := by decide +kernel
theorem dX0_writeTruth_7 : decode cX0_writeTruth 7 = .ok (.if_icmp .ge 35, 3) := by decide +kernel
theorem dX0_writeTruth_10 : decode cX0_writeTruth 10 = .ok (.aload_n 0, 1) := by decide +kernel
theorem dX0_writeTruth_11 : decode cX0_writeTruth 11 = .ok (.getfield 13, 3) := by decide +kernel
theorem dX0_writeTruth_14 : decode cX0_writeTruth 14 = .ok (.iload_n 1, 1) := by decide +kernel
theorem dX0_writeTruth_15 : decode cX0_writeTruth 15 = .ok (.aaload, 1) := by decide +kernel
theorem dX0_writeTruth_16 : decode cX0_writeTruth 16 = .ok (.astore_n 2, 1) := by decide +kernel
theorem dX0_writeTruth_17 : decode cX0_writeTruth 17 = .ok (.aload_n 2, 1) := by decide +kernel
theorem dX0_writeTruth_18 : decode cX0_writeTruth 18 = .ok (.getfield 78, 3) := by decide +kernel
theorem dX0_writeTruth_21 : decode cX0_writeTruth 21 = .ok (.ifCond .ne 15, 3) := by decide +kernel
theorem dX0_writeTruth_24 : decode cX0_writeTruth 24 = .ok (.aload_n 2, 1) := by decide +kernel
theorem dX0_writeTruth_25 : decode cX0_writeTruth 25 = .ok (.aload_n 2, 1) := by decide +kernel
theorem dX0_writeTruth_26 : decode cX0_writeTruth 26 = .ok (.getfield 200, 3) := by decide +kernel
theorem dX0_writeTruth_29 : decode cX0_writeTruth 29 = .ok (.aload_n 2, 1) := by decide +kernel
theorem dX0_writeTruth_30 : decode cX0_writeTruth 30 = .ok (.getfield 203, 3) := by decide +kernel
theorem dX0_writeTruth_33 : decode cX0_writeTruth 33 = .ok (.invokevirtual 209, 3) := by decide +kernel
theorem dX0_writeTruth_36 : decode cX0_writeTruth 36 = .ok (.iinc 1 1, 3) := by decide +kernel
theorem dX0_writeTruth_39 : decode cX0_writeTruth 39 = .ok (.goto (-37), 3) := by decide +kernel
theorem dX0_writeTruth_42 : decode cX0_writeTruth 42 = .ok (.return_, 1) := by decide +kernel
def B_X0_writeTruth_36 (rc_2 : Nat → Int32 → Mem → Option Mem) (a0 : Nat) (x1 : Int32) (M : Mem) : Option Mem := rc_2 a0 (x1 + 1) M
def L_X0_writeTruth_2 : Nat → Nat → Int32 → Mem → Option Mem
  | 0, _, _, _ => none
  | n + 1, a0, x1, M => if (mI M a0 1) ≤ x1 then some M else gd (inR x1 30) (if (mI M ((a0 + 1) + 23 + 2 * x1.toNatClampNeg) 9) = 0 then (f_X1_write ((a0 + 1) + 23 + 2 * x1.toNatClampNeg) (mI M ((a0 + 1) + 23 + 2 * x1.toNatClampNeg) 6) (mI M ((a0 + 1) + 23 + 2 * x1.toNatClampNeg) 7) M).bind fun q6 => B_X0_writeTruth_36 (L_X0_writeTruth_2 n) a0 x1 q6 else B_X0_writeTruth_36 (L_X0_writeTruth_2 n) a0 x1 M)
def f_X0_writeTruth (a0 : Nat) (M : Mem) : Option Mem := L_X0_writeTruth_2 FU a0 (0 : Int32) M
set_option maxRecDepth 100000 in
set_option maxHeartbeats 4000000 in
theorem b_X0_writeTruth_36 (Z : Sys) (X : Cx) (hR : xR X = rm_X0_writeTruth) {q : Mem} (hq : RetOk Z X none False (PostV q) 0 0) (rc_2 : Nat → Int32 → Mem → Option Mem) (hrc_2 : ∀ (a0 : Nat) (x1 : Int32) (M : Mem), St M → K0[a0]? = some (0, 12) → rc_2 a0 x1 M = some q → G Z X Y_X0_writeTruth False 0 0 2 [(0, .ref (zs Z + a0)), (1, .int x1)] [] M) (a0 : Nat) (x1 : Int32) {M : Mem} (hs : St M) (k_a0 : K0[a0]? = some (0, 12)) (hf : B_X0_writeTruth_36 rc_2 a0 x1 M = some q) : G Z X Y_X0_writeTruth False 0 0 36 [(0, .ref (zs Z + a0)), (1, .int x1)] [] M := by
  unfold B_X0_writeTruth_36 at hf
  refine G.iinc 36 1 (x1 + 1) [(1, .int (x1 + 1)), (0, .ref (zs Z + a0))] dX0_writeTruth_36 rfl (congrArg (fun z => x1 + z) (by decide +kernel)) (Nat.le_of_ble_eq_true rfl) rfl ?_
  refine G.goto 39 2 dX0_writeTruth_39 (by decide) ?_
  refine G.locs [1, 0] rfl ?_
  exact hrc_2 a0 (x1 + 1) M hs k_a0 hf
set_option maxRecDepth 100000 in
set_option maxHeartbeats 4000000 in
theorem l_X0_writeTruth_2 (Z : Sys) (X : Cx) (hR : xR X = rm_X0_writeTruth) {q : Mem} (hq : RetOk Z X none False (PostV q) 0 0) : ∀ (n : Nat) (a0 : Nat) (x1 : Int32) (M : Mem) (hs : St M) (k_a0 : K0[a0]? = some (0, 12)) (hf : L_X0_writeTruth_2 n a0 x1 M = some q), G Z X Y_X0_writeTruth False 0 0 2 [(0, .ref (zs Z + a0)), (1, .int x1)] [] M := by
  intro n
  induction n with
  | zero => intro a0 x1 M hs k_a0 hf; cases hf
  | succ n ih =>
    intro a0 x1 M hs k_a0 hf
    unfold L_X0_writeTruth_2 at hf
    refine G.iload_n 2 1 dX0_writeTruth_2 rfl rfl ?_
    refine G.aload_n 3 0 dX0_writeTruth_3 rfl rfl ?_
    refine G.geti 4 ck_0 1 (hs.k k_a0) (by decide) (by decide +kernel) wd_261 dX0_writeTruth_4 ?_
    refine G.icmp_ge 7 42 dX0_writeTruth_7 (by decide) (fun h1 => ?_) (fun h1 => ?_)
    · replace hf := (if_pos h1).symm.trans hf
      (have hf9 := Option.some.inj hf; subst hf9)
      exact G.rV 42 hq dX0_writeTruth_42 hs
    · replace hf := (if_neg h1).symm.trans hf
      refine G.aload_n 10 0 dX0_writeTruth_10 rfl rfl ?_
      refine G.getp 11 ck_0 0 (a0 + 1) (hs.k k_a0) (pt_0_0 hs k_a0).1 (by decide) (by decide +kernel) wd_257 dX0_writeTruth_11 ?_
      refine G.iload_n 14 1 dX0_writeTruth_14 rfl rfl ?_
      obtain ⟨g2, hf⟩ := gd_e hf
      refine G.aa 15 x1.toNatClampNeg ((a0 + 1) + 23 + 2 * x1.toNatClampNeg) (hs.k (pt_0_0 hs k_a0).2) (by decide) rfl rfl g2 rfl (pa_13 hs (pt_0_0 hs k_a0).2 (inlt g2)).1 dX0_writeTruth_15 ?_
      refine G.astore_n 16 [(2, .ref (zs Z + ((a0 + 1) + 23 + 2 * x1.toNatClampNeg))), (0, .ref (zs Z + a0)), (1, .int x1)] dX0_writeTruth_16 rfl (Nat.le_of_ble_eq_true rfl) rfl ?_
      refine G.aload_n 17 0 dX0_writeTruth_17 rfl rfl ?_
      refine G.geti 18 ck_1 9 (hs.k (pa_13 hs (pt_0_0 hs k_a0).2 (inlt g2)).2) (by decide) (by decide +kernel) wd_222 dX0_writeTruth_18 ?_
      refine G.if_ne 21 36 dX0_writeTruth_21 (by decide) (fun h3 => ?_) (fun h3 => ?_)
      · replace hf := (if_neg h3).symm.trans hf
        refine G.locs [1, 2] rfl ?_
        exact b_X0_writeTruth_36 Z X hR hq (L_X0_writeTruth_2 n) ih a0 x1 hs k_a0 hf
      · replace hf := (if_pos h3).symm.trans hf
        refine G.aload_n 24 0 dX0_writeTruth_24 rfl rfl ?_
        refine G.aload_n 25 0 dX0_writeTruth_25 rfl rfl ?_
        refine G.geti 26 ck_1 6 (hs.k (pa_13 hs (pt_0_0 hs k_a0).2 (inlt g2)).2) (by decide) (by decide +kernel) wd_209 dX0_writeTruth_26 ?_
        refine G.aload_n 29 0 dX0_writeTruth_29 rfl rfl ?_
        refine G.geti 30 ck_1 7 (hs.k (pa_13 hs (pt_0_0 hs k_a0).2 (inlt g2)).2) (by decide) (by decide +kernel) wd_212 dX0_writeTruth_30 ?_
        obtain ⟨q6, e7, hf⟩ := bd_e hf
        refine G.cvV 33 (As := [.int (mI M ((a0 + 1) + 23 + 2 * x1.toNatClampNeg) 6), .int (mI M ((a0 + 1) + 23 + 2 * x1.toNatClampNeg) 7)]) ck_1 (hs.k (pa_13 hs (pt_0_0 hs k_a0).2 (inlt g2)).2) (c_X1_write Z hs ((a0 + 1) + 23 + 2 * x1.toNatClampNeg) (mI M ((a0 + 1) + 23 + 2 * x1.toNatClampNeg) 6) (mI M ((a0 + 1) + 23 + 2 * x1.toNatClampNeg) 7) (pa_13 hs (pt_0_0 hs k_a0).2 (inlt g2)).2 e7) mk_X1_write vk_X1_write rfl wd_865 hR (by decide +kernel) ⟨rfl, rfl⟩ rfl (Nat.le_of_ble_eq_true rfl) dX0_writeTruth_33 (fun hs4 => ?_)
        refine G.locs [1, 2] rfl ?_
        exact b_X0_writeTruth_36 Z X hR hq (L_X0_writeTruth_2 n) ih a0 x1 hs4 k_a0 hf
set_option maxRecDepth 100000 in
set_option maxHeartbeats 4000000 in
theorem c_X0_writeTruth (Z : Sys) {M : Mem} (hs : St M) (a0 : Nat) (k_a0 : K0[a0]? = some (0, 12)) {q : Mem} (hf : f_X0_writeTruth a0 M = some q) : Ct Z yX0_writeTruth cX0_writeTruth 3 none rm_X0_writeTruth [.ref (zs Z + a0)] M False (PostV q) := by
  refine Ct.of (by decide +kernel) (Nat.le_of_ble_eq_true rfl) (fun X hR hq _ => ?_)
  show G Z X Y_X0_writeTruth False 0 0 0 [(0, .ref (zs Z + a0))] [] M
  replace hq : RetOk Z X none False (PostV q) 0 0 := hq
  unfold f_X0_writeTruth at hf
  refine G.iconst 0 (0 : Int32) dX0_writeTruth_0 (by decide +kernel) ?_
  refine G.istore_n 1 [(1, .int (0 : Int32)), (0, .ref (zs Z + a0))] dX0_writeTruth_1 rfl (Nat.le_of_ble_eq_true rfl) rfl ?_
  refine G.locs [1, 0] rfl ?_
  exact l_X0_writeTruth_2 Z X hR hq FU a0 (0 : Int32) M hs k_a0 hf
abbrev Y_X0_writtenCount : My := (cX0_writtenCount, RX0, 3)
def rm_X0_writtenCount : Room := { frames := 1, cells := 0, slots := 0, locals := 200 }
theorem dX0_writtenCount_0 : decode cX0_writtenCount 0 = .ok (.iconst 0, 1) := by decide +kernel
theorem dX0_writtenCount_1 : decode cX0_writtenCount 1 = .ok (.istore_n 1, 1) := by decide +kernel
theorem dX0_writtenCount_2 : decode cX0_writtenCount 2 = .ok (.iconst 0, 1) := by decide +kernel
theorem dX0_writtenCount_3 : decode cX0_writtenCount 3 = .ok (.istore_n 2, 1) := by decide +kernel
theorem dX0_writtenCount_4 : decode cX0_writtenCount 4 = .ok (.iload_n 2, 1) := by decide +kernel
theorem dX0_writtenCount_5 : decode cX0_writtenCount 5 = .ok (.aload_n 0, 1) := by decide +kernel
theorem dX0_writtenCount_6 : decode cX0_writtenCount 6 = .ok (.getfield 53, 3) := by decide +kernel
theorem dX0_writtenCount_9 : decode cX0_writtenCount 9 = .ok (.if_icmp .ge 24, 3) := by decide +kernel
theorem dX0_writtenCount_12 : decode cX0_writtenCount 12 = .ok (.aload_n 0, 1) := by decide +kernel
theorem dX0_writtenCount_13 : decode cX0_writtenCount 13 = .ok (.getfield 13, 3) := by decide +kernel
theorem dX0_writtenCount_16 : decode cX0_writtenCount 16 = .ok (.iload_n 2, 1) := by decide +kernel
theorem dX0_writtenCount_17 : decode cX0_writtenCount 17 = .ok (.aaload, 1) := by decide +kernel
theorem dX0_writtenCount_18 : decode cX0_writtenCount 18 = .ok (.getfield 78, 3) := by decide +kernel
theorem dX0_writtenCount_21 : decode cX0_writtenCount 21 = .ok (.ifCond .ne 6, 3) := by decide +kernel
theorem dX0_writtenCount_24 : decode cX0_writtenCount 24 = .ok (.iinc 1 1, 3) := by decide +kernel
theorem dX0_writtenCount_27 : decode cX0_writtenCount 27 = .ok (.iinc 2 1, 3) := by decide +kernel
theorem dX0_writtenCount_30 : decode cX0_writtenCount 30 = .ok (.goto (-26), 3) := by decide +kernel
theorem dX0_writtenCount_33 : decode cX0_writtenCount 33 = .ok (.iload_n 1, 1) := by decide +kernel
theorem dX0_writtenCount_34 : decode cX0_writtenCount 34 = .ok (.ireturn, 1) := by decide +kernel
def B_X0_writtenCount_27 (rc_4 : Nat → Int32 → Int32 → Mem → Option Int32) (a0 : Nat) (x1 : Int32) (x2 : Int32) (M : Mem) : Option Int32 := rc_4 a0 x1 (x2 + 1) M
def L_X0_writtenCount_4 : Nat → Nat → Int32 → Int32 → Mem → Option Int32
  | 0, _, _, _, _ => none
  | n + 1, a0, x1, x2, M => if (mI M a0 1) ≤ x2 then some x1 else gd (inR x2 30) (if (mI M ((a0 + 1) + 23 + 2 * x2.toNatClampNeg) 9) = 0 then B_X0_writtenCount_27 (L_X0_writtenCount_4 n) a0 (x1 + 1) x2 M else B_X0_writtenCount_27 (L_X0_writtenCount_4 n) a0 x1 x2 M)
def f_X0_writtenCount (a0 : Nat) (M : Mem) : Option Int32 := L_X0_writtenCount_4 FU a0 (0 : Int32) (0 : Int32) M
set_option maxRecDepth 100000 in
set_option maxHeartbeats 4000000 in
theorem b_X0_writtenCount_27 (Z : Sys) (X : Cx) (hR : xR X = rm_X0_writtenCount) {q : Int32} {M : Mem} (hq : RetOk Z X (some .int) False (PostI q M) 0 0) (rc_4 : Nat → Int32 → Int32 → Mem → Option Int32) (hrc_4 : ∀ (a0 : Nat) (x1 : Int32) (x2 : Int32), St M → K0[a0]? = some (0, 12) → rc_4 a0 x1 x2 M = some q → G Z X Y_X0_writtenCount False 0 0 4 [(0, .ref (zs Z + a0)), (1, .int x1), (2, .int x2)] [] M) (a0 : Nat) (x1 : Int32) (x2 : Int32) (hs : St M) (k_a0 : K0[a0]? = some (0, 12)) (hf : B_X0_writtenCount_27 rc_4 a0 x1 x2 M = some q) : G Z X Y_X0_writtenCount False 0 0 27 [(0, .ref (zs Z + a0)), (1, .int x1), (2, .int x2)] [] M := by
  unfold B_X0_writtenCount_27 at hf
  refine G.iinc 27 2 (x2 + 1) [(2, .int (x2 + 1)), (0, .ref (zs Z + a0)), (1, .int x1)] dX0_writtenCount_27 rfl (congrArg (fun z => x2 + z) (by decide +kernel)) (Nat.le_of_ble_eq_true rfl) rfl ?_
  refine G.goto 30 4 dX0_writtenCount_30 (by decide) ?_
  refine G.locs [1, 2, 0] rfl ?_
  exact hrc_4 a0 x1 (x2 + 1) hs k_a0 hf
set_option maxRecDepth 100000 in
set_option maxHeartbeats 4000000 in
theorem l_X0_writtenCount_4 (Z : Sys) (X : Cx) (hR : xR X = rm_X0_writtenCount) {q : Int32} {M : Mem} (hq : RetOk Z X (some .int) False (PostI q M) 0 0) : ∀ (n : Nat) (a0 : Nat) (x1 : Int32) (x2 : Int32) (hs : St M) (k_a0 : K0[a0]? = some (0, 12)) (hf : L_X0_writtenCount_4 n a0 x1 x2 M = some q), G Z X Y_X0_writtenCount False 0 0 4 [(0, .ref (zs Z + a0)), (1, .int x1), (2, .int x2)] [] M := by
  intro n
  induction n with
  | zero => intro a0 x1 x2 hs k_a0 hf; cases hf
  | succ n ih =>
    intro a0 x1 x2 hs k_a0 hf
    unfold L_X0_writtenCount_4 at hf
    refine G.iload_n 4 2 dX0_writtenCount_4 rfl rfl ?_
    refine G.aload_n 5 0 dX0_writtenCount_5 rfl rfl ?_
    refine G.geti 6 ck_0 1 (hs.k k_a0) (by decide) (by decide +kernel) wd_261 dX0_writtenCount_6 ?_
    refine G.icmp_ge 9 33 dX0_writtenCount_9 (by decide) (fun h1 => ?_) (fun h1 => ?_)
    · replace hf := (if_pos h1).symm.trans hf
      refine G.iload_n 33 1 dX0_writtenCount_33 rfl rfl ?_
      (have hf9 := Option.some.inj hf; subst hf9)
      exact G.rI 34 hq dX0_writtenCount_34 hs
    · replace hf := (if_neg h1).symm.trans hf
      refine G.aload_n 12 0 dX0_writtenCount_12 rfl rfl ?_
      refine G.getp 13 ck_0 0 (a0 + 1) (hs.k k_a0) (pt_0_0 hs k_a0).1 (by decide) (by decide +kernel) wd_257 dX0_writtenCount_13 ?_
      refine G.iload_n 16 2 dX0_writtenCount_16 rfl rfl ?_
      obtain ⟨g2, hf⟩ := gd_e hf
      refine G.aa 17 x2.toNatClampNeg ((a0 + 1) + 23 + 2 * x2.toNatClampNeg) (hs.k (pt_0_0 hs k_a0).2) (by decide) rfl rfl g2 rfl (pa_13 hs (pt_0_0 hs k_a0).2 (inlt g2)).1 dX0_writtenCount_17 ?_
      refine G.geti 18 ck_1 9 (hs.k (pa_13 hs (pt_0_0 hs k_a0).2 (inlt g2)).2) (by decide) (by decide +kernel) wd_222 dX0_writtenCount_18 ?_
      refine G.if_ne 21 27 dX0_writtenCount_21 (by decide) (fun h3 => ?_) (fun h3 => ?_)
      · replace hf := (if_neg h3).symm.trans hf
        exact b_X0_writtenCount_27 Z X hR hq (L_X0_writtenCount_4 n) ih a0 x1 x2 hs k_a0 hf
      · replace hf := (if_pos h3).symm.trans hf
        refine G.iinc 24 1 (x1 + 1) [(1, .int (x1 + 1)), (0, .ref (zs Z + a0)), (2, .int x2)] dX0_writtenCount_24 rfl (congrArg (fun z => x1 + z) (by decide +kernel)) (Nat.le_of_ble_eq_true rfl) rfl ?_
        refine G.locs [1, 0, 2] rfl ?_
        exact b_X0_writtenCount_27 Z X hR hq (L_X0_writtenCount_4 n) ih a0 (x1 + 1) x2 hs k_a0 hf
set_option maxRecDepth 100000 in
set_option maxHeartbeats 4000000 in
theorem c_X0_writtenCount (Z : Sys) {M : Mem} (hs : St M) (a0 : Nat) (k_a0 : K0[a0]? = some (0, 12)) {q : Int32} (hf : f_X0_writtenCount a0 M = some q) : Ct Z yX0_writtenCount cX0_writtenCount 3 (some .int) rm_X0_writtenCount [.ref (zs Z + a0)] M False (PostI q M) := by
  refine Ct.of (by decide +kernel) (Nat.le_of_ble_eq_true rfl) (fun X hR hq _ => ?_)
  show G Z X Y_X0_writtenCount False 0 0 0 [(0, .ref (zs Z + a0))] [] M
  replace hq : RetOk Z X (some .int) False (PostI q M) 0 0 := hq
  unfold f_X0_writtenCount at hf
  refine G.iconst 0 (0 : Int32) dX0_writtenCount_0 (by decide +kernel) ?_
  refine G.istore_n 1 [(1, .int (0 : Int32)), (0, .ref (zs Z + a0))] dX0_writtenCount_1 rfl (Nat.le_of_ble_eq_true rfl) rfl ?_
  refine G.iconst 2 (0 : Int32) dX0_writtenCount_2 (by decide +kernel) ?_
  refine G.istore_n 3 [(2, .int (0 : Int32)), (1, .int (0 : Int32)), (0, .ref (zs Z + a0))] dX0_writtenCount_3 rfl (Nat.le_of_ble_eq_true rfl) rfl ?_
  refine G.locs [2, 1, 0] rfl ?_
  exact l_X0_writtenCount_4 Z X hR hq FU a0 (0 : Int32) (0 : Int32) hs k_a0 hf
abbrev Y_X5_toTen : My := (cX5_toTen, RX5, 1)
def rm_X5_toTen : Room := { frames := 1, cells := 0, slots := 0, locals := 200 }
theorem dX5_toTen_0 : decode cX5_toTen 0 = .ok (.iload_n 0, 1) := by decide +kernel
theorem dX5_toTen_1 : decode cX5_toTen 1 = .ok (.iconst 5, 1) := by decide +kernel
theorem dX5_toTen_2 : decode cX5_toTen 2 = .ok (.iadd, 1) := by decide +kernel
theorem dX5_toTen_3 : decode cX5_toTen 3 = .ok (.bipush 10, 2) := by decide +kernel
theorem dX5_toTen_5 : decode cX5_toTen 5 = .ok (.idiv, 1) := by decide +kernel
theorem dX5_toTen_6 : decode cX5_toTen 6 = .ok (.bipush 10, 2) := by decide +kernel
theorem dX5_toTen_8 : decode cX5_toTen 8 = .ok (.imul, 1) := by decide +kernel
theorem dX5_toTen_9 : decode cX5_toTen 9 = .ok (.ireturn, 1) := by decide +kernel
def f_X5_toTen (x0 : Int32) : Int32 := (((x0 + (5 : Int32)) / (10 : Int32)) * (10 : Int32))
set_option maxRecDepth 100000 in
set_option maxHeartbeats 4000000 in
theorem c_X5_toTen (Z : Sys) {M : Mem} (hs : St M) (x0 : Int32) {q : Int32} (hf : f_X5_toTen x0 = q) : Ct Z yX5_toTen cX5_toTen 1 (some .int) rm_X5_toTen [.int x0] M False (PostI q M) := by
  refine Ct.of (by decide +kernel) (Nat.le_of_ble_eq_true rfl) (fun X hR hq _ => ?_)
  show G Z X Y_X5_toTen False 0 0 0 [(0, .int x0)] [] M
  replace hq : RetOk Z X (some .int) False (PostI q M) 0 0 := hq
  unfold f_X5_toTen at hf
  refine G.iload_n 0 0 dX5_toTen_0 rfl rfl ?_
  refine G.iconst 1 (5 : Int32) dX5_toTen_1 (by decide +kernel) ?_
  refine G.iadd 2 dX5_toTen_2 ?_
  refine G.bipush 3 (10 : Int32) dX5_toTen_3 (by decide +kernel) ?_
  refine G.idiv 5 dX5_toTen_5 (by decide +kernel) ?_
  refine G.bipush 6 (10 : Int32) dX5_toTen_6 (by decide +kernel) ?_
  refine G.imul 8 dX5_toTen_8 ?_
  subst hf
  exact G.rI 9 hq dX5_toTen_9 hs
abbrev Y_X5_tellsCame : My := (cX5_tellsCame, RX5, 3)
def rm_X5_tellsCame : Room := { frames := 2, cells := 0, slots := 0, locals := 220 }
theorem dX5_tellsCame_0 : decode cX5_tellsCame 0 = .ok (.aload_n 0, 1) := by decide +kernel
theorem dX5_tellsCame_1 : decode cX5_tellsCame 1 = .ok (.getfield 9, 3) := by decide +kernel
theorem dX5_tellsCame_4 : decode cX5_tellsCame 4 = .ok (.tableswitch 54 2 6 #[36, 54, 45, 54, 52], 36) := by decide +kernel
theorem dX5_tellsCame_40 : decode cX5_tellsCame 40 = .ok (.iload_n 1, 1) := by decide +kernel
theorem dX5_tellsCame_41 : decode cX5_tellsCame 41 = .ok (.invokestatic 16, 3) := by decide +kernel
theorem dX5_tellsCame_44 : decode cX5_tellsCame 44 = .ok (.iload_n 2, 1) := by decide +kernel
theorem dX5_tellsCame_45 : decode cX5_tellsCame 45 = .ok (.invokestatic 20, 3) := by decide +kernel
theorem dX5_tellsCame_48 : decode cX5_tellsCame 48 = .ok (.ireturn, 1) := by decide +kernel
theorem dX5_tellsCame_49 : decode cX5_tellsCame 49 = .ok (.iload_n 1, 1) := by decide +kernel
theorem dX5_tellsCame_50 : decode cX5_tellsCame 50 = .ok (.aload_n 0, 1) := by decide +kernel
theorem dX5_tellsCame_51 : decode cX5_tellsCame 51 = .ok (.getfield 13, 3) := by decide +kernel
theorem dX5_tellsCame_54 : decode cX5_tellsCame 54 = .ok (.iadd, 1) := by decide +kernel
theorem dX5_tellsCame_55 : decode cX5_tellsCame 55 = .ok (.ireturn, 1) := by decide +kernel
theorem dX5_tellsCame_56 : decode cX5_tellsCame 56 = .ok (.iload_n 2, 1) := by decide +kernel
theorem dX5_tellsCame_57 : decode cX5_tellsCame 57 = .ok (.ireturn, 1) := by decide +kernel
theorem dX5_tellsCame_58 : decode cX5_tellsCame 58 = .ok (.iload_n 1, 1) := by decide +kernel
theorem dX5_tellsCame_59 : decode cX5_tellsCame 59 = .ok (.ireturn, 1) := by decide +kernel
def f_X5_tellsCame (a0 : Nat) (x1 : Int32) (x2 : Int32) (M : Mem) : Int32 := if (mI M a0 0) = (2 : Int32) then (jmin (f_X5_toTen x1) x2) else if (mI M a0 0) = (3 : Int32) then x1 else if (mI M a0 0) = (4 : Int32) then (x1 + (mI M a0 1)) else if (mI M a0 0) = (5 : Int32) then x1 else if (mI M a0 0) = (6 : Int32) then x2 else x1
set_option maxRecDepth 100000 in
set_option maxHeartbeats 4000000 in
theorem c_X5_tellsCame (Z : Sys) {M : Mem} (hs : St M) (a0 : Nat) (x1 : Int32) (x2 : Int32) (k_a0 : K0[a0]? = some (5, 2)) {q : Int32} (hf : f_X5_tellsCame a0 x1 x2 M = q) : Ct Z yX5_tellsCame cX5_tellsCame 3 (some .int) rm_X5_tellsCame [.ref (zs Z + a0), .int x1, .int x2] M False (PostI q M) := by
  refine Ct.of (by decide +kernel) (Nat.le_of_ble_eq_true rfl) (fun X hR hq _ => ?_)
  show G Z X Y_X5_tellsCame False 0 0 0 [(0, .ref (zs Z + a0)), (1, .int x1), (2, .int x2)] [] M
  replace hq : RetOk Z X (some .int) False (PostI q M) 0 0 := hq
  unfold f_X5_tellsCame at hf
  refine G.aload_n 0 0 dX5_tellsCame_0 rfl rfl ?_
  refine G.geti 1 ck_5 0 (hs.k k_a0) (by decide) (by decide +kernel) wd_174 dX5_tellsCame_1 ?_
  by_cases h1 : (mI M a0 0) = (2 : Int32)
  · replace hf := (if_pos h1).symm.trans hf
    refine G.tableIn 4 40 (off := 36) dX5_tellsCame_4 (by rw [h1]; decide +kernel) (by rw [h1]; decide +kernel) (by rw [h1]; decide +kernel) (by decide) ?_
    refine G.iload_n 40 1 dX5_tellsCame_40 rfl rfl ?_
    refine G.csI 41 (As := [.int x1]) (c_X5_toTen Z hs x1 rfl) mk_X5_toTen wd_473 wd_472 hR (by decide +kernel) ⟨rfl, rfl⟩ rfl (Nat.le_of_ble_eq_true rfl) dX5_tellsCame_41 (fun hs2 => ?_)
    refine G.iload_n 44 2 dX5_tellsCame_44 rfl rfl ?_
    refine G.mminJ 45 wd_475 wd_476 wd_87 wd_477 hR ⟨Nat.le_of_ble_eq_true rfl, Nat.le_of_ble_eq_true rfl, Nat.le_of_ble_eq_true rfl, Nat.le_of_ble_eq_true rfl⟩ dX5_tellsCame_45 ?_
    subst hf
    exact G.rI 48 hq dX5_tellsCame_48 hs2
  · replace hf := (if_neg h1).symm.trans hf
    by_cases h4 : (mI M a0 0) = (3 : Int32)
    · replace hf := (if_pos h4).symm.trans hf
      refine G.tableIn 4 58 (off := 54) dX5_tellsCame_4 (by rw [h4]; decide +kernel) (by rw [h4]; decide +kernel) (by rw [h4]; decide +kernel) (by decide) ?_
      refine G.iload_n 58 1 dX5_tellsCame_58 rfl rfl ?_
      subst hf
      exact G.rI 59 hq dX5_tellsCame_59 hs
    · replace hf := (if_neg h4).symm.trans hf
      by_cases h5 : (mI M a0 0) = (4 : Int32)
      · replace hf := (if_pos h5).symm.trans hf
        refine G.tableIn 4 49 (off := 45) dX5_tellsCame_4 (by rw [h5]; decide +kernel) (by rw [h5]; decide +kernel) (by rw [h5]; decide +kernel) (by decide) ?_
        refine G.iload_n 49 1 dX5_tellsCame_49 rfl rfl ?_
        refine G.aload_n 50 0 dX5_tellsCame_50 rfl rfl ?_
        refine G.geti 51 ck_5 1 (hs.k k_a0) (by decide) (by decide +kernel) wd_177 dX5_tellsCame_51 ?_
        refine G.iadd 54 dX5_tellsCame_54 ?_
        subst hf
        exact G.rI 55 hq dX5_tellsCame_55 hs
      · replace hf := (if_neg h5).symm.trans hf
        by_cases h6 : (mI M a0 0) = (5 : Int32)
        · replace hf := (if_pos h6).symm.trans hf
          refine G.tableIn 4 58 (off := 54) dX5_tellsCame_4 (by rw [h6]; decide +kernel) (by rw [h6]; decide +kernel) (by rw [h6]; decide +kernel) (by decide) ?_
          refine G.iload_n 58 1 dX5_tellsCame_58 rfl rfl ?_
          subst hf
          exact G.rI 59 hq dX5_tellsCame_59 hs
        · replace hf := (if_neg h6).symm.trans hf
          by_cases h7 : (mI M a0 0) = (6 : Int32)
          · replace hf := (if_pos h7).symm.trans hf
            refine G.tableIn 4 56 (off := 52) dX5_tellsCame_4 (by rw [h7]; decide +kernel) (by rw [h7]; decide +kernel) (by rw [h7]; decide +kernel) (by decide) ?_
            refine G.iload_n 56 2 dX5_tellsCame_56 rfl rfl ?_
            subst hf
            exact G.rI 57 hq dX5_tellsCame_57 hs
          · replace hf := (if_neg h7).symm.trans hf
            have t_h1 := ti (2 : Int32) (2) (by decide +kernel) h1
            have t_h4 := ti (3 : Int32) (3) (by decide +kernel) h4
            have t_h5 := ti (4 : Int32) (4) (by decide +kernel) h5
            have t_h6 := ti (5 : Int32) (5) (by decide +kernel) h6
            have t_h7 := ti (6 : Int32) (6) (by decide +kernel) h7
            refine G.tableOut 4 58 dX5_tellsCame_4 (by omega) (by decide) ?_
            refine G.iload_n 58 1 dX5_tellsCame_58 rfl rfl ?_
            subst hf
            exact G.rI 59 hq dX5_tellsCame_59 hs
abbrev Y_X1_toldCame : My := (cX1_toldCame, RX1, 1)
def rm_X1_toldCame : Room := { frames := 3, cells := 0, slots := 0, locals := 242 }
theorem dX1_toldCame_0 : decode cX1_toldCame 0 = .ok (.aload_n 0, 1) := by decide +kernel
theorem dX1_toldCame_1 : decode cX1_toldCame 1 = .ok (.getfield 12, 3) := by decide +kernel
theorem dX1_toldCame_4 : decode cX1_toldCame 4 = .ok (.aload_n 0, 1) := by decide +kernel
theorem dX1_toldCame_5 : decode cX1_toldCame 5 = .ok (.getfield 34, 3) := by decide +kernel
theorem dX1_toldCame_8 : decode cX1_toldCame 8 = .ok (.aload_n 0, 1) := by decide +kernel
theorem dX1_toldCame_9 : decode cX1_toldCame 9 = .ok (.getfield 18, 3) := by decide +kernel
theorem dX1_toldCame_12 : decode cX1_toldCame 12 = .ok (.invokevirtual 63, 3) := by decide +kernel
theorem dX1_toldCame_15 : decode cX1_toldCame 15 = .ok (.ireturn, 1) := by decide +kernel
def f_X1_toldCame (a0 : Nat) (M : Mem) : Int32 := (f_X5_tellsCame (a0 + 1) (mI M a0 6) (mI M a0 1) M)
set_option maxRecDepth 100000 in
set_option maxHeartbeats 4000000 in
theorem c_X1_toldCame (Z : Sys) {M : Mem} (hs : St M) (a0 : Nat) (k_a0 : K0[a0]? = some (1, 12)) {q : Int32} (hf : f_X1_toldCame a0 M = q) : Ct Z yX1_toldCame cX1_toldCame 1 (some .int) rm_X1_toldCame [.ref (zs Z + a0)] M False (PostI q M) := by
  refine Ct.of (by decide +kernel) (Nat.le_of_ble_eq_true rfl) (fun X hR hq _ => ?_)
  show G Z X Y_X1_toldCame False 0 0 0 [(0, .ref (zs Z + a0))] [] M
  replace hq : RetOk Z X (some .int) False (PostI q M) 0 0 := hq
  unfold f_X1_toldCame at hf
  refine G.aload_n 0 0 dX1_toldCame_0 rfl rfl ?_
  refine G.getp 1 ck_1 0 (a0 + 1) (hs.k k_a0) (pt_1_0 hs k_a0).1 (by decide) (by decide +kernel) wd_186 dX1_toldCame_1 ?_
  refine G.aload_n 4 0 dX1_toldCame_4 rfl rfl ?_
  refine G.geti 5 ck_1 6 (hs.k k_a0) (by decide) (by decide +kernel) wd_207 dX1_toldCame_5 ?_
  refine G.aload_n 8 0 dX1_toldCame_8 rfl rfl ?_
  refine G.geti 9 ck_1 1 (hs.k k_a0) (by decide) (by decide +kernel) wd_189 dX1_toldCame_9 ?_
  refine G.cvI 12 (As := [.int (mI M a0 6), .int (mI M a0 1)]) ck_5 (hs.k (pt_1_0 hs k_a0).2) (c_X5_tellsCame Z hs (a0 + 1) (mI M a0 6) (mI M a0 1) (pt_1_0 hs k_a0).2 rfl) mk_X5_tellsCame vk_X5_tellsCame rfl wd_468 hR (by decide +kernel) ⟨rfl, rfl⟩ rfl (Nat.le_of_ble_eq_true rfl) dX1_toldCame_12 (fun hs1 => ?_)
  subst hf
  exact G.rI 15 hq dX1_toldCame_15 hs1
abbrev Y_X5_madeOurs : My := (cX5_madeOurs, RX5, 5)
def rm_X5_madeOurs : Room := { frames := 1, cells := 0, slots := 0, locals := 200 }
theorem dX5_madeOurs_0 : decode cX5_madeOurs 0 = .ok (.iload_n 1, 1) := by decide +kernel
theorem dX5_madeOurs_1 : decode cX5_madeOurs 1 = .ok (.aload_n 0, 1) := by decide +kernel
theorem dX5_madeOurs_2 : decode cX5_madeOurs 2 = .ok (.getfield 13, 3) := by decide +kernel
theorem dX5_madeOurs_5 : decode cX5_madeOurs 5 = .ok (.imul, 1) := by decide +kernel
theorem dX5_madeOurs_6 : decode cX5_madeOurs 6 = .ok (.bipush 100, 2) := by decide +kernel
theorem dX5_madeOurs_8 : decode cX5_madeOurs 8 = .ok (.idiv, 1) := by decide +kernel
theorem dX5_madeOurs_9 : decode cX5_madeOurs 9 = .ok (.iload_n 1, 1) := by decide +kernel
theorem dX5_madeOurs_10 : decode cX5_madeOurs 10 = .ok (.invokestatic 20, 3) := by decide +kernel
theorem dX5_madeOurs_13 : decode cX5_madeOurs 13 = .ok (.istore_n 3, 1) := by decide +kernel
theorem dX5_madeOurs_14 : decode cX5_madeOurs 14 = .ok (.iload_n 3, 1) := by decide +kernel
theorem dX5_madeOurs_15 : decode cX5_madeOurs 15 = .ok (.bipush 10, 2) := by decide +kernel
theorem dX5_madeOurs_17 : decode cX5_madeOurs 17 = .ok (.idiv, 1) := by decide +kernel
theorem dX5_madeOurs_18 : decode cX5_madeOurs 18 = .ok (.bipush 10, 2) := by decide +kernel
theorem dX5_madeOurs_20 : decode cX5_madeOurs 20 = .ok (.imul, 1) := by decide +kernel
theorem dX5_madeOurs_21 : decode cX5_madeOurs 21 = .ok (.iload_n 2, 1) := by decide +kernel
theorem dX5_madeOurs_22 : decode cX5_madeOurs 22 = .ok (.iadd, 1) := by decide +kernel
theorem dX5_madeOurs_23 : decode cX5_madeOurs 23 = .ok (.istore 4, 2) := by decide +kernel
theorem dX5_madeOurs_25 : decode cX5_madeOurs 25 = .ok (.iload 4, 2) := by decide +kernel
theorem dX5_madeOurs_27 : decode cX5_madeOurs 27 = .ok (.iload_n 1, 1) := by decide +kernel
theorem dX5_madeOurs_28 : decode cX5_madeOurs 28 = .ok (.if_icmp .le 7, 3) := by decide +kernel
theorem dX5_madeOurs_31 : decode cX5_madeOurs 31 = .ok (.iload_n 3, 1) := by decide +kernel
theorem dX5_madeOurs_32 : decode cX5_madeOurs 32 = .ok (.goto 5, 3) := by decide +kernel
theorem dX5_madeOurs_35 : decode cX5_madeOurs 35 = .ok (.iload 4, 2) := by decide +kernel
theorem dX5_madeOurs_37 : decode cX5_madeOurs 37 = .ok (.ireturn, 1) := by decide +kernel
def f_X5_madeOurs (a0 : Nat) (x1 : Int32) (x2 : Int32) (M : Mem) : Int32 := if ((((jmin ((x1 * (mI M a0 1)) / (100 : Int32)) x1) / (10 : Int32)) * (10 : Int32)) + x2) ≤ x1 then ((((jmin ((x1 * (mI M a0 1)) / (100 : Int32)) x1) / (10 : Int32)) * (10 : Int32)) + x2) else (jmin ((x1 * (mI M a0 1)) / (100 : Int32)) x1)
set_option maxRecDepth 100000 in
set_option maxHeartbeats 4000000 in
theorem c_X5_madeOurs (Z : Sys) {M : Mem} (hs : St M) (a0 : Nat) (x1 : Int32) (x2 : Int32) (k_a0 : K0[a0]? = some (5, 2)) {q : Int32} (hf : f_X5_madeOurs a0 x1 x2 M = q) : Ct Z yX5_madeOurs cX5_madeOurs 5 (some .int) rm_X5_madeOurs [.ref (zs Z + a0), .int x1, .int x2] M False (PostI q M) := by
  refine Ct.of (by decide +kernel) (Nat.le_of_ble_eq_true rfl) (fun X hR hq _ => ?_)
  show G Z X Y_X5_madeOurs False 0 0 0 [(0, .ref (zs Z + a0)), (1, .int x1), (2, .int x2)] [] M
  replace hq : RetOk Z X (some .int) False (PostI q M) 0 0 := hq
  unfold f_X5_madeOurs at hf
  refine G.iload_n 0 1 dX5_madeOurs_0 rfl rfl ?_
  refine G.aload_n 1 0 dX5_madeOurs_1 rfl rfl ?_
  refine G.geti 2 ck_5 1 (hs.k k_a0) (by decide) (by decide +kernel) wd_177 dX5_madeOurs_2 ?_
  refine G.imul 5 dX5_madeOurs_5 ?_
  refine G.bipush 6 (100 : Int32) dX5_madeOurs_6 (by decide +kernel) ?_
  refine G.idiv 8 dX5_madeOurs_8 (by decide +kernel) ?_
  refine G.iload_n 9 1 dX5_madeOurs_9 rfl rfl ?_
  refine G.mminJ 10 wd_475 wd_476 wd_87 wd_477 hR ⟨Nat.le_of_ble_eq_true rfl, Nat.le_of_ble_eq_true rfl, Nat.le_of_ble_eq_true rfl, Nat.le_of_ble_eq_true rfl⟩ dX5_madeOurs_10 ?_
  refine G.istore_n 13 [(3, .int (jmin ((x1 * (mI M a0 1)) / (100 : Int32)) x1)), (0, .ref (zs Z + a0)), (1, .int x1), (2, .int x2)] dX5_madeOurs_13 rfl (Nat.le_of_ble_eq_true rfl) rfl ?_
  refine G.iload_n 14 0 dX5_madeOurs_14 rfl rfl ?_
  refine G.bipush 15 (10 : Int32) dX5_madeOurs_15 (by decide +kernel) ?_
  refine G.idiv 17 dX5_madeOurs_17 (by decide +kernel) ?_
  refine G.bipush 18 (10 : Int32) dX5_madeOurs_18 (by decide +kernel) ?_
  refine G.imul 20 dX5_madeOurs_20 ?_
  refine G.iload_n 21 3 dX5_madeOurs_21 rfl rfl ?_
  refine G.iadd 22 dX5_madeOurs_22 ?_
  refine G.istore 23 [(4, .int ((((jmin ((x1 * (mI M a0 1)) / (100 : Int32)) x1) / (10 : Int32)) * (10 : Int32)) + x2)), (3, .int (jmin ((x1 * (mI M a0 1)) / (100 : Int32)) x1)), (0, .ref (zs Z + a0)), (1, .int x1), (2, .int x2)] dX5_madeOurs_23 (Nat.le_of_ble_eq_true rfl) rfl ?_
  refine G.iload 25 0 dX5_madeOurs_25 rfl ?_
  refine G.iload_n 27 3 dX5_madeOurs_27 rfl rfl ?_
  refine G.icmp_le 28 35 dX5_madeOurs_28 (by decide) (fun h1 => ?_) (fun h1 => ?_)
  · replace hf := (if_pos h1).symm.trans hf
    refine G.iload 35 0 dX5_madeOurs_35 rfl ?_
    subst hf
    exact G.rI 37 hq dX5_madeOurs_37 hs
  · replace hf := (if_neg h1).symm.trans hf
    refine G.iload_n 31 1 dX5_madeOurs_31 rfl rfl ?_
    refine G.goto 32 37 dX5_madeOurs_32 (by decide) ?_
    subst hf
    exact G.rI 37 hq dX5_madeOurs_37 hs
abbrev Y_X5_copiedOurs : My := (cX5_copiedOurs, RX5, 3)
def rm_X5_copiedOurs : Room := { frames := 1, cells := 0, slots := 0, locals := 200 }
theorem dX5_copiedOurs_0 : decode cX5_copiedOurs 0 = .ok (.iload_n 1, 1) := by decide +kernel
theorem dX5_copiedOurs_1 : decode cX5_copiedOurs 1 = .ok (.bipush 100, 2) := by decide +kernel
theorem dX5_copiedOurs_3 : decode cX5_copiedOurs 3 = .ok (.idiv, 1) := by decide +kernel
theorem dX5_copiedOurs_4 : decode cX5_copiedOurs 4 = .ok (.bipush 100, 2) := by decide +kernel
theorem dX5_copiedOurs_6 : decode cX5_copiedOurs 6 = .ok (.imul, 1) := by decide +kernel
theorem dX5_copiedOurs_7 : decode cX5_copiedOurs 7 = .ok (.iload_n 1, 1) := by decide +kernel
theorem dX5_copiedOurs_8 : decode cX5_copiedOurs 8 = .ok (.bipush 10, 2) := by decide +kernel
theorem dX5_copiedOurs_10 : decode cX5_copiedOurs 10 = .ok (.irem, 1) := by decide +kernel
theorem dX5_copiedOurs_11 : decode cX5_copiedOurs 11 = .ok (.bipush 10, 2) := by decide +kernel
theorem dX5_copiedOurs_13 : decode cX5_copiedOurs 13 = .ok (.imul, 1) := by decide +kernel
theorem dX5_copiedOurs_14 : decode cX5_copiedOurs 14 = .ok (.iadd, 1) := by decide +kernel
theorem dX5_copiedOurs_15 : decode cX5_copiedOurs 15 = .ok (.iload_n 1, 1) := by decide +kernel
theorem dX5_copiedOurs_16 : decode cX5_copiedOurs 16 = .ok (.bipush 10, 2) := by decide +kernel
theorem dX5_copiedOurs_18 : decode cX5_copiedOurs 18 = .ok (.idiv, 1) := by decide +kernel
theorem dX5_copiedOurs_19 : decode cX5_copiedOurs 19 = .ok (.bipush 10, 2) := by decide +kernel
theorem dX5_copiedOurs_21 : decode cX5_copiedOurs 21 = .ok (.irem, 1) := by decide +kernel
theorem dX5_copiedOurs_22 : decode cX5_copiedOurs 22 = .ok (.iadd, 1) := by decide +kernel
theorem dX5_copiedOurs_23 : decode cX5_copiedOurs 23 = .ok (.istore_n 2, 1) := by decide +kernel
theorem dX5_copiedOurs_24 : decode cX5_copiedOurs 24 = .ok (.iload_n 2, 1) := by decide +kernel
theorem dX5_copiedOurs_25 : decode cX5_copiedOurs 25 = .ok (.iload_n 0, 1) := by decide +kernel
theorem dX5_copiedOurs_26 : decode cX5_copiedOurs 26 = .ok (.if_icmp .le 7, 3) := by decide +kernel
theorem dX5_copiedOurs_29 : decode cX5_copiedOurs 29 = .ok (.iload_n 1, 1) := by decide +kernel
theorem dX5_copiedOurs_30 : decode cX5_copiedOurs 30 = .ok (.goto 4, 3) := by decide +kernel
theorem dX5_copiedOurs_33 : decode cX5_copiedOurs 33 = .ok (.iload_n 2, 1) := by decide +kernel
theorem dX5_copiedOurs_34 : decode cX5_copiedOurs 34 = .ok (.ireturn, 1) := by decide +kernel
def f_X5_copiedOurs (x0 : Int32) (x1 : Int32) : Int32 := if ((((x1 / (100 : Int32)) * (100 : Int32)) + ((jrem x1 (10 : Int32)) * (10 : Int32))) + (jrem (x1 / (10 : Int32)) (10 : Int32))) ≤ x0 then ((((x1 / (100 : Int32)) * (100 : Int32)) + ((jrem x1 (10 : Int32)) * (10 : Int32))) + (jrem (x1 / (10 : Int32)) (10 : Int32))) else x1
set_option maxRecDepth 100000 in
set_option maxHeartbeats 4000000 in
theorem c_X5_copiedOurs (Z : Sys) {M : Mem} (hs : St M) (x0 : Int32) (x1 : Int32) {q : Int32} (hf : f_X5_copiedOurs x0 x1 = q) : Ct Z yX5_copiedOurs cX5_copiedOurs 3 (some .int) rm_X5_copiedOurs [.int x0, .int x1] M False (PostI q M) := by
  refine Ct.of (by decide +kernel) (Nat.le_of_ble_eq_true rfl) (fun X hR hq _ => ?_)
  show G Z X Y_X5_copiedOurs False 0 0 0 [(0, .int x0), (1, .int x1)] [] M
  replace hq : RetOk Z X (some .int) False (PostI q M) 0 0 := hq
  unfold f_X5_copiedOurs at hf
  refine G.iload_n 0 1 dX5_copiedOurs_0 rfl rfl ?_
  refine G.bipush 1 (100 : Int32) dX5_copiedOurs_1 (by decide +kernel) ?_
  refine G.idiv 3 dX5_copiedOurs_3 (by decide +kernel) ?_
  refine G.bipush 4 (100 : Int32) dX5_copiedOurs_4 (by decide +kernel) ?_
  refine G.imul 6 dX5_copiedOurs_6 ?_
  refine G.iload_n 7 1 dX5_copiedOurs_7 rfl rfl ?_
  refine G.bipush 8 (10 : Int32) dX5_copiedOurs_8 (by decide +kernel) ?_
  refine G.iremJ 10 dX5_copiedOurs_10 (by decide +kernel) ?_
  refine G.bipush 11 (10 : Int32) dX5_copiedOurs_11 (by decide +kernel) ?_
  refine G.imul 13 dX5_copiedOurs_13 ?_
  refine G.iadd 14 dX5_copiedOurs_14 ?_
  refine G.iload_n 15 1 dX5_copiedOurs_15 rfl rfl ?_
  refine G.bipush 16 (10 : Int32) dX5_copiedOurs_16 (by decide +kernel) ?_
  refine G.idiv 18 dX5_copiedOurs_18 (by decide +kernel) ?_
  refine G.bipush 19 (10 : Int32) dX5_copiedOurs_19 (by decide +kernel) ?_
  refine G.iremJ 21 dX5_copiedOurs_21 (by decide +kernel) ?_
  refine G.iadd 22 dX5_copiedOurs_22 ?_
  refine G.istore_n 23 [(2, .int ((((x1 / (100 : Int32)) * (100 : Int32)) + ((jrem x1 (10 : Int32)) * (10 : Int32))) + (jrem (x1 / (10 : Int32)) (10 : Int32)))), (0, .int x0), (1, .int x1)] dX5_copiedOurs_23 rfl (Nat.le_of_ble_eq_true rfl) rfl ?_
  refine G.iload_n 24 0 dX5_copiedOurs_24 rfl rfl ?_
  refine G.iload_n 25 1 dX5_copiedOurs_25 rfl rfl ?_
  refine G.icmp_le 26 33 dX5_copiedOurs_26 (by decide) (fun h1 => ?_) (fun h1 => ?_)
  · replace hf := (if_pos h1).symm.trans hf
    refine G.iload_n 33 0 dX5_copiedOurs_33 rfl rfl ?_
    subst hf
    exact G.rI 34 hq dX5_copiedOurs_34 hs
  · replace hf := (if_neg h1).symm.trans hf
    refine G.iload_n 29 2 dX5_copiedOurs_29 rfl rfl ?_
    refine G.goto 30 34 dX5_copiedOurs_30 (by decide) ?_
    subst hf
    exact G.rI 34 hq dX5_copiedOurs_34 hs
abbrev Y_X5_tellsOurs : My := (cX5_tellsOurs, RX5, 5)
def rm_X5_tellsOurs : Room := { frames := 3, cells := 0, slots := 0, locals := 242 }
theorem dX5_tellsOurs_0 : decode cX5_tellsOurs 0 = .ok (.aload_n 0, 1) := by decide +kernel
theorem dX5_tellsOurs_1 : decode cX5_tellsOurs 1 = .ok (.getfield 9, 3) := by decide +kernel
theorem dX5_tellsOurs_4 : decode cX5_tellsOurs 4 = .ok (.tableswitch 88 2 7 #[40, 54, 62, 69, 80, 82], 40) := by decide +kernel
theorem dX5_tellsOurs_44 : decode cX5_tellsOurs 44 = .ok (.iload_n 2, 1) := by decide +kernel
theorem dX5_tellsOurs_45 : decode cX5_tellsOurs 45 = .ok (.invokestatic 16, 3) := by decide +kernel
theorem dX5_tellsOurs_48 : decode cX5_tellsOurs 48 = .ok (.aload_n 0, 1) := by decide +kernel
theorem dX5_tellsOurs_49 : decode cX5_tellsOurs 49 = .ok (.iload_n 1, 1) := by decide +kernel
theorem dX5_tellsOurs_50 : decode cX5_tellsOurs 50 = .ok (.iload_n 3, 1) := by decide +kernel
theorem dX5_tellsOurs_51 : decode cX5_tellsOurs 51 = .ok (.invokevirtual 26, 3) := by decide +kernel
theorem dX5_tellsOurs_54 : decode cX5_tellsOurs 54 = .ok (.invokestatic 20, 3) := by decide +kernel
theorem dX5_tellsOurs_57 : decode cX5_tellsOurs 57 = .ok (.ireturn, 1) := by decide +kernel
theorem dX5_tellsOurs_58 : decode cX5_tellsOurs 58 = .ok (.aload_n 0, 1) := by decide +kernel
theorem dX5_tellsOurs_59 : decode cX5_tellsOurs 59 = .ok (.iload_n 1, 1) := by decide +kernel
theorem dX5_tellsOurs_60 : decode cX5_tellsOurs 60 = .ok (.iload 4, 2) := by decide +kernel
theorem dX5_tellsOurs_62 : decode cX5_tellsOurs 62 = .ok (.invokevirtual 29, 3) := by decide +kernel
theorem dX5_tellsOurs_65 : decode cX5_tellsOurs 65 = .ok (.ireturn, 1) := by decide +kernel
theorem dX5_tellsOurs_66 : decode cX5_tellsOurs 66 = .ok (.iload_n 2, 1) := by decide +kernel
theorem dX5_tellsOurs_67 : decode cX5_tellsOurs 67 = .ok (.aload_n 0, 1) := by decide +kernel
theorem dX5_tellsOurs_68 : decode cX5_tellsOurs 68 = .ok (.getfield 13, 3) := by decide +kernel
theorem dX5_tellsOurs_71 : decode cX5_tellsOurs 71 = .ok (.iadd, 1) := by decide +kernel
theorem dX5_tellsOurs_72 : decode cX5_tellsOurs 72 = .ok (.ireturn, 1) := by decide +kernel
theorem dX5_tellsOurs_73 : decode cX5_tellsOurs 73 = .ok (.iload_n 2, 1) := by decide +kernel
theorem dX5_tellsOurs_74 : decode cX5_tellsOurs 74 = .ok (.aload_n 0, 1) := by decide +kernel
theorem dX5_tellsOurs_75 : decode cX5_tellsOurs 75 = .ok (.getfield 13, 3) := by decide +kernel
theorem dX5_tellsOurs_78 : decode cX5_tellsOurs 78 = .ok (.iadd, 1) := by decide +kernel
theorem dX5_tellsOurs_79 : decode cX5_tellsOurs 79 = .ok (.iload_n 1, 1) := by decide +kernel
theorem dX5_tellsOurs_80 : decode cX5_tellsOurs 80 = .ok (.invokestatic 20, 3) := by decide +kernel
theorem dX5_tellsOurs_83 : decode cX5_tellsOurs 83 = .ok (.ireturn, 1) := by decide +kernel
theorem dX5_tellsOurs_84 : decode cX5_tellsOurs 84 = .ok (.iload_n 3, 1) := by decide +kernel
theorem dX5_tellsOurs_85 : decode cX5_tellsOurs 85 = .ok (.ireturn, 1) := by decide +kernel
theorem dX5_tellsOurs_86 : decode cX5_tellsOurs 86 = .ok (.iload_n 1, 1) := by decide +kernel
theorem dX5_tellsOurs_87 : decode cX5_tellsOurs 87 = .ok (.iload_n 2, 1) := by decide +kernel
theorem dX5_tellsOurs_88 : decode cX5_tellsOurs 88 = .ok (.invokestatic 32, 3) := by decide +kernel
theorem dX5_tellsOurs_91 : decode cX5_tellsOurs 91 = .ok (.ireturn, 1) := by decide +kernel
theorem dX5_tellsOurs_92 : decode cX5_tellsOurs 92 = .ok (.iload_n 2, 1) := by decide +kernel
theorem dX5_tellsOurs_93 : decode cX5_tellsOurs 93 = .ok (.ireturn, 1) := by decide +kernel
def f_X5_tellsOurs (a0 : Nat) (x1 : Int32) (x2 : Int32) (x3 : Int32) (x4 : Int32) (M : Mem) : Int32 := if (mI M a0 0) = (2 : Int32) then (jmin (f_X5_toTen x2) (f_X5_tellsCame a0 x1 x3 M)) else if (mI M a0 0) = (3 : Int32) then (f_X5_madeOurs a0 x1 x4 M) else if (mI M a0 0) = (4 : Int32) then (x2 + (mI M a0 1)) else if (mI M a0 0) = (5 : Int32) then (jmin (x2 + (mI M a0 1)) x1) else if (mI M a0 0) = (6 : Int32) then x3 else if (mI M a0 0) = (7 : Int32) then (f_X5_copiedOurs x1 x2) else x2
set_option maxRecDepth 100000 in
set_option maxHeartbeats 4000000 in
theorem c_X5_tellsOurs (Z : Sys) {M : Mem} (hs : St M) (a0 : Nat) (x1 : Int32) (x2 : Int32) (x3 : Int32) (x4 : Int32) (k_a0 : K0[a0]? = some (5, 2)) {q : Int32} (hf : f_X5_tellsOurs a0 x1 x2 x3 x4 M = q) : Ct Z yX5_tellsOurs cX5_tellsOurs 5 (some .int) rm_X5_tellsOurs [.ref (zs Z + a0), .int x1, .int x2, .int x3, .int x4] M False (PostI q M) := by
  refine Ct.of (by decide +kernel) (Nat.le_of_ble_eq_true rfl) (fun X hR hq _ => ?_)
  show G Z X Y_X5_tellsOurs False 0 0 0 [(0, .ref (zs Z + a0)), (1, .int x1), (2, .int x2), (3, .int x3), (4, .int x4)] [] M
  replace hq : RetOk Z X (some .int) False (PostI q M) 0 0 := hq
  unfold f_X5_tellsOurs at hf
  refine G.aload_n 0 0 dX5_tellsOurs_0 rfl rfl ?_
  refine G.geti 1 ck_5 0 (hs.k k_a0) (by decide) (by decide +kernel) wd_174 dX5_tellsOurs_1 ?_
  by_cases h1 : (mI M a0 0) = (2 : Int32)
  · replace hf := (if_pos h1).symm.trans hf
    refine G.tableIn 4 44 (off := 40) dX5_tellsOurs_4 (by rw [h1]; decide +kernel) (by rw [h1]; decide +kernel) (by rw [h1]; decide +kernel) (by decide) ?_
    refine G.iload_n 44 2 dX5_tellsOurs_44 rfl rfl ?_
    refine G.csI 45 (As := [.int x2]) (c_X5_toTen Z hs x2 rfl) mk_X5_toTen wd_473 wd_472 hR (by decide +kernel) ⟨rfl, rfl⟩ rfl (Nat.le_of_ble_eq_true rfl) dX5_tellsOurs_45 (fun hs2 => ?_)
    refine G.aload_n 48 0 dX5_tellsOurs_48 rfl rfl ?_
    refine G.iload_n 49 1 dX5_tellsOurs_49 rfl rfl ?_
    refine G.iload_n 50 3 dX5_tellsOurs_50 rfl rfl ?_
    refine G.cvI 51 (As := [.int x1, .int x3]) ck_5 (hs2.k k_a0) (c_X5_tellsCame Z hs2 a0 x1 x3 k_a0 rfl) mk_X5_tellsCame vk_X5_tellsCame rfl wd_486 hR (by decide +kernel) ⟨rfl, rfl⟩ rfl (Nat.le_of_ble_eq_true rfl) dX5_tellsOurs_51 (fun hs4 => ?_)
    refine G.mminJ 54 wd_475 wd_476 wd_87 wd_477 hR ⟨Nat.le_of_ble_eq_true rfl, Nat.le_of_ble_eq_true rfl, Nat.le_of_ble_eq_true rfl, Nat.le_of_ble_eq_true rfl⟩ dX5_tellsOurs_54 ?_
    subst hf
    exact G.rI 57 hq dX5_tellsOurs_57 hs4
  · replace hf := (if_neg h1).symm.trans hf
    by_cases h6 : (mI M a0 0) = (3 : Int32)
    · replace hf := (if_pos h6).symm.trans hf
      refine G.tableIn 4 58 (off := 54) dX5_tellsOurs_4 (by rw [h6]; decide +kernel) (by rw [h6]; decide +kernel) (by rw [h6]; decide +kernel) (by decide) ?_
      refine G.aload_n 58 0 dX5_tellsOurs_58 rfl rfl ?_
      refine G.iload_n 59 1 dX5_tellsOurs_59 rfl rfl ?_
      refine G.iload 60 4 dX5_tellsOurs_60 rfl ?_
      refine G.cvI 62 (As := [.int x1, .int x4]) ck_5 (hs.k k_a0) (c_X5_madeOurs Z hs a0 x1 x4 k_a0 rfl) mk_X5_madeOurs vk_X5_madeOurs rfl wd_487 hR (by decide +kernel) ⟨rfl, rfl⟩ rfl (Nat.le_of_ble_eq_true rfl) dX5_tellsOurs_62 (fun hs7 => ?_)
      subst hf
      exact G.rI 65 hq dX5_tellsOurs_65 hs7
    · replace hf := (if_neg h6).symm.trans hf
      by_cases h9 : (mI M a0 0) = (4 : Int32)
      · replace hf := (if_pos h9).symm.trans hf
        refine G.tableIn 4 66 (off := 62) dX5_tellsOurs_4 (by rw [h9]; decide +kernel) (by rw [h9]; decide +kernel) (by rw [h9]; decide +kernel) (by decide) ?_
        refine G.iload_n 66 2 dX5_tellsOurs_66 rfl rfl ?_
        refine G.aload_n 67 0 dX5_tellsOurs_67 rfl rfl ?_
        refine G.geti 68 ck_5 1 (hs.k k_a0) (by decide) (by decide +kernel) wd_177 dX5_tellsOurs_68 ?_
        refine G.iadd 71 dX5_tellsOurs_71 ?_
        subst hf
        exact G.rI 72 hq dX5_tellsOurs_72 hs
      · replace hf := (if_neg h9).symm.trans hf
        by_cases h10 : (mI M a0 0) = (5 : Int32)
        · replace hf := (if_pos h10).symm.trans hf
          refine G.tableIn 4 73 (off := 69) dX5_tellsOurs_4 (by rw [h10]; decide +kernel) (by rw [h10]; decide +kernel) (by rw [h10]; decide +kernel) (by decide) ?_
          refine G.iload_n 73 2 dX5_tellsOurs_73 rfl rfl ?_
          refine G.aload_n 74 0 dX5_tellsOurs_74 rfl rfl ?_
          refine G.geti 75 ck_5 1 (hs.k k_a0) (by decide) (by decide +kernel) wd_177 dX5_tellsOurs_75 ?_
          refine G.iadd 78 dX5_tellsOurs_78 ?_
          refine G.iload_n 79 1 dX5_tellsOurs_79 rfl rfl ?_
          refine G.mminJ 80 wd_475 wd_476 wd_87 wd_477 hR ⟨Nat.le_of_ble_eq_true rfl, Nat.le_of_ble_eq_true rfl, Nat.le_of_ble_eq_true rfl, Nat.le_of_ble_eq_true rfl⟩ dX5_tellsOurs_80 ?_
          subst hf
          exact G.rI 83 hq dX5_tellsOurs_83 hs
        · replace hf := (if_neg h10).symm.trans hf
          by_cases h11 : (mI M a0 0) = (6 : Int32)
          · replace hf := (if_pos h11).symm.trans hf
            refine G.tableIn 4 84 (off := 80) dX5_tellsOurs_4 (by rw [h11]; decide +kernel) (by rw [h11]; decide +kernel) (by rw [h11]; decide +kernel) (by decide) ?_
            refine G.iload_n 84 3 dX5_tellsOurs_84 rfl rfl ?_
            subst hf
            exact G.rI 85 hq dX5_tellsOurs_85 hs
          · replace hf := (if_neg h11).symm.trans hf
            by_cases h12 : (mI M a0 0) = (7 : Int32)
            · replace hf := (if_pos h12).symm.trans hf
              refine G.tableIn 4 86 (off := 82) dX5_tellsOurs_4 (by rw [h12]; decide +kernel) (by rw [h12]; decide +kernel) (by rw [h12]; decide +kernel) (by decide) ?_
              refine G.iload_n 86 1 dX5_tellsOurs_86 rfl rfl ?_
              refine G.iload_n 87 2 dX5_tellsOurs_87 rfl rfl ?_
              refine G.csI 88 (As := [.int x1, .int x2]) (c_X5_copiedOurs Z hs x1 x2 rfl) mk_X5_copiedOurs wd_492 wd_491 hR (by decide +kernel) ⟨rfl, rfl⟩ rfl (Nat.le_of_ble_eq_true rfl) dX5_tellsOurs_88 (fun hs13 => ?_)
              subst hf
              exact G.rI 91 hq dX5_tellsOurs_91 hs13
            · replace hf := (if_neg h12).symm.trans hf
              have t_h1 := ti (2 : Int32) (2) (by decide +kernel) h1
              have t_h6 := ti (3 : Int32) (3) (by decide +kernel) h6
              have t_h9 := ti (4 : Int32) (4) (by decide +kernel) h9
              have t_h10 := ti (5 : Int32) (5) (by decide +kernel) h10
              have t_h11 := ti (6 : Int32) (6) (by decide +kernel) h11
              have t_h12 := ti (7 : Int32) (7) (by decide +kernel) h12
              refine G.tableOut 4 92 dX5_tellsOurs_4 (by omega) (by decide) ?_
              refine G.iload_n 92 2 dX5_tellsOurs_92 rfl rfl ?_
              subst hf
              exact G.rI 93 hq dX5_tellsOurs_93 hs
abbrev Y_X1_toldOurs : My := (cX1_toldOurs, RX1, 2)
def rm_X1_toldOurs : Room := { frames := 4, cells := 0, slots := 0, locals := 266 }
theorem dX1_toldOurs_0 : decode cX1_toldOurs 0 = .ok (.aload_n 0, 1) := by decide +kernel
theorem dX1_toldOurs_1 : decode cX1_toldOurs 1 = .ok (.getfield 12, 3) := by decide +kernel
theorem dX1_toldOurs_4 : decode cX1_toldOurs 4 = .ok (.aload_n 0, 1) := by decide +kernel
theorem dX1_toldOurs_5 : decode cX1_toldOurs 5 = .ok (.getfield 34, 3) := by decide +kernel
theorem dX1_toldOurs_8 : decode cX1_toldOurs 8 = .ok (.aload_n 0, 1) := by decide +kernel
theorem dX1_toldOurs_9 : decode cX1_toldOurs 9 = .ok (.getfield 37, 3) := by decide +kernel
theorem dX1_toldOurs_12 : decode cX1_toldOurs 12 = .ok (.aload_n 0, 1) := by decide +kernel
theorem dX1_toldOurs_13 : decode cX1_toldOurs 13 = .ok (.getfield 18, 3) := by decide +kernel
theorem dX1_toldOurs_16 : decode cX1_toldOurs 16 = .ok (.iload_n 1, 1) := by decide +kernel
theorem dX1_toldOurs_17 : decode cX1_toldOurs 17 = .ok (.invokevirtual 67, 3) := by decide +kernel
theorem dX1_toldOurs_20 : decode cX1_toldOurs 20 = .ok (.ireturn, 1) := by decide +kernel
def f_X1_toldOurs (a0 : Nat) (x1 : Int32) (M : Mem) : Int32 := (f_X5_tellsOurs (a0 + 1) (mI M a0 6) (mI M a0 7) (mI M a0 1) x1 M)
set_option maxRecDepth 100000 in
set_option maxHeartbeats 4000000 in
theorem c_X1_toldOurs (Z : Sys) {M : Mem} (hs : St M) (a0 : Nat) (x1 : Int32) (k_a0 : K0[a0]? = some (1, 12)) {q : Int32} (hf : f_X1_toldOurs a0 x1 M = q) : Ct Z yX1_toldOurs cX1_toldOurs 2 (some .int) rm_X1_toldOurs [.ref (zs Z + a0), .int x1] M False (PostI q M) := by
  refine Ct.of (by decide +kernel) (Nat.le_of_ble_eq_true rfl) (fun X hR hq _ => ?_)
  show G Z X Y_X1_toldOurs False 0 0 0 [(0, .ref (zs Z + a0)), (1, .int x1)] [] M
  replace hq : RetOk Z X (some .int) False (PostI q M) 0 0 := hq
  unfold f_X1_toldOurs at hf
  refine G.aload_n 0 0 dX1_toldOurs_0 rfl rfl ?_
  refine G.getp 1 ck_1 0 (a0 + 1) (hs.k k_a0) (pt_1_0 hs k_a0).1 (by decide) (by decide +kernel) wd_186 dX1_toldOurs_1 ?_
  refine G.aload_n 4 0 dX1_toldOurs_4 rfl rfl ?_
  refine G.geti 5 ck_1 6 (hs.k k_a0) (by decide) (by decide +kernel) wd_207 dX1_toldOurs_5 ?_
  refine G.aload_n 8 0 dX1_toldOurs_8 rfl rfl ?_
  refine G.geti 9 ck_1 7 (hs.k k_a0) (by decide) (by decide +kernel) wd_210 dX1_toldOurs_9 ?_
  refine G.aload_n 12 0 dX1_toldOurs_12 rfl rfl ?_
  refine G.geti 13 ck_1 1 (hs.k k_a0) (by decide) (by decide +kernel) wd_189 dX1_toldOurs_13 ?_
  refine G.iload_n 16 1 dX1_toldOurs_16 rfl rfl ?_
  refine G.cvI 17 (As := [.int (mI M a0 6), .int (mI M a0 7), .int (mI M a0 1), .int x1]) ck_5 (hs.k (pt_1_0 hs k_a0).2) (c_X5_tellsOurs Z hs (a0 + 1) (mI M a0 6) (mI M a0 7) (mI M a0 1) x1 (pt_1_0 hs k_a0).2 rfl) mk_X5_tellsOurs vk_X5_tellsOurs rfl wd_482 hR (by decide +kernel) ⟨rfl, rfl⟩ rfl (Nat.le_of_ble_eq_true rfl) dX1_toldOurs_17 (fun hs1 => ?_)
  subst hf
  exact G.rI 20 hq dX1_toldOurs_20 hs1
abbrev Y_X2_addsDigit : My := (cX2_addsDigit, RX2, 2)
def rm_X2_addsDigit : Room := { frames := 2, cells := 0, slots := 0, locals := 220 }
theorem dX2_addsDigit_0 : decode cX2_addsDigit 0 = .ok (.iload_n 1, 1) := by decide +kernel
theorem dX2_addsDigit_1 : decode cX2_addsDigit 1 = .ok (.invokestatic 46, 3) := by decide +kernel
theorem dX2_addsDigit_4 : decode cX2_addsDigit 4 = .ok (.ifCond .eq 18, 3) := by decide +kernel
theorem dX2_addsDigit_7 : decode cX2_addsDigit 7 = .ok (.aload_n 0, 1) := by decide +kernel
theorem dX2_addsDigit_8 : decode cX2_addsDigit 8 = .ok (.getfield 52, 3) := by decide +kernel
theorem dX2_addsDigit_11 : decode cX2_addsDigit 11 = .ok (.ifCond .ne 11, 3) := by decide +kernel
theorem dX2_addsDigit_14 : decode cX2_addsDigit 14 = .ok (.aload_n 0, 1) := by decide +kernel
theorem dX2_addsDigit_15 : decode cX2_addsDigit 15 = .ok (.getfield 49, 3) := by decide +kernel
theorem dX2_addsDigit_18 : decode cX2_addsDigit 18 = .ok (.iconst 4, 1) := by decide +kernel
theorem dX2_addsDigit_19 : decode cX2_addsDigit 19 = .ok (.if_icmp .lt 5, 3) := by decide +kernel
theorem dX2_addsDigit_22 : decode cX2_addsDigit 22 = .ok (.iconst 0, 1) := by decide +kernel
theorem dX2_addsDigit_23 : decode cX2_addsDigit 23 = .ok (.ireturn, 1) := by decide +kernel
theorem dX2_addsDigit_24 : decode cX2_addsDigit 24 = .ok (.aload_n 0, 1) := by decide +kernel
theorem dX2_addsDigit_25 : decode cX2_addsDigit 25 = .ok (.dup, 1) := by decide +kernel
theorem dX2_addsDigit_26 : decode cX2_addsDigit 26 = .ok (.getfield 49, 3) := by decide +kernel
theorem dX2_addsDigit_29 : decode cX2_addsDigit 29 = .ok (.iconst 1, 1) := by decide +kernel
theorem dX2_addsDigit_30 : decode cX2_addsDigit 30 = .ok (.iadd, 1) := by decide +kernel
theorem dX2_addsDigit_31 : decode cX2_addsDigit 31 = .ok (.putfield 49, 3) := by decide +kernel
theorem dX2_addsDigit_34 : decode cX2_addsDigit 34 = .ok (.iconst 1, 1) := by decide +kernel
theorem dX2_addsDigit_35 : decode cX2_addsDigit 35 = .ok (.ireturn, 1) := by decide +kernel
def f_X2_addsDigit (x1 : Int32) (M : Mem) : Option (Int32 × Mem) := if (f_X2_isDigit x1) = 0 then some ((0 : Int32), M) else if (mI M 259 4) = 0 then if (mI M 259 3) < (4 : Int32) then some ((1 : Int32), (sI M 259 3 ((mI M 259 3) + (1 : Int32)))) else some ((0 : Int32), M) else some ((0 : Int32), M)
set_option maxRecDepth 100000 in
set_option maxHeartbeats 4000000 in
theorem c_X2_addsDigit (Z : Sys) {M : Mem} (hs : St M) (x1 : Int32) {q : Int32 × Mem} (hf : f_X2_addsDigit x1 M = some q) : Ct Z yX2_addsDigit cX2_addsDigit 2 (some .boolean) rm_X2_addsDigit [.ref (zs Z + 259), .int x1] M False (PostZ q.1 q.2) := by
  refine Ct.of (by decide +kernel) (Nat.le_of_ble_eq_true rfl) (fun X hR hq _ => ?_)
  show G Z X Y_X2_addsDigit False 0 0 0 [(0, .ref (zs Z + 259)), (1, .int x1)] [] M
  replace hq : RetOk Z X (some .boolean) False (PostZ q.1 q.2) 0 0 := hq
  unfold f_X2_addsDigit at hf
  refine G.iload_n 0 1 dX2_addsDigit_0 rfl rfl ?_
  refine G.csZ 1 (As := [.int x1]) (c_X2_isDigit Z hs x1 rfl) mk_X2_isDigit wd_903 wd_902 hR (by decide +kernel) ⟨rfl, rfl⟩ rfl (Nat.le_of_ble_eq_true rfl) dX2_addsDigit_1 (fun hs1 z2 => ?_)
  refine G.if_eq 4 22 dX2_addsDigit_4 (by decide) (fun h3 => ?_) (fun h3 => ?_)
  · replace hf := (if_pos h3).symm.trans hf
    refine G.iconst 22 (0 : Int32) dX2_addsDigit_22 (by decide +kernel) ?_
    (have hf9 := Option.some.inj hf; subst hf9)
    exact G.rZ 23 hq dX2_addsDigit_23 hs1 (Or.inl rfl)
  · replace hf := (if_neg h3).symm.trans hf
    refine G.aload_n 7 0 dX2_addsDigit_7 rfl rfl ?_
    refine G.geti 8 ck_2 4 (hs1.k k0_259) (by decide) (by decide +kernel) wd_354 dX2_addsDigit_8 ?_
    refine G.if_ne 11 22 dX2_addsDigit_11 (by decide) (fun h4 => ?_) (fun h4 => ?_)
    · replace hf := (if_neg h4).symm.trans hf
      refine G.iconst 22 (0 : Int32) dX2_addsDigit_22 (by decide +kernel) ?_
      (have hf9 := Option.some.inj hf; subst hf9)
      exact G.rZ 23 hq dX2_addsDigit_23 hs1 (Or.inl rfl)
    · replace hf := (if_pos h4).symm.trans hf
      refine G.aload_n 14 0 dX2_addsDigit_14 rfl rfl ?_
      refine G.geti 15 ck_2 3 (hs1.k k0_259) (by decide) (by decide +kernel) wd_353 dX2_addsDigit_15 ?_
      refine G.iconst 18 (4 : Int32) dX2_addsDigit_18 (by decide +kernel) ?_
      refine G.icmp_lt 19 24 dX2_addsDigit_19 (by decide) (fun h5 => ?_) (fun h5 => ?_)
      · replace hf := (if_pos h5).symm.trans hf
        refine G.aload_n 24 0 dX2_addsDigit_24 rfl rfl ?_
        refine G.dup 25 dX2_addsDigit_25 rfl ?_
        refine G.geti 26 ck_2 3 (hs1.k k0_259) (by decide) (by decide +kernel) wd_353 dX2_addsDigit_26 ?_
        refine G.iconst 29 (1 : Int32) dX2_addsDigit_29 (by decide +kernel) ?_
        refine G.iadd 30 dX2_addsDigit_30 ?_
        refine G.puti 31 ck_2 3 (hs1.k k0_259) (by decide) (by decide +kernel) rfl wd_353 rfl rfl dX2_addsDigit_31 ?_
        refine G.iconst 34 (1 : Int32) dX2_addsDigit_34 (by decide +kernel) ?_
        (have hf9 := Option.some.inj hf; subst hf9)
        exact G.rZ 35 hq dX2_addsDigit_35 (St.i hs1) (Or.inr rfl)
      · replace hf := (if_neg h5).symm.trans hf
        refine G.iconst 22 (0 : Int32) dX2_addsDigit_22 (by decide +kernel) ?_
        (have hf9 := Option.some.inj hf; subst hf9)
        exact G.rZ 23 hq dX2_addsDigit_23 hs1 (Or.inl rfl)
abbrev Y_X2_become : My := (cX2_become, RX2, 2)
def rm_X2_become : Room := { frames := 1, cells := 0, slots := 0, locals := 200 }
theorem dX2_become_0 : decode cX2_become 0 = .ok (.aload_n 0, 1) := by decide +kernel
theorem dX2_become_1 : decode cX2_become 1 = .ok (.iload_n 1, 1) := by decide +kernel
theorem dX2_become_2 : decode cX2_become 2 = .ok (.putfield 9, 3) := by decide +kernel
theorem dX2_become_5 : decode cX2_become 5 = .ok (.iconst 1, 1) := by decide +kernel
theorem dX2_become_6 : decode cX2_become 6 = .ok (.ireturn, 1) := by decide +kernel
def f_X2_become (x1 : Int32) (M : Mem) : Option (Int32 × Mem) := some ((1 : Int32), (sI M 259 0 x1))
set_option maxRecDepth 100000 in
set_option maxHeartbeats 4000000 in
theorem c_X2_become (Z : Sys) {M : Mem} (hs : St M) (x1 : Int32) {q : Int32 × Mem} (hf : f_X2_become x1 M = some q) : Ct Z yX2_become cX2_become 2 (some .boolean) rm_X2_become [.ref (zs Z + 259), .int x1] M False (PostZ q.1 q.2) := by
  refine Ct.of (by decide +kernel) (Nat.le_of_ble_eq_true rfl) (fun X hR hq _ => ?_)
  show G Z X Y_X2_become False 0 0 0 [(0, .ref (zs Z + 259)), (1, .int x1)] [] M
  replace hq : RetOk Z X (some .boolean) False (PostZ q.1 q.2) 0 0 := hq
  unfold f_X2_become at hf
  refine G.aload_n 0 0 dX2_become_0 rfl rfl ?_
  refine G.iload_n 1 1 dX2_become_1 rfl rfl ?_
  refine G.puti 2 ck_2 0 (hs.k k0_259) (by decide) (by decide +kernel) rfl wd_350 rfl rfl dX2_become_2 ?_
  refine G.iconst 5 (1 : Int32) dX2_become_5 (by decide +kernel) ?_
  (have hf9 := Option.some.inj hf; subst hf9)
  exact G.rZ 6 hq dX2_become_6 (St.i hs) (Or.inr rfl)
abbrev Y_X2_beginsAtom : My := (cX2_beginsAtom, RX2, 2)
def rm_X2_beginsAtom : Room := { frames := 6, cells := 0, slots := 0, locals := 311 }
theorem dX2_beginsAtom_0 : decode cX2_beginsAtom 0 = .ok (.iload_n 1, 1) := by decide +kernel
theorem dX2_beginsAtom_1 : decode cX2_beginsAtom 1 = .ok (.invokestatic 46, 3) := by decide +kernel
theorem dX2_beginsAtom_4 : decode cX2_beginsAtom 4 = .ok (.ifCond .eq 29, 3) := by decide +kernel
theorem dX2_beginsAtom_7 : decode cX2_beginsAtom 7 = .ok (.aload_n 0, 1) := by decide +kernel
theorem dX2_beginsAtom_8 : decode cX2_beginsAtom 8 = .ok (.iconst 1, 1) := by decide +kernel
theorem dX2_beginsAtom_9 : decode cX2_beginsAtom 9 = .ok (.putfield 49, 3) := by decide +kernel
theorem dX2_beginsAtom_12 : decode cX2_beginsAtom 12 = .ok (.aload_n 0, 1) := by decide +kernel
theorem dX2_beginsAtom_13 : decode cX2_beginsAtom 13 = .ok (.iload_n 1, 1) := by decide +kernel
theorem dX2_beginsAtom_14 : decode cX2_beginsAtom 14 = .ok (.bipush 48, 2) := by decide +kernel
theorem dX2_beginsAtom_16 : decode cX2_beginsAtom 16 = .ok (.if_icmp .ne 7, 3) := by decide +kernel
theorem dX2_beginsAtom_19 : decode cX2_beginsAtom 19 = .ok (.iconst 1, 1) := by decide +kernel
theorem dX2_beginsAtom_20 : decode cX2_beginsAtom 20 = .ok (.goto 4, 3) := by decide +kernel
theorem dX2_beginsAtom_23 : decode cX2_beginsAtom 23 = .ok (.iconst 0, 1) := by decide +kernel
theorem dX2_beginsAtom_24 : decode cX2_beginsAtom 24 = .ok (.putfield 52, 3) := by decide +kernel
theorem dX2_beginsAtom_27 : decode cX2_beginsAtom 27 = .ok (.aload_n 0, 1) := by decide +kernel
theorem dX2_beginsAtom_28 : decode cX2_beginsAtom 28 = .ok (.iconst 4, 1) := by decide +kernel
theorem dX2_beginsAtom_29 : decode cX2_beginsAtom 29 = .ok (.invokevirtual 28, 3) := by decide +kernel
theorem dX2_beginsAtom_32 : decode cX2_beginsAtom 32 = .ok (.ireturn, 1) := by decide +kernel
theorem dX2_beginsAtom_33 : decode cX2_beginsAtom 33 = .ok (.iload_n 1, 1) := by decide +kernel
theorem dX2_beginsAtom_34 : decode cX2_beginsAtom 34 = .ok (.invokestatic 55, 3) := by decide +kernel
theorem dX2_beginsAtom_37 : decode cX2_beginsAtom 37 = .ok (.ifCond .eq 15, 3) := by decide +kernel
theorem dX2_beginsAtom_40 : decode cX2_beginsAtom 40 = .ok (.aload_n 0, 1) := by decide +kernel
theorem dX2_beginsAtom_41 : decode cX2_beginsAtom 41 = .ok (.iconst 5, 1) := by decide +kernel
theorem dX2_beginsAtom_42 : decode cX2_beginsAtom 42 = .ok (.invokevirtual 28, 3) := by decide +kernel
theorem dX2_beginsAtom_45 : decode cX2_beginsAtom 45 = .ok (.ifCond .eq 7, 3) := by decide +kernel
theorem dX2_beginsAtom_48 : decode cX2_beginsAtom 48 = .ok (.iconst 1, 1) := by decide +kernel
theorem dX2_beginsAtom_49 : decode cX2_beginsAtom 49 = .ok (.goto 4, 3) := by decide +kernel
theorem dX2_beginsAtom_52 : decode cX2_beginsAtom 52 = .ok (.iconst 0, 1) := by decide +kernel
theorem dX2_beginsAtom_53 : decode cX2_beginsAtom 53 = .ok (.ireturn, 1) := by decide +kernel
def f_X2_beginsAtom (x1 : Int32) (M : Mem) : Option (Int32 × Mem) := if (f_X2_isDigit x1) = 0 then (f_X2_isField x1).bind fun q6 => if q6 = 0 then some ((0 : Int32), M) else (f_X2_become (5 : Int32) M).bind fun q11 => if q11.1 = 0 then some ((0 : Int32), q11.2) else some ((1 : Int32), q11.2) else if x1 = (48 : Int32) then (f_X2_become (4 : Int32) (sI (sI M 259 3 (1 : Int32)) 259 4 (1 : Int32))).bind fun q21 => some (q21.1, q21.2) else (f_X2_become (4 : Int32) (sI (sI M 259 3 (1 : Int32)) 259 4 (0 : Int32))).bind fun q17 => some (q17.1, q17.2)
set_option maxRecDepth 100000 in
set_option maxHeartbeats 4000000 in
theorem c_X2_beginsAtom (Z : Sys) {M : Mem} (hs : St M) (x1 : Int32) {q : Int32 × Mem} (hf : f_X2_beginsAtom x1 M = some q) : Ct Z yX2_beginsAtom cX2_beginsAtom 2 (some .boolean) rm_X2_beginsAtom [.ref (zs Z + 259), .int x1] M False (PostZ q.1 q.2) := by
  refine Ct.of (by decide +kernel) (Nat.le_of_ble_eq_true rfl) (fun X hR hq _ => ?_)
  show G Z X Y_X2_beginsAtom False 0 0 0 [(0, .ref (zs Z + 259)), (1, .int x1)] [] M
  replace hq : RetOk Z X (some .boolean) False (PostZ q.1 q.2) 0 0 := hq
  unfold f_X2_beginsAtom at hf
  refine G.iload_n 0 1 dX2_beginsAtom_0 rfl rfl ?_
  refine G.csZ 1 (As := [.int x1]) (c_X2_isDigit Z hs x1 rfl) mk_X2_isDigit wd_903 wd_902 hR (by decide +kernel) ⟨rfl, rfl⟩ rfl (Nat.le_of_ble_eq_true rfl) dX2_beginsAtom_1 (fun hs1 z2 => ?_)
  refine G.if_eq 4 33 dX2_beginsAtom_4 (by decide) (fun h3 => ?_) (fun h3 => ?_)
  · replace hf := (if_pos h3).symm.trans hf
    refine G.iload_n 33 1 dX2_beginsAtom_33 rfl rfl ?_
    obtain ⟨q6, e7, hf⟩ := bd_e hf
    refine G.csZ 34 (As := [.int x1]) (c_X2_isField Z hs1 x1 e7) mk_X2_isField wd_906 wd_905 hR (by decide +kernel) ⟨rfl, rfl⟩ rfl (Nat.le_of_ble_eq_true rfl) dX2_beginsAtom_34 (fun hs4 z5 => ?_)
    refine G.if_eq 37 52 dX2_beginsAtom_37 (by decide) (fun h8 => ?_) (fun h8 => ?_)
    · replace hf := (if_pos h8).symm.trans hf
      refine G.iconst 52 (0 : Int32) dX2_beginsAtom_52 (by decide +kernel) ?_
      (have hf9 := Option.some.inj hf; subst hf9)
      exact G.rZ 53 hq dX2_beginsAtom_53 hs4 (Or.inl rfl)
    · replace hf := (if_neg h8).symm.trans hf
      refine G.aload_n 40 0 dX2_beginsAtom_40 rfl rfl ?_
      refine G.iconst 41 (5 : Int32) dX2_beginsAtom_41 (by decide +kernel) ?_
      obtain ⟨q11, e12, hf⟩ := bd_e hf
      refine G.cvZ 42 (As := [.int (5 : Int32)]) ck_2 (hs4.k k0_259) (c_X2_become Z hs4 (5 : Int32) e12) mk_X2_become vk_X2_become rfl wd_890 hR (by decide +kernel) ⟨rfl, rfl⟩ rfl (Nat.le_of_ble_eq_true rfl) dX2_beginsAtom_42 (fun hs9 z10 => ?_)
      refine G.if_eq 45 52 dX2_beginsAtom_45 (by decide) (fun h13 => ?_) (fun h13 => ?_)
      · replace hf := (if_pos h13).symm.trans hf
        refine G.iconst 52 (0 : Int32) dX2_beginsAtom_52 (by decide +kernel) ?_
        (have hf9 := Option.some.inj hf; subst hf9)
        exact G.rZ 53 hq dX2_beginsAtom_53 hs9 (Or.inl rfl)
      · replace hf := (if_neg h13).symm.trans hf
        refine G.iconst 48 (1 : Int32) dX2_beginsAtom_48 (by decide +kernel) ?_
        refine G.goto 49 53 dX2_beginsAtom_49 (by decide) ?_
        (have hf9 := Option.some.inj hf; subst hf9)
        exact G.rZ 53 hq dX2_beginsAtom_53 hs9 (Or.inr rfl)
  · replace hf := (if_neg h3).symm.trans hf
    refine G.aload_n 7 0 dX2_beginsAtom_7 rfl rfl ?_
    refine G.iconst 8 (1 : Int32) dX2_beginsAtom_8 (by decide +kernel) ?_
    refine G.puti 9 ck_2 3 (hs1.k k0_259) (by decide) (by decide +kernel) rfl wd_353 rfl rfl dX2_beginsAtom_9 ?_
    refine G.aload_n 12 0 dX2_beginsAtom_12 rfl rfl ?_
    refine G.iload_n 13 1 dX2_beginsAtom_13 rfl rfl ?_
    refine G.bipush 14 (48 : Int32) dX2_beginsAtom_14 (by decide +kernel) ?_
    refine G.icmp_ne 16 23 dX2_beginsAtom_16 (by decide) (fun h14 => ?_) (fun h14 => ?_)
    · replace hf := (if_neg h14).symm.trans hf
      refine G.iconst 23 (0 : Int32) dX2_beginsAtom_23 (by decide +kernel) ?_
      refine G.puti 24 ck_2 4 ((St.i hs1).k k0_259) (by decide) (by decide +kernel) rfl wd_354 rfl rfl dX2_beginsAtom_24 ?_
      refine G.aload_n 27 0 dX2_beginsAtom_27 rfl rfl ?_
      refine G.iconst 28 (4 : Int32) dX2_beginsAtom_28 (by decide +kernel) ?_
      obtain ⟨q17, e18, hf⟩ := bd_e hf
      refine G.cvZ 29 (As := [.int (4 : Int32)]) ck_2 ((St.i (St.i hs1)).k k0_259) (c_X2_become Z (St.i (St.i hs1)) (4 : Int32) e18) mk_X2_become vk_X2_become rfl wd_890 hR (by decide +kernel) ⟨rfl, rfl⟩ rfl (Nat.le_of_ble_eq_true rfl) dX2_beginsAtom_29 (fun hs15 z16 => ?_)
      (have hf9 := Option.some.inj hf; subst hf9)
      exact G.rZ 32 hq dX2_beginsAtom_32 hs15 z16
    · replace hf := (if_pos h14).symm.trans hf
      refine G.iconst 19 (1 : Int32) dX2_beginsAtom_19 (by decide +kernel) ?_
      refine G.goto 20 24 dX2_beginsAtom_20 (by decide) ?_
      refine G.puti 24 ck_2 4 ((St.i hs1).k k0_259) (by decide) (by decide +kernel) rfl wd_354 rfl rfl dX2_beginsAtom_24 ?_
      refine G.aload_n 27 0 dX2_beginsAtom_27 rfl rfl ?_
      refine G.iconst 28 (4 : Int32) dX2_beginsAtom_28 (by decide +kernel) ?_
      obtain ⟨q21, e22, hf⟩ := bd_e hf
      refine G.cvZ 29 (As := [.int (4 : Int32)]) ck_2 ((St.i (St.i hs1)).k k0_259) (c_X2_become Z (St.i (St.i hs1)) (4 : Int32) e22) mk_X2_become vk_X2_become rfl wd_890 hR (by decide +kernel) ⟨rfl, rfl⟩ rfl (Nat.le_of_ble_eq_true rfl) dX2_beginsAtom_29 (fun hs19 z20 => ?_)
      (have hf9 := Option.some.inj hf; subst hf9)
      exact G.rZ 32 hq dX2_beginsAtom_32 hs19 z20
