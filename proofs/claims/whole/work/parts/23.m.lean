abbrev Y_X8_isRound : My := (cX8_isRound, RX8, 2)
def rm_X8_isRound : Room := { frames := 1, cells := 0, slots := 0, locals := 200 }
theorem dX8_isRound_0 : decode cX8_isRound 0 = .ok (.iload_n 0, 1) := by decide +kernel
theorem dX8_isRound_1 : decode cX8_isRound 1 = .ok (.ifCond .le 27, 3) := by decide +kernel
theorem dX8_isRound_4 : decode cX8_isRound 4 = .ok (.iload_n 1, 1) := by decide +kernel
theorem dX8_isRound_5 : decode cX8_isRound 5 = .ok (.bipush 100, 2) := by decide +kernel
theorem dX8_isRound_7 : decode cX8_isRound 7 = .ok (.imul, 1) := by decide +kernel
theorem dX8_isRound_8 : decode cX8_isRound 8 = .ok (.iload_n 0, 1) := by decide +kernel
theorem dX8_isRound_9 : decode cX8_isRound 9 = .ok (.irem, 1) := by decide +kernel
theorem dX8_isRound_10 : decode cX8_isRound 10 = .ok (.ifCond .ne 18, 3) := by decide +kernel
theorem dX8_isRound_13 : decode cX8_isRound 13 = .ok (.iload_n 1, 1) := by decide +kernel
theorem dX8_isRound_14 : decode cX8_isRound 14 = .ok (.bipush 100, 2) := by decide +kernel
theorem dX8_isRound_16 : decode cX8_isRound 16 = .ok (.imul, 1) := by decide +kernel
theorem dX8_isRound_17 : decode cX8_isRound 17 = .ok (.iload_n 0, 1) := by decide +kernel
theorem dX8_isRound_18 : decode cX8_isRound 18 = .ok (.idiv, 1) := by decide +kernel
theorem dX8_isRound_19 : decode cX8_isRound 19 = .ok (.iconst 5, 1) := by decide +kernel
theorem dX8_isRound_20 : decode cX8_isRound 20 = .ok (.irem, 1) := by decide +kernel
theorem dX8_isRound_21 : decode cX8_isRound 21 = .ok (.ifCond .ne 7, 3) := by decide +kernel
theorem dX8_isRound_24 : decode cX8_isRound 24 = .ok (.iconst 1, 1) := by decide +kernel
theorem dX8_isRound_25 : decode cX8_isRound 25 = .ok (.goto 4, 3) := by decide +kernel
theorem dX8_isRound_28 : decode cX8_isRound 28 = .ok (.iconst 0, 1) := by decide +kernel
theorem dX8_isRound_29 : decode cX8_isRound 29 = .ok (.ireturn, 1) := by decide +kernel
def f_X8_isRound (x0 : Int32) (x1 : Int32) : Option Int32 := if x0 ≤ 0 then some (0 : Int32) else gd (¬ x0 = 0) (if (jrem (x1 * (100 : Int32)) x0) = 0 then if (jrem ((x1 * (100 : Int32)) / x0) (5 : Int32)) = 0 then some (1 : Int32) else some (0 : Int32) else some (0 : Int32))
set_option maxRecDepth 100000 in
set_option maxHeartbeats 4000000 in
theorem c_X8_isRound (Z : Sys) {M : Mem} (hs : St M) (x0 : Int32) (x1 : Int32) {q : Int32} (hf : f_X8_isRound x0 x1 = some q) : Ct Z yX8_isRound cX8_isRound 2 (some .boolean) rm_X8_isRound [.int x0, .int x1] M False (PostZ q M) := by
  refine Ct.of (by decide +kernel) (Nat.le_of_ble_eq_true rfl) (fun X hR hq _ => ?_)
  show G Z X Y_X8_isRound False 0 0 0 [(0, .int x0), (1, .int x1)] [] M
  replace hq : RetOk Z X (some .boolean) False (PostZ q M) 0 0 := hq
  unfold f_X8_isRound at hf
  refine G.iload_n 0 0 dX8_isRound_0 rfl rfl ?_
  refine G.if_le 1 28 dX8_isRound_1 (by decide) (fun h1 => ?_) (fun h1 => ?_)
  · replace hf := (if_pos h1).symm.trans hf
    refine G.iconst 28 (0 : Int32) dX8_isRound_28 (by decide +kernel) ?_
    (have hf9 := Option.some.inj hf; subst hf9)
    exact G.rZ 29 hq dX8_isRound_29 hs (Or.inl rfl)
  · replace hf := (if_neg h1).symm.trans hf
    refine G.iload_n 4 1 dX8_isRound_4 rfl rfl ?_
    refine G.bipush 5 (100 : Int32) dX8_isRound_5 (by decide +kernel) ?_
    refine G.imul 7 dX8_isRound_7 ?_
    refine G.iload_n 8 0 dX8_isRound_8 rfl rfl ?_
    obtain ⟨g2, hf⟩ := gd_e hf
    refine G.iremJ 9 dX8_isRound_9 g2 ?_
    refine G.if_ne 10 28 dX8_isRound_10 (by decide) (fun h3 => ?_) (fun h3 => ?_)
    · replace hf := (if_neg h3).symm.trans hf
      refine G.iconst 28 (0 : Int32) dX8_isRound_28 (by decide +kernel) ?_
      (have hf9 := Option.some.inj hf; subst hf9)
      exact G.rZ 29 hq dX8_isRound_29 hs (Or.inl rfl)
    · replace hf := (if_pos h3).symm.trans hf
      refine G.iload_n 13 1 dX8_isRound_13 rfl rfl ?_
      refine G.bipush 14 (100 : Int32) dX8_isRound_14 (by decide +kernel) ?_
      refine G.imul 16 dX8_isRound_16 ?_
      refine G.iload_n 17 0 dX8_isRound_17 rfl rfl ?_
      refine G.idiv 18 dX8_isRound_18 g2 ?_
      refine G.iconst 19 (5 : Int32) dX8_isRound_19 (by decide +kernel) ?_
      refine G.iremJ 20 dX8_isRound_20 (by decide +kernel) ?_
      refine G.if_ne 21 28 dX8_isRound_21 (by decide) (fun h4 => ?_) (fun h4 => ?_)
      · replace hf := (if_neg h4).symm.trans hf
        refine G.iconst 28 (0 : Int32) dX8_isRound_28 (by decide +kernel) ?_
        (have hf9 := Option.some.inj hf; subst hf9)
        exact G.rZ 29 hq dX8_isRound_29 hs (Or.inl rfl)
      · replace hf := (if_pos h4).symm.trans hf
        refine G.iconst 24 (1 : Int32) dX8_isRound_24 (by decide +kernel) ?_
        refine G.goto 25 29 dX8_isRound_25 (by decide) ?_
        (have hf9 := Option.some.inj hf; subst hf9)
        exact G.rZ 29 hq dX8_isRound_29 hs (Or.inr rfl)
abbrev Y_X0_roundCount : My := (cX0_roundCount, RX0, 5)
def rm_X0_roundCount : Room := { frames := 3, cells := 0, slots := 0, locals := 241 }
theorem dX0_roundCount_0 : decode cX0_roundCount 0 = .ok (.iconst 0, 1) := by decide +kernel
theorem dX0_roundCount_1 : decode cX0_roundCount 1 = .ok (.istore_n 2, 1) := by decide +kernel
theorem dX0_roundCount_2 : decode cX0_roundCount 2 = .ok (.iconst 0, 1) := by decide +kernel
theorem dX0_roundCount_3 : decode cX0_roundCount 3 = .ok (.istore_n 3, 1) := by decide +kernel
theorem dX0_roundCount_4 : decode cX0_roundCount 4 = .ok (.iload_n 3, 1) := by decide +kernel
theorem dX0_roundCount_5 : decode cX0_roundCount 5 = .ok (.aload_n 0, 1) := by decide +kernel
theorem dX0_roundCount_6 : decode cX0_roundCount 6 = .ok (.getfield 53, 3) := by decide +kernel
theorem dX0_roundCount_9 : decode cX0_roundCount 9 = .ok (.if_icmp .ge 58, 3) := by decide +kernel
theorem dX0_roundCount_12 : decode cX0_roundCount 12 = .ok (.aload_n 0, 1) := by decide +kernel
theorem dX0_roundCount_13 : decode cX0_roundCount 13 = .ok (.getfield 13, 3) := by decide +kernel
theorem dX0_roundCount_16 : decode cX0_roundCount 16 = .ok (.iload_n 3, 1) := by decide +kernel
theorem dX0_roundCount_17 : decode cX0_roundCount 17 = .ok (.aaload, 1) := by decide +kernel
theorem dX0_roundCount_18 : decode cX0_roundCount 18 = .ok (.astore 4, 2) := by decide +kernel
theorem dX0_roundCount_20 : decode cX0_roundCount 20 = .ok (.aload 4, 2) := by decide +kernel
theorem dX0_roundCount_22 : decode cX0_roundCount 22 = .ok (.getfield 78, 3) := by decide +kernel
theorem dX0_roundCount_25 : decode cX0_roundCount 25 = .ok (.ifCond .ne 36, 3) := by decide +kernel
theorem dX0_roundCount_28 : decode cX0_roundCount 28 = .ok (.aload 4, 2) := by decide +kernel
theorem dX0_roundCount_30 : decode cX0_roundCount 30 = .ok (.getfield 115, 3) := by decide +kernel
theorem dX0_roundCount_33 : decode cX0_roundCount 33 = .ok (.aload 4, 2) := by decide +kernel
theorem dX0_roundCount_35 : decode cX0_roundCount 35 = .ok (.getfield 118, 3) := by decide +kernel
theorem dX0_roundCount_38 : decode cX0_roundCount 38 = .ok (.invokestatic 121, 3) := by decide +kernel
theorem dX0_roundCount_41 : decode cX0_roundCount 41 = .ok (.ifCond .eq 20, 3) := by decide +kernel
theorem dX0_roundCount_44 : decode cX0_roundCount 44 = .ok (.iload_n 1, 1) := by decide +kernel
theorem dX0_roundCount_45 : decode cX0_roundCount 45 = .ok (.iconst (-1), 1) := by decide +kernel
theorem dX0_roundCount_46 : decode cX0_roundCount 46 = .ok (.if_icmp .eq 12, 3) := by decide +kernel
theorem dX0_roundCount_49 : decode cX0_roundCount 49 = .ok (.aload 4, 2) := by decide +kernel
theorem dX0_roundCount_51 : decode cX0_roundCount 51 = .ok (.invokevirtual 125, 3) := by decide +kernel
theorem dX0_roundCount_54 : decode cX0_roundCount 54 = .ok (.iload_n 1, 1) := by decide +kernel
theorem dX0_roundCount_55 : decode cX0_roundCount 55 = .ok (.if_icmp .ne 6, 3) := by decide +kernel
theorem dX0_roundCount_58 : decode cX0_roundCount 58 = .ok (.iinc 2 1, 3) := by decide +kernel
theorem dX0_roundCount_61 : decode cX0_roundCount 61 = .ok (.iinc 3 1, 3) := by decide +kernel
theorem dX0_roundCount_64 : decode cX0_roundCount 64 = .ok (.goto (-60), 3) := by decide +kernel
theorem dX0_roundCount_67 : decode cX0_roundCount 67 = .ok (.iload_n 2, 1) := by decide +kernel
theorem dX0_roundCount_68 : decode cX0_roundCount 68 = .ok (.ireturn, 1) := by decide +kernel
def B_X0_roundCount_61 (rc_4 : Nat → Int32 → Int32 → Int32 → Mem → Option Int32) (a0 : Nat) (x1 : Int32) (x2 : Int32) (x3 : Int32) (M : Mem) : Option Int32 := rc_4 a0 x1 x2 (x3 + 1) M
def B_X0_roundCount_58 (rc_4 : Nat → Int32 → Int32 → Int32 → Mem → Option Int32) (a0 : Nat) (x1 : Int32) (x2 : Int32) (x3 : Int32) (M : Mem) : Option Int32 := B_X0_roundCount_61 rc_4 a0 x1 (x2 + 1) x3 M
def L_X0_roundCount_4 : Nat → Nat → Int32 → Int32 → Int32 → Mem → Option Int32
  | 0, _, _, _, _, _ => none
  | n + 1, a0, x1, x2, x3, M => if (mI M a0 1) ≤ x3 then some x2 else gd (inR x3 30) (if (mI M ((a0 + 1) + 23 + 2 * x3.toNatClampNeg) 9) = 0 then (f_X8_isRound (mI M ((a0 + 1) + 23 + 2 * x3.toNatClampNeg) 10) (mI M ((a0 + 1) + 23 + 2 * x3.toNatClampNeg) 11)).bind fun q6 => if q6 = 0 then B_X0_roundCount_61 (L_X0_roundCount_4 n) a0 x1 x2 x3 M else if x1 = (-1 : Int32) then B_X0_roundCount_58 (L_X0_roundCount_4 n) a0 x1 x2 x3 M else (f_X1_share ((a0 + 1) + 23 + 2 * x3.toNatClampNeg) M).bind fun q12 => if q12 = x1 then B_X0_roundCount_58 (L_X0_roundCount_4 n) a0 x1 x2 x3 M else B_X0_roundCount_61 (L_X0_roundCount_4 n) a0 x1 x2 x3 M else B_X0_roundCount_61 (L_X0_roundCount_4 n) a0 x1 x2 x3 M)
def f_X0_roundCount (a0 : Nat) (x1 : Int32) (M : Mem) : Option Int32 := L_X0_roundCount_4 FU a0 x1 (0 : Int32) (0 : Int32) M
set_option maxRecDepth 100000 in
set_option maxHeartbeats 4000000 in
theorem b_X0_roundCount_61 (Z : Sys) (X : Cx) (hR : xR X = rm_X0_roundCount) {q : Int32} {M : Mem} (hq : RetOk Z X (some .int) False (PostI q M) 0 0) (rc_4 : Nat → Int32 → Int32 → Int32 → Mem → Option Int32) (hrc_4 : ∀ (a0 : Nat) (x1 : Int32) (x2 : Int32) (x3 : Int32), St M → K0[a0]? = some (0, 12) → rc_4 a0 x1 x2 x3 M = some q → G Z X Y_X0_roundCount False 0 0 4 [(0, .ref (zs Z + a0)), (1, .int x1), (2, .int x2), (3, .int x3)] [] M) (a0 : Nat) (x1 : Int32) (x2 : Int32) (x3 : Int32) (hs : St M) (k_a0 : K0[a0]? = some (0, 12)) (hf : B_X0_roundCount_61 rc_4 a0 x1 x2 x3 M = some q) : G Z X Y_X0_roundCount False 0 0 61 [(0, .ref (zs Z + a0)), (1, .int x1), (2, .int x2), (3, .int x3)] [] M := by
  unfold B_X0_roundCount_61 at hf
  refine G.iinc 61 3 (x3 + 1) [(3, .int (x3 + 1)), (0, .ref (zs Z + a0)), (1, .int x1), (2, .int x2)] dX0_roundCount_61 rfl (congrArg (fun z => x3 + z) (by decide +kernel)) (Nat.le_of_ble_eq_true rfl) rfl ?_
  refine G.goto 64 4 dX0_roundCount_64 (by decide) ?_
  refine G.locs [1, 2, 3, 0] rfl ?_
  exact hrc_4 a0 x1 x2 (x3 + 1) hs k_a0 hf
set_option maxRecDepth 100000 in
set_option maxHeartbeats 4000000 in
theorem b_X0_roundCount_58 (Z : Sys) (X : Cx) (hR : xR X = rm_X0_roundCount) {q : Int32} {M : Mem} (hq : RetOk Z X (some .int) False (PostI q M) 0 0) (rc_4 : Nat → Int32 → Int32 → Int32 → Mem → Option Int32) (hrc_4 : ∀ (a0 : Nat) (x1 : Int32) (x2 : Int32) (x3 : Int32), St M → K0[a0]? = some (0, 12) → rc_4 a0 x1 x2 x3 M = some q → G Z X Y_X0_roundCount False 0 0 4 [(0, .ref (zs Z + a0)), (1, .int x1), (2, .int x2), (3, .int x3)] [] M) (a0 : Nat) (x1 : Int32) (x2 : Int32) (x3 : Int32) (hs : St M) (k_a0 : K0[a0]? = some (0, 12)) (hf : B_X0_roundCount_58 rc_4 a0 x1 x2 x3 M = some q) : G Z X Y_X0_roundCount False 0 0 58 [(0, .ref (zs Z + a0)), (1, .int x1), (2, .int x2), (3, .int x3)] [] M := by
  unfold B_X0_roundCount_58 at hf
  refine G.iinc 58 2 (x2 + 1) [(2, .int (x2 + 1)), (0, .ref (zs Z + a0)), (1, .int x1), (3, .int x3)] dX0_roundCount_58 rfl (congrArg (fun z => x2 + z) (by decide +kernel)) (Nat.le_of_ble_eq_true rfl) rfl ?_
  refine G.locs [1, 2, 0, 3] rfl ?_
  exact b_X0_roundCount_61 Z X hR hq rc_4 hrc_4 a0 x1 (x2 + 1) x3 hs k_a0 hf
set_option maxRecDepth 100000 in
set_option maxHeartbeats 4000000 in
theorem l_X0_roundCount_4 (Z : Sys) (X : Cx) (hR : xR X = rm_X0_roundCount) {q : Int32} {M : Mem} (hq : RetOk Z X (some .int) False (PostI q M) 0 0) : ∀ (n : Nat) (a0 : Nat) (x1 : Int32) (x2 : Int32) (x3 : Int32) (hs : St M) (k_a0 : K0[a0]? = some (0, 12)) (hf : L_X0_roundCount_4 n a0 x1 x2 x3 M = some q), G Z X Y_X0_roundCount False 0 0 4 [(0, .ref (zs Z + a0)), (1, .int x1), (2, .int x2), (3, .int x3)] [] M := by
  intro n
  induction n with
  | zero => intro a0 x1 x2 x3 hs k_a0 hf; cases hf
  | succ n ih =>
    intro a0 x1 x2 x3 hs k_a0 hf
    unfold L_X0_roundCount_4 at hf
    refine G.iload_n 4 3 dX0_roundCount_4 rfl rfl ?_
    refine G.aload_n 5 0 dX0_roundCount_5 rfl rfl ?_
    refine G.geti 6 ck_0 1 (hs.k k_a0) (by decide) (by decide +kernel) wd_261 dX0_roundCount_6 ?_
    refine G.icmp_ge 9 67 dX0_roundCount_9 (by decide) (fun h1 => ?_) (fun h1 => ?_)
    · replace hf := (if_pos h1).symm.trans hf
      refine G.iload_n 67 2 dX0_roundCount_67 rfl rfl ?_
      (have hf9 := Option.some.inj hf; subst hf9)
      exact G.rI 68 hq dX0_roundCount_68 hs
    · replace hf := (if_neg h1).symm.trans hf
      refine G.aload_n 12 0 dX0_roundCount_12 rfl rfl ?_
      refine G.getp 13 ck_0 0 (a0 + 1) (hs.k k_a0) (pt_0_0 hs k_a0).1 (by decide) (by decide +kernel) wd_257 dX0_roundCount_13 ?_
      refine G.iload_n 16 3 dX0_roundCount_16 rfl rfl ?_
      obtain ⟨g2, hf⟩ := gd_e hf
      refine G.aa 17 x3.toNatClampNeg ((a0 + 1) + 23 + 2 * x3.toNatClampNeg) (hs.k (pt_0_0 hs k_a0).2) (by decide) rfl rfl g2 rfl (pa_13 hs (pt_0_0 hs k_a0).2 (inlt g2)).1 dX0_roundCount_17 ?_
      refine G.astore 18 [(4, .ref (zs Z + ((a0 + 1) + 23 + 2 * x3.toNatClampNeg))), (0, .ref (zs Z + a0)), (1, .int x1), (2, .int x2), (3, .int x3)] dX0_roundCount_18 (Nat.le_of_ble_eq_true rfl) rfl ?_
      refine G.aload 20 0 dX0_roundCount_20 rfl ?_
      refine G.geti 22 ck_1 9 (hs.k (pa_13 hs (pt_0_0 hs k_a0).2 (inlt g2)).2) (by decide) (by decide +kernel) wd_222 dX0_roundCount_22 ?_
      refine G.if_ne 25 61 dX0_roundCount_25 (by decide) (fun h3 => ?_) (fun h3 => ?_)
      · replace hf := (if_neg h3).symm.trans hf
        refine G.locs [1, 2, 3, 4] rfl ?_
        exact b_X0_roundCount_61 Z X hR hq (L_X0_roundCount_4 n) ih a0 x1 x2 x3 hs k_a0 hf
      · replace hf := (if_pos h3).symm.trans hf
        refine G.aload 28 0 dX0_roundCount_28 rfl ?_
        refine G.geti 30 ck_1 10 (hs.k (pa_13 hs (pt_0_0 hs k_a0).2 (inlt g2)).2) (by decide) (by decide +kernel) wd_227 dX0_roundCount_30 ?_
        refine G.aload 33 0 dX0_roundCount_33 rfl ?_
        refine G.geti 35 ck_1 11 (hs.k (pa_13 hs (pt_0_0 hs k_a0).2 (inlt g2)).2) (by decide) (by decide +kernel) wd_231 dX0_roundCount_35 ?_
        obtain ⟨q6, e7, hf⟩ := bd_e hf
        refine G.cnZ 38 (As := [.int (mI M ((a0 + 1) + 23 + 2 * x3.toNatClampNeg) 10), .int (mI M ((a0 + 1) + 23 + 2 * x3.toNatClampNeg) 11)]) (c_X8_isRound Z hs (mI M ((a0 + 1) + 23 + 2 * x3.toNatClampNeg) 10) (mI M ((a0 + 1) + 23 + 2 * x3.toNatClampNeg) 11) e7) mk_X8_isRound wd_593 wd_592 hR (by decide +kernel) ⟨rfl, rfl⟩ rfl (Nat.le_of_ble_eq_true rfl) dX0_roundCount_38 (fun hs4 z5 => ?_)
        refine G.if_eq 41 61 dX0_roundCount_41 (by decide) (fun h8 => ?_) (fun h8 => ?_)
        · replace hf := (if_pos h8).symm.trans hf
          refine G.locs [1, 2, 3, 4] rfl ?_
          exact b_X0_roundCount_61 Z X hR hq (L_X0_roundCount_4 n) ih a0 x1 x2 x3 hs4 k_a0 hf
        · replace hf := (if_neg h8).symm.trans hf
          refine G.iload_n 44 2 dX0_roundCount_44 rfl rfl ?_
          refine G.iconst 45 (-1 : Int32) dX0_roundCount_45 (by decide +kernel) ?_
          refine G.icmp_eq 46 58 dX0_roundCount_46 (by decide) (fun h9 => ?_) (fun h9 => ?_)
          · replace hf := (if_pos h9).symm.trans hf
            refine G.locs [1, 2, 3, 4] rfl ?_
            exact b_X0_roundCount_58 Z X hR hq (L_X0_roundCount_4 n) ih a0 x1 x2 x3 hs4 k_a0 hf
          · replace hf := (if_neg h9).symm.trans hf
            refine G.aload 49 0 dX0_roundCount_49 rfl ?_
            obtain ⟨q12, e13, hf⟩ := bd_e hf
            refine G.cvI 51 (As := []) ck_1 (hs4.k (pa_13 hs (pt_0_0 hs k_a0).2 (inlt g2)).2) (c_X1_share Z hs4 ((a0 + 1) + 23 + 2 * x3.toNatClampNeg) (pa_13 hs (pt_0_0 hs k_a0).2 (inlt g2)).2 e13) mk_X1_share vk_X1_share rfl wd_595 hR (by decide +kernel) ⟨rfl, rfl⟩ rfl (Nat.le_of_ble_eq_true rfl) dX0_roundCount_51 (fun hs10 => ?_)
            refine G.iload_n 54 2 dX0_roundCount_54 rfl rfl ?_
            refine G.icmp_ne 55 61 dX0_roundCount_55 (by decide) (fun h14 => ?_) (fun h14 => ?_)
            · replace hf := (if_neg h14).symm.trans hf
              refine G.locs [1, 2, 3, 4] rfl ?_
              exact b_X0_roundCount_61 Z X hR hq (L_X0_roundCount_4 n) ih a0 x1 x2 x3 hs10 k_a0 hf
            · replace hf := (if_pos h14).symm.trans hf
              refine G.locs [1, 2, 3, 4] rfl ?_
              exact b_X0_roundCount_58 Z X hR hq (L_X0_roundCount_4 n) ih a0 x1 x2 x3 hs10 k_a0 hf
set_option maxRecDepth 100000 in
set_option maxHeartbeats 4000000 in
theorem c_X0_roundCount (Z : Sys) {M : Mem} (hs : St M) (a0 : Nat) (x1 : Int32) (k_a0 : K0[a0]? = some (0, 12)) {q : Int32} (hf : f_X0_roundCount a0 x1 M = some q) : Ct Z yX0_roundCount cX0_roundCount 5 (some .int) rm_X0_roundCount [.ref (zs Z + a0), .int x1] M False (PostI q M) := by
  refine Ct.of (by decide +kernel) (Nat.le_of_ble_eq_true rfl) (fun X hR hq _ => ?_)
  show G Z X Y_X0_roundCount False 0 0 0 [(0, .ref (zs Z + a0)), (1, .int x1)] [] M
  replace hq : RetOk Z X (some .int) False (PostI q M) 0 0 := hq
  unfold f_X0_roundCount at hf
  refine G.iconst 0 (0 : Int32) dX0_roundCount_0 (by decide +kernel) ?_
  refine G.istore_n 1 [(2, .int (0 : Int32)), (0, .ref (zs Z + a0)), (1, .int x1)] dX0_roundCount_1 rfl (Nat.le_of_ble_eq_true rfl) rfl ?_
  refine G.iconst 2 (0 : Int32) dX0_roundCount_2 (by decide +kernel) ?_
  refine G.istore_n 3 [(3, .int (0 : Int32)), (2, .int (0 : Int32)), (0, .ref (zs Z + a0)), (1, .int x1)] dX0_roundCount_3 rfl (Nat.le_of_ble_eq_true rfl) rfl ?_
  refine G.locs [2, 3, 1, 0] rfl ?_
  exact l_X0_roundCount_4 Z X hR hq FU a0 x1 (0 : Int32) (0 : Int32) hs k_a0 hf
abbrev Y_X0_measured : My := (cX0_measured, RX0, 2)
def rm_X0_measured : Room := { frames := 4, cells := 0, slots := 0, locals := 273 }
theorem dX0_measured_0 : decode cX0_measured 0 = .ok (.iload_n 1, 1) := by decide +kernel
theorem dX0_measured_1 : decode cX0_measured 1 = .ok (.tableswitch 54 0 3 #[31, 37, 43, 49], 31) := by decide +kernel
theorem dX0_measured_32 : decode cX0_measured 32 = .ok (.aload_n 0, 1) := by decide +kernel
theorem dX0_measured_33 : decode cX0_measured 33 = .ok (.iconst 0, 1) := by decide +kernel
theorem dX0_measured_34 : decode cX0_measured 34 = .ok (.invokevirtual 178, 3) := by decide +kernel
theorem dX0_measured_37 : decode cX0_measured 37 = .ok (.ireturn, 1) := by decide +kernel
theorem dX0_measured_38 : decode cX0_measured 38 = .ok (.aload_n 0, 1) := by decide +kernel
theorem dX0_measured_39 : decode cX0_measured 39 = .ok (.iconst 1, 1) := by decide +kernel
theorem dX0_measured_40 : decode cX0_measured 40 = .ok (.invokevirtual 178, 3) := by decide +kernel
theorem dX0_measured_43 : decode cX0_measured 43 = .ok (.ireturn, 1) := by decide +kernel
theorem dX0_measured_44 : decode cX0_measured 44 = .ok (.aload_n 0, 1) := by decide +kernel
theorem dX0_measured_45 : decode cX0_measured 45 = .ok (.iconst (-1), 1) := by decide +kernel
theorem dX0_measured_46 : decode cX0_measured 46 = .ok (.invokevirtual 181, 3) := by decide +kernel
theorem dX0_measured_49 : decode cX0_measured 49 = .ok (.ireturn, 1) := by decide +kernel
theorem dX0_measured_50 : decode cX0_measured 50 = .ok (.aload_n 0, 1) := by decide +kernel
theorem dX0_measured_51 : decode cX0_measured 51 = .ok (.invokevirtual 184, 3) := by decide +kernel
theorem dX0_measured_54 : decode cX0_measured 54 = .ok (.ireturn, 1) := by decide +kernel
theorem dX0_measured_55 : decode cX0_measured 55 = .ok (.aload_n 0, 1) := by decide +kernel
theorem dX0_measured_56 : decode cX0_measured 56 = .ok (.invokevirtual 187, 3) := by decide +kernel
theorem dX0_measured_59 : decode cX0_measured 59 = .ok (.ireturn, 1) := by decide +kernel
def f_X0_measured (a0 : Nat) (x1 : Int32) (M : Mem) : Option (Int32 × Mem) := if x1 = (0 : Int32) then (f_X0_unevenness a0 (0 : Int32) M).bind fun q4 => some (q4.1, q4.2) else if x1 = (1 : Int32) then (f_X0_unevenness a0 (1 : Int32) M).bind fun q9 => some (q9.1, q9.2) else if x1 = (2 : Int32) then (f_X0_roundCount a0 (-1 : Int32) M).bind fun q14 => some (q14, M) else if x1 = (3 : Int32) then (f_X0_highCount a0 M).bind fun q19 => some (q19, M) else (f_X0_allMustBe a0 M).bind fun q23 => some (q23, M)
set_option maxRecDepth 100000 in
set_option maxHeartbeats 4000000 in
theorem c_X0_measured (Z : Sys) {M : Mem} (hs : St M) (a0 : Nat) (x1 : Int32) (k_a0 : K0[a0]? = some (0, 12)) {q : Int32 × Mem} (hf : f_X0_measured a0 x1 M = some q) : Ct Z yX0_measured cX0_measured 2 (some .int) rm_X0_measured [.ref (zs Z + a0), .int x1] M False (PostI q.1 q.2) := by
  refine Ct.of (by decide +kernel) (Nat.le_of_ble_eq_true rfl) (fun X hR hq _ => ?_)
  show G Z X Y_X0_measured False 0 0 0 [(0, .ref (zs Z + a0)), (1, .int x1)] [] M
  replace hq : RetOk Z X (some .int) False (PostI q.1 q.2) 0 0 := hq
  unfold f_X0_measured at hf
  refine G.iload_n 0 1 dX0_measured_0 rfl rfl ?_
  by_cases h1 : x1 = (0 : Int32)
  · replace hf := (if_pos h1).symm.trans hf
    refine G.tableIn 1 32 (off := 31) dX0_measured_1 (by rw [h1]; decide +kernel) (by rw [h1]; decide +kernel) (by rw [h1]; decide +kernel) (by decide) ?_
    refine G.aload_n 32 0 dX0_measured_32 rfl rfl ?_
    refine G.iconst 33 (0 : Int32) dX0_measured_33 (by decide +kernel) ?_
    obtain ⟨q4, e5, hf⟩ := bd_e hf
    refine G.cvI 34 (As := [.int (0 : Int32)]) ck_0 (hs.k k_a0) (c_X0_unevenness Z hs a0 (0 : Int32) k_a0 e5) mk_X0_unevenness vk_X0_unevenness rfl wd_817 hR (by decide +kernel) ⟨rfl, rfl⟩ rfl (Nat.le_of_ble_eq_true rfl) dX0_measured_34 (fun hs2 => ?_)
    (have hf9 := Option.some.inj hf; subst hf9)
    exact G.rI 37 hq dX0_measured_37 hs2
  · replace hf := (if_neg h1).symm.trans hf
    by_cases h6 : x1 = (1 : Int32)
    · replace hf := (if_pos h6).symm.trans hf
      refine G.tableIn 1 38 (off := 37) dX0_measured_1 (by rw [h6]; decide +kernel) (by rw [h6]; decide +kernel) (by rw [h6]; decide +kernel) (by decide) ?_
      refine G.aload_n 38 0 dX0_measured_38 rfl rfl ?_
      refine G.iconst 39 (1 : Int32) dX0_measured_39 (by decide +kernel) ?_
      obtain ⟨q9, e10, hf⟩ := bd_e hf
      refine G.cvI 40 (As := [.int (1 : Int32)]) ck_0 (hs.k k_a0) (c_X0_unevenness Z hs a0 (1 : Int32) k_a0 e10) mk_X0_unevenness vk_X0_unevenness rfl wd_817 hR (by decide +kernel) ⟨rfl, rfl⟩ rfl (Nat.le_of_ble_eq_true rfl) dX0_measured_40 (fun hs7 => ?_)
      (have hf9 := Option.some.inj hf; subst hf9)
      exact G.rI 43 hq dX0_measured_43 hs7
    · replace hf := (if_neg h6).symm.trans hf
      by_cases h11 : x1 = (2 : Int32)
      · replace hf := (if_pos h11).symm.trans hf
        refine G.tableIn 1 44 (off := 43) dX0_measured_1 (by rw [h11]; decide +kernel) (by rw [h11]; decide +kernel) (by rw [h11]; decide +kernel) (by decide) ?_
        refine G.aload_n 44 0 dX0_measured_44 rfl rfl ?_
        refine G.iconst 45 (-1 : Int32) dX0_measured_45 (by decide +kernel) ?_
        obtain ⟨q14, e15, hf⟩ := bd_e hf
        refine G.cvI 46 (As := [.int (-1 : Int32)]) ck_0 (hs.k k_a0) (c_X0_roundCount Z hs a0 (-1 : Int32) k_a0 e15) mk_X0_roundCount vk_X0_roundCount rfl wd_821 hR (by decide +kernel) ⟨rfl, rfl⟩ rfl (Nat.le_of_ble_eq_true rfl) dX0_measured_46 (fun hs12 => ?_)
        (have hf9 := Option.some.inj hf; subst hf9)
        exact G.rI 49 hq dX0_measured_49 hs12
      · replace hf := (if_neg h11).symm.trans hf
        by_cases h16 : x1 = (3 : Int32)
        · replace hf := (if_pos h16).symm.trans hf
          refine G.tableIn 1 50 (off := 49) dX0_measured_1 (by rw [h16]; decide +kernel) (by rw [h16]; decide +kernel) (by rw [h16]; decide +kernel) (by decide) ?_
          refine G.aload_n 50 0 dX0_measured_50 rfl rfl ?_
          obtain ⟨q19, e20, hf⟩ := bd_e hf
          refine G.cvI 51 (As := []) ck_0 (hs.k k_a0) (c_X0_highCount Z hs a0 k_a0 e20) mk_X0_highCount vk_X0_highCount rfl wd_822 hR (by decide +kernel) ⟨rfl, rfl⟩ rfl (Nat.le_of_ble_eq_true rfl) dX0_measured_51 (fun hs17 => ?_)
          (have hf9 := Option.some.inj hf; subst hf9)
          exact G.rI 54 hq dX0_measured_54 hs17
        · replace hf := (if_neg h16).symm.trans hf
          have t_h1 := ti (0 : Int32) (0) (by decide +kernel) h1
          have t_h6 := ti (1 : Int32) (1) (by decide +kernel) h6
          have t_h11 := ti (2 : Int32) (2) (by decide +kernel) h11
          have t_h16 := ti (3 : Int32) (3) (by decide +kernel) h16
          refine G.tableOut 1 55 dX0_measured_1 (by omega) (by decide) ?_
          refine G.aload_n 55 0 dX0_measured_55 rfl rfl ?_
          obtain ⟨q23, e24, hf⟩ := bd_e hf
          refine G.cvI 56 (As := []) ck_0 (hs.k k_a0) (c_X0_allMustBe Z hs a0 k_a0 e24) mk_X0_allMustBe vk_X0_allMustBe rfl wd_826 hR (by decide +kernel) ⟨rfl, rfl⟩ rfl (Nat.le_of_ble_eq_true rfl) dX0_measured_56 (fun hs21 => ?_)
          (have hf9 := Option.some.inj hf; subst hf9)
          exact G.rI 59 hq dX0_measured_59 hs21
abbrev Y_X0_putInOrder : My := (cX0_putInOrder, RX0, 4)
def rm_X0_putInOrder : Room := { frames := 1, cells := 0, slots := 0, locals := 200 }
theorem dX0_putInOrder_0 : decode cX0_putInOrder 0 = .ok (.iload_n 2, 1) := by decide +kernel
theorem dX0_putInOrder_1 : decode cX0_putInOrder 1 = .ok (.istore_n 3, 1) := by decide +kernel
theorem dX0_putInOrder_2 : decode cX0_putInOrder 2 = .ok (.iload_n 3, 1) := by decide +kernel
theorem dX0_putInOrder_3 : decode cX0_putInOrder 3 = .ok (.ifCond .le 35, 3) := by decide +kernel
theorem dX0_putInOrder_6 : decode cX0_putInOrder 6 = .ok (.aload_n 0, 1) := by decide +kernel
theorem dX0_putInOrder_7 : decode cX0_putInOrder 7 = .ok (.getfield 49, 3) := by decide +kernel
theorem dX0_putInOrder_10 : decode cX0_putInOrder 10 = .ok (.iload_n 3, 1) := by decide +kernel
theorem dX0_putInOrder_11 : decode cX0_putInOrder 11 = .ok (.iconst 1, 1) := by decide +kernel
theorem dX0_putInOrder_12 : decode cX0_putInOrder 12 = .ok (.isub, 1) := by decide +kernel
theorem dX0_putInOrder_13 : decode cX0_putInOrder 13 = .ok (.iaload, 1) := by decide +kernel
theorem dX0_putInOrder_14 : decode cX0_putInOrder 14 = .ok (.iload_n 1, 1) := by decide +kernel
theorem dX0_putInOrder_15 : decode cX0_putInOrder 15 = .ok (.if_icmp .le 23, 3) := by decide +kernel
theorem dX0_putInOrder_18 : decode cX0_putInOrder 18 = .ok (.aload_n 0, 1) := by decide +kernel
theorem dX0_putInOrder_19 : decode cX0_putInOrder 19 = .ok (.getfield 49, 3) := by decide +kernel
theorem dX0_putInOrder_22 : decode cX0_putInOrder 22 = .ok (.iload_n 3, 1) := by decide +kernel
theorem dX0_putInOrder_23 : decode cX0_putInOrder 23 = .ok (.aload_n 0, 1) := by decide +kernel
theorem dX0_putInOrder_24 : decode cX0_putInOrder 24 = .ok (.getfield 49, 3) := by decide +kernel
theorem dX0_putInOrder_27 : decode cX0_putInOrder 27 = .ok (.iload_n 3, 1) := by decide +kernel
theorem dX0_putInOrder_28 : decode cX0_putInOrder 28 = .ok (.iconst 1, 1) := by decide +kernel
theorem dX0_putInOrder_29 : decode cX0_putInOrder 29 = .ok (.isub, 1) := by decide +kernel
theorem dX0_putInOrder_30 : decode cX0_putInOrder 30 = .ok (.iaload, 1) := by decide +kernel
theorem dX0_putInOrder_31 : decode cX0_putInOrder 31 = .ok (.iastore, 1) := by decide +kernel
theorem dX0_putInOrder_32 : decode cX0_putInOrder 32 = .ok (.iinc 3 (-1), 3) := by decide +kernel
theorem dX0_putInOrder_35 : decode cX0_putInOrder 35 = .ok (.goto (-33), 3) := by decide +kernel
theorem dX0_putInOrder_38 : decode cX0_putInOrder 38 = .ok (.aload_n 0, 1) := by decide +kernel
theorem dX0_putInOrder_39 : decode cX0_putInOrder 39 = .ok (.getfield 49, 3) := by decide +kernel
theorem dX0_putInOrder_42 : decode cX0_putInOrder 42 = .ok (.iload_n 3, 1) := by decide +kernel
theorem dX0_putInOrder_43 : decode cX0_putInOrder 43 = .ok (.iload_n 1, 1) := by decide +kernel
theorem dX0_putInOrder_44 : decode cX0_putInOrder 44 = .ok (.iastore, 1) := by decide +kernel
theorem dX0_putInOrder_45 : decode cX0_putInOrder 45 = .ok (.return_, 1) := by decide +kernel
def L_X0_putInOrder_2 : Nat → Nat → Int32 → Int32 → Mem → Option Mem
  | 0, _, _, _, _ => none
  | n + 1, a0, x1, x3, M => if x3 ≤ 0 then gd (inR x3 30) (some (sI M (a0 + 23) x3.toNatClampNeg x1)) else gd (inR (x3 - (1 : Int32)) 30) (if (mI M (a0 + 23) (x3 - (1 : Int32)).toNatClampNeg) ≤ x1 then gd (inR x3 30) (some (sI M (a0 + 23) x3.toNatClampNeg x1)) else gd (inR x3 30) (L_X0_putInOrder_2 n a0 x1 (x3 + (-1 : Int32)) (sI M (a0 + 23) x3.toNatClampNeg (mI M (a0 + 23) (x3 - (1 : Int32)).toNatClampNeg))))
def f_X0_putInOrder (a0 : Nat) (x1 : Int32) (x2 : Int32) (M : Mem) : Option Mem := L_X0_putInOrder_2 FU a0 x1 x2 M
set_option maxRecDepth 100000 in
set_option maxHeartbeats 4000000 in
theorem l_X0_putInOrder_2 (Z : Sys) (X : Cx) (hR : xR X = rm_X0_putInOrder) {q : Mem} (hq : RetOk Z X none False (PostV q) 0 0) : ∀ (n : Nat) (a0 : Nat) (x1 : Int32) (x3 : Int32) (M : Mem) (hs : St M) (k_a0 : K0[a0]? = some (0, 12)) (hf : L_X0_putInOrder_2 n a0 x1 x3 M = some q), G Z X Y_X0_putInOrder False 0 0 2 [(0, .ref (zs Z + a0)), (1, .int x1), (3, .int x3)] [] M := by
  intro n
  induction n with
  | zero => intro a0 x1 x3 M hs k_a0 hf; cases hf
  | succ n ih =>
    intro a0 x1 x3 M hs k_a0 hf
    unfold L_X0_putInOrder_2 at hf
    refine G.iload_n 2 2 dX0_putInOrder_2 rfl rfl ?_
    refine G.if_le 3 38 dX0_putInOrder_3 (by decide) (fun h1 => ?_) (fun h1 => ?_)
    · replace hf := (if_pos h1).symm.trans hf
      refine G.aload_n 38 0 dX0_putInOrder_38 rfl rfl ?_
      refine G.getp 39 ck_0 11 (a0 + 23) (hs.k k_a0) (pt_0_11 hs k_a0).1 (by decide) (by decide +kernel) wd_279 dX0_putInOrder_39 ?_
      refine G.iload_n 42 2 dX0_putInOrder_42 rfl rfl ?_
      refine G.iload_n 43 1 dX0_putInOrder_43 rfl rfl ?_
      obtain ⟨g2, hf⟩ := gd_e hf
      refine G.ist 44 x3.toNatClampNeg (hs.k (pt_0_11 hs k_a0).2) g2 rfl dX0_putInOrder_44 ?_
      (have hf9 := Option.some.inj hf; subst hf9)
      exact G.rV 45 hq dX0_putInOrder_45 (St.i hs)
    · replace hf := (if_neg h1).symm.trans hf
      refine G.aload_n 6 0 dX0_putInOrder_6 rfl rfl ?_
      refine G.getp 7 ck_0 11 (a0 + 23) (hs.k k_a0) (pt_0_11 hs k_a0).1 (by decide) (by decide +kernel) wd_279 dX0_putInOrder_7 ?_
      refine G.iload_n 10 2 dX0_putInOrder_10 rfl rfl ?_
      refine G.iconst 11 (1 : Int32) dX0_putInOrder_11 (by decide +kernel) ?_
      refine G.isub 12 dX0_putInOrder_12 ?_
      obtain ⟨g3, hf⟩ := gd_e hf
      refine G.ia 13 (x3 - (1 : Int32)).toNatClampNeg (hs.k (pt_0_11 hs k_a0).2) g3 rfl dX0_putInOrder_13 ?_
      refine G.iload_n 14 1 dX0_putInOrder_14 rfl rfl ?_
      refine G.icmp_le 15 38 dX0_putInOrder_15 (by decide) (fun h4 => ?_) (fun h4 => ?_)
      · replace hf := (if_pos h4).symm.trans hf
        refine G.aload_n 38 0 dX0_putInOrder_38 rfl rfl ?_
        refine G.getp 39 ck_0 11 (a0 + 23) (hs.k k_a0) (pt_0_11 hs k_a0).1 (by decide) (by decide +kernel) wd_279 dX0_putInOrder_39 ?_
        refine G.iload_n 42 2 dX0_putInOrder_42 rfl rfl ?_
        refine G.iload_n 43 1 dX0_putInOrder_43 rfl rfl ?_
        obtain ⟨g5, hf⟩ := gd_e hf
        refine G.ist 44 x3.toNatClampNeg (hs.k (pt_0_11 hs k_a0).2) g5 rfl dX0_putInOrder_44 ?_
        (have hf9 := Option.some.inj hf; subst hf9)
        exact G.rV 45 hq dX0_putInOrder_45 (St.i hs)
      · replace hf := (if_neg h4).symm.trans hf
        refine G.aload_n 18 0 dX0_putInOrder_18 rfl rfl ?_
        refine G.getp 19 ck_0 11 (a0 + 23) (hs.k k_a0) (pt_0_11 hs k_a0).1 (by decide) (by decide +kernel) wd_279 dX0_putInOrder_19 ?_
        refine G.iload_n 22 2 dX0_putInOrder_22 rfl rfl ?_
        refine G.aload_n 23 0 dX0_putInOrder_23 rfl rfl ?_
        refine G.getp 24 ck_0 11 (a0 + 23) (hs.k k_a0) (pt_0_11 hs k_a0).1 (by decide) (by decide +kernel) wd_279 dX0_putInOrder_24 ?_
        refine G.iload_n 27 2 dX0_putInOrder_27 rfl rfl ?_
        refine G.iconst 28 (1 : Int32) dX0_putInOrder_28 (by decide +kernel) ?_
        refine G.isub 29 dX0_putInOrder_29 ?_
        refine G.ia 30 (x3 - (1 : Int32)).toNatClampNeg (hs.k (pt_0_11 hs k_a0).2) g3 rfl dX0_putInOrder_30 ?_
        obtain ⟨g6, hf⟩ := gd_e hf
        refine G.ist 31 x3.toNatClampNeg (hs.k (pt_0_11 hs k_a0).2) g6 rfl dX0_putInOrder_31 ?_
        refine G.iinc 32 2 (x3 + (-1 : Int32)) [(3, .int (x3 + (-1 : Int32))), (0, .ref (zs Z + a0)), (1, .int x1)] dX0_putInOrder_32 rfl (congrArg (fun z => x3 + z) (by decide +kernel)) (Nat.le_of_ble_eq_true rfl) rfl ?_
        refine G.goto 35 2 dX0_putInOrder_35 (by decide) ?_
        refine G.locs [1, 2, 0] rfl ?_
        exact ih a0 x1 (x3 + (-1 : Int32)) (sI M (a0 + 23) x3.toNatClampNeg (mI M (a0 + 23) (x3 - (1 : Int32)).toNatClampNeg)) (St.i hs) k_a0 hf
set_option maxRecDepth 100000 in
set_option maxHeartbeats 4000000 in
theorem c_X0_putInOrder (Z : Sys) {M : Mem} (hs : St M) (a0 : Nat) (x1 : Int32) (x2 : Int32) (k_a0 : K0[a0]? = some (0, 12)) {q : Mem} (hf : f_X0_putInOrder a0 x1 x2 M = some q) : Ct Z yX0_putInOrder cX0_putInOrder 4 none rm_X0_putInOrder [.ref (zs Z + a0), .int x1, .int x2] M False (PostV q) := by
  refine Ct.of (by decide +kernel) (Nat.le_of_ble_eq_true rfl) (fun X hR hq _ => ?_)
  show G Z X Y_X0_putInOrder False 0 0 0 [(0, .ref (zs Z + a0)), (1, .int x1), (2, .int x2)] [] M
  replace hq : RetOk Z X none False (PostV q) 0 0 := hq
  unfold f_X0_putInOrder at hf
  refine G.iload_n 0 2 dX0_putInOrder_0 rfl rfl ?_
  refine G.istore_n 1 [(3, .int x2), (0, .ref (zs Z + a0)), (1, .int x1), (2, .int x2)] dX0_putInOrder_1 rfl (Nat.le_of_ble_eq_true rfl) rfl ?_
  refine G.locs [1, 2, 0] rfl ?_
  exact l_X0_putInOrder_2 Z X hR hq FU a0 x1 x2 M hs k_a0 hf
abbrev Y_X0_middleShare : My := (cX0_middleShare, RX0, 5)
def rm_X0_middleShare : Room := { frames := 3, cells := 0, slots := 0, locals := 241 }
theorem dX0_middleShare_0 : decode cX0_middleShare 0 = .ok (.iconst 0, 1) := by decide +kernel
theorem dX0_middleShare_1 : decode cX0_middleShare 1 = .ok (.istore_n 2, 1) := by decide +kernel
theorem dX0_middleShare_2 : decode cX0_middleShare 2 = .ok (.iconst 0, 1) := by decide +kernel
theorem dX0_middleShare_3 : decode cX0_middleShare 3 = .ok (.istore_n 3, 1) := by decide +kernel
theorem dX0_middleShare_4 : decode cX0_middleShare 4 = .ok (.iload_n 3, 1) := by decide +kernel
theorem dX0_middleShare_5 : decode cX0_middleShare 5 = .ok (.aload_n 0, 1) := by decide +kernel
theorem dX0_middleShare_6 : decode cX0_middleShare 6 = .ok (.getfield 53, 3) := by decide +kernel
theorem dX0_middleShare_9 : decode cX0_middleShare 9 = .ok (.if_icmp .ge 47, 3) := by decide +kernel
theorem dX0_middleShare_12 : decode cX0_middleShare 12 = .ok (.aload_n 0, 1) := by decide +kernel
theorem dX0_middleShare_13 : decode cX0_middleShare 13 = .ok (.getfield 13, 3) := by decide +kernel
theorem dX0_middleShare_16 : decode cX0_middleShare 16 = .ok (.iload_n 3, 1) := by decide +kernel
theorem dX0_middleShare_17 : decode cX0_middleShare 17 = .ok (.aaload, 1) := by decide +kernel
theorem dX0_middleShare_18 : decode cX0_middleShare 18 = .ok (.astore 4, 2) := by decide +kernel
theorem dX0_middleShare_20 : decode cX0_middleShare 20 = .ok (.aload 4, 2) := by decide +kernel
theorem dX0_middleShare_22 : decode cX0_middleShare 22 = .ok (.getfield 78, 3) := by decide +kernel
theorem dX0_middleShare_25 : decode cX0_middleShare 25 = .ok (.ifCond .ne 25, 3) := by decide +kernel
theorem dX0_middleShare_28 : decode cX0_middleShare 28 = .ok (.aload 4, 2) := by decide +kernel
theorem dX0_middleShare_30 : decode cX0_middleShare 30 = .ok (.getfield 131, 3) := by decide +kernel
theorem dX0_middleShare_33 : decode cX0_middleShare 33 = .ok (.iload_n 1, 1) := by decide +kernel
theorem dX0_middleShare_34 : decode cX0_middleShare 34 = .ok (.if_icmp .ne 16, 3) := by decide +kernel
theorem dX0_middleShare_37 : decode cX0_middleShare 37 = .ok (.aload_n 0, 1) := by decide +kernel
theorem dX0_middleShare_38 : decode cX0_middleShare 38 = .ok (.aload 4, 2) := by decide +kernel
theorem dX0_middleShare_40 : decode cX0_middleShare 40 = .ok (.invokevirtual 125, 3) := by decide +kernel
theorem dX0_middleShare_43 : decode cX0_middleShare 43 = .ok (.iload_n 2, 1) := by decide +kernel
theorem dX0_middleShare_44 : decode cX0_middleShare 44 = .ok (.invokevirtual 134, 3) := by decide +kernel
theorem dX0_middleShare_47 : decode cX0_middleShare 47 = .ok (.iinc 2 1, 3) := by decide +kernel
theorem dX0_middleShare_50 : decode cX0_middleShare 50 = .ok (.iinc 3 1, 3) := by decide +kernel
theorem dX0_middleShare_53 : decode cX0_middleShare 53 = .ok (.goto (-49), 3) := by decide +kernel
theorem dX0_middleShare_56 : decode cX0_middleShare 56 = .ok (.iload_n 2, 1) := by decide +kernel
theorem dX0_middleShare_57 : decode cX0_middleShare 57 = .ok (.ifCond .ne 8, 3) := by decide +kernel
theorem dX0_middleShare_60 : decode cX0_middleShare 60 = .ok (.bipush (-4), 2) := by decide +kernel
theorem dX0_middleShare_62 : decode cX0_middleShare 62 = .ok (.goto 11, 3) := by decide +kernel
theorem dX0_middleShare_65 : decode cX0_middleShare 65 = .ok (.aload_n 0, 1) := by decide +kernel
theorem dX0_middleShare_66 : decode cX0_middleShare 66 = .ok (.getfield 49, 3) := by decide +kernel
theorem dX0_middleShare_69 : decode cX0_middleShare 69 = .ok (.iload_n 2, 1) := by decide +kernel
theorem dX0_middleShare_70 : decode cX0_middleShare 70 = .ok (.iconst 2, 1) := by decide +kernel
theorem dX0_middleShare_71 : decode cX0_middleShare 71 = .ok (.idiv, 1) := by decide +kernel
theorem dX0_middleShare_72 : decode cX0_middleShare 72 = .ok (.iaload, 1) := by decide +kernel
theorem dX0_middleShare_73 : decode cX0_middleShare 73 = .ok (.ireturn, 1) := by decide +kernel
def B_X0_middleShare_56 (a0 : Nat) (x2 : Int32) (M : Mem) : Option (Int32 × Mem) := if x2 = 0 then some ((-4 : Int32), M) else gd (inR (x2 / (2 : Int32)) 30) (some ((mI M (a0 + 23) (x2 / (2 : Int32)).toNatClampNeg), M))
def B_X0_middleShare_50 (rc_4 : Nat → Int32 → Int32 → Int32 → Mem → Option (Int32 × Mem)) (a0 : Nat) (x1 : Int32) (x2 : Int32) (x3 : Int32) (M : Mem) : Option (Int32 × Mem) := rc_4 a0 x1 x2 (x3 + 1) M
def L_X0_middleShare_4 : Nat → Nat → Int32 → Int32 → Int32 → Mem → Option (Int32 × Mem)
  | 0, _, _, _, _, _ => none
  | n + 1, a0, x1, x2, x3, M => if (mI M a0 1) ≤ x3 then B_X0_middleShare_56 a0 x2 M else gd (inR x3 30) (if (mI M ((a0 + 1) + 23 + 2 * x3.toNatClampNeg) 9) = 0 then if (mI M ((a0 + 1) + 23 + 2 * x3.toNatClampNeg) 2) = x1 then (f_X1_share ((a0 + 1) + 23 + 2 * x3.toNatClampNeg) M).bind fun q9 => (f_X0_putInOrder a0 q9 x2 M).bind fun q13 => B_X0_middleShare_50 (L_X0_middleShare_4 n) a0 x1 (x2 + 1) x3 q13 else B_X0_middleShare_50 (L_X0_middleShare_4 n) a0 x1 x2 x3 M else B_X0_middleShare_50 (L_X0_middleShare_4 n) a0 x1 x2 x3 M)
def f_X0_middleShare (a0 : Nat) (x1 : Int32) (M : Mem) : Option (Int32 × Mem) := L_X0_middleShare_4 FU a0 x1 (0 : Int32) (0 : Int32) M
set_option maxRecDepth 100000 in
set_option maxHeartbeats 4000000 in
theorem b_X0_middleShare_56 (Z : Sys) (X : Cx) (hR : xR X = rm_X0_middleShare) {q : Int32 × Mem} (hq : RetOk Z X (some .int) False (PostI q.1 q.2) 0 0) (a0 : Nat) (x2 : Int32) {M : Mem} (hs : St M) (k_a0 : K0[a0]? = some (0, 12)) (hf : B_X0_middleShare_56 a0 x2 M = some q) : G Z X Y_X0_middleShare False 0 0 56 [(0, .ref (zs Z + a0)), (2, .int x2)] [] M := by
  unfold B_X0_middleShare_56 at hf
  refine G.iload_n 56 1 dX0_middleShare_56 rfl rfl ?_
  refine G.if_ne 57 65 dX0_middleShare_57 (by decide) (fun h2 => ?_) (fun h2 => ?_)
  · replace hf := (if_neg h2).symm.trans hf
    refine G.aload_n 65 0 dX0_middleShare_65 rfl rfl ?_
    refine G.getp 66 ck_0 11 (a0 + 23) (hs.k k_a0) (pt_0_11 hs k_a0).1 (by decide) (by decide +kernel) wd_279 dX0_middleShare_66 ?_
    refine G.iload_n 69 1 dX0_middleShare_69 rfl rfl ?_
    refine G.iconst 70 (2 : Int32) dX0_middleShare_70 (by decide +kernel) ?_
    refine G.idiv 71 dX0_middleShare_71 (by decide +kernel) ?_
    obtain ⟨g3, hf⟩ := gd_e hf
    refine G.ia 72 (x2 / (2 : Int32)).toNatClampNeg (hs.k (pt_0_11 hs k_a0).2) g3 rfl dX0_middleShare_72 ?_
    (have hf9 := Option.some.inj hf; subst hf9)
    exact G.rI 73 hq dX0_middleShare_73 hs
  · replace hf := (if_pos h2).symm.trans hf
    refine G.bipush 60 (-4 : Int32) dX0_middleShare_60 (by decide +kernel) ?_
    refine G.goto 62 73 dX0_middleShare_62 (by decide) ?_
    (have hf9 := Option.some.inj hf; subst hf9)
    exact G.rI 73 hq dX0_middleShare_73 hs
set_option maxRecDepth 100000 in
set_option maxHeartbeats 4000000 in
theorem b_X0_middleShare_50 (Z : Sys) (X : Cx) (hR : xR X = rm_X0_middleShare) {q : Int32 × Mem} (hq : RetOk Z X (some .int) False (PostI q.1 q.2) 0 0) (rc_4 : Nat → Int32 → Int32 → Int32 → Mem → Option (Int32 × Mem)) (hrc_4 : ∀ (a0 : Nat) (x1 : Int32) (x2 : Int32) (x3 : Int32) (M : Mem), St M → K0[a0]? = some (0, 12) → rc_4 a0 x1 x2 x3 M = some q → G Z X Y_X0_middleShare False 0 0 4 [(0, .ref (zs Z + a0)), (1, .int x1), (2, .int x2), (3, .int x3)] [] M) (a0 : Nat) (x1 : Int32) (x2 : Int32) (x3 : Int32) {M : Mem} (hs : St M) (k_a0 : K0[a0]? = some (0, 12)) (hf : B_X0_middleShare_50 rc_4 a0 x1 x2 x3 M = some q) : G Z X Y_X0_middleShare False 0 0 50 [(0, .ref (zs Z + a0)), (1, .int x1), (2, .int x2), (3, .int x3)] [] M := by
  unfold B_X0_middleShare_50 at hf
  refine G.iinc 50 3 (x3 + 1) [(3, .int (x3 + 1)), (0, .ref (zs Z + a0)), (1, .int x1), (2, .int x2)] dX0_middleShare_50 rfl (congrArg (fun z => x3 + z) (by decide +kernel)) (Nat.le_of_ble_eq_true rfl) rfl ?_
  refine G.goto 53 4 dX0_middleShare_53 (by decide) ?_
  refine G.locs [1, 2, 3, 0] rfl ?_
  exact hrc_4 a0 x1 x2 (x3 + 1) M hs k_a0 hf
set_option maxRecDepth 100000 in
set_option maxHeartbeats 4000000 in
theorem l_X0_middleShare_4 (Z : Sys) (X : Cx) (hR : xR X = rm_X0_middleShare) {q : Int32 × Mem} (hq : RetOk Z X (some .int) False (PostI q.1 q.2) 0 0) : ∀ (n : Nat) (a0 : Nat) (x1 : Int32) (x2 : Int32) (x3 : Int32) (M : Mem) (hs : St M) (k_a0 : K0[a0]? = some (0, 12)) (hf : L_X0_middleShare_4 n a0 x1 x2 x3 M = some q), G Z X Y_X0_middleShare False 0 0 4 [(0, .ref (zs Z + a0)), (1, .int x1), (2, .int x2), (3, .int x3)] [] M := by
  intro n
  induction n with
  | zero => intro a0 x1 x2 x3 M hs k_a0 hf; cases hf
  | succ n ih =>
    intro a0 x1 x2 x3 M hs k_a0 hf
    unfold L_X0_middleShare_4 at hf
    refine G.iload_n 4 3 dX0_middleShare_4 rfl rfl ?_
    refine G.aload_n 5 0 dX0_middleShare_5 rfl rfl ?_
    refine G.geti 6 ck_0 1 (hs.k k_a0) (by decide) (by decide +kernel) wd_261 dX0_middleShare_6 ?_
    refine G.icmp_ge 9 56 dX0_middleShare_9 (by decide) (fun h1 => ?_) (fun h1 => ?_)
    · replace hf := (if_pos h1).symm.trans hf
      refine G.locs [0, 2] rfl ?_
      exact b_X0_middleShare_56 Z X hR hq a0 x2 hs k_a0 hf
    · replace hf := (if_neg h1).symm.trans hf
      refine G.aload_n 12 0 dX0_middleShare_12 rfl rfl ?_
      refine G.getp 13 ck_0 0 (a0 + 1) (hs.k k_a0) (pt_0_0 hs k_a0).1 (by decide) (by decide +kernel) wd_257 dX0_middleShare_13 ?_
      refine G.iload_n 16 3 dX0_middleShare_16 rfl rfl ?_
      obtain ⟨g4, hf⟩ := gd_e hf
      refine G.aa 17 x3.toNatClampNeg ((a0 + 1) + 23 + 2 * x3.toNatClampNeg) (hs.k (pt_0_0 hs k_a0).2) (by decide) rfl rfl g4 rfl (pa_13 hs (pt_0_0 hs k_a0).2 (inlt g4)).1 dX0_middleShare_17 ?_
      refine G.astore 18 [(4, .ref (zs Z + ((a0 + 1) + 23 + 2 * x3.toNatClampNeg))), (0, .ref (zs Z + a0)), (1, .int x1), (2, .int x2), (3, .int x3)] dX0_middleShare_18 (Nat.le_of_ble_eq_true rfl) rfl ?_
      refine G.aload 20 0 dX0_middleShare_20 rfl ?_
      refine G.geti 22 ck_1 9 (hs.k (pa_13 hs (pt_0_0 hs k_a0).2 (inlt g4)).2) (by decide) (by decide +kernel) wd_222 dX0_middleShare_22 ?_
      refine G.if_ne 25 50 dX0_middleShare_25 (by decide) (fun h5 => ?_) (fun h5 => ?_)
      · replace hf := (if_neg h5).symm.trans hf
        refine G.locs [1, 2, 3, 4] rfl ?_
        exact b_X0_middleShare_50 Z X hR hq (L_X0_middleShare_4 n) ih a0 x1 x2 x3 hs k_a0 hf
      · replace hf := (if_pos h5).symm.trans hf
        refine G.aload 28 0 dX0_middleShare_28 rfl ?_
        refine G.geti 30 ck_1 2 (hs.k (pa_13 hs (pt_0_0 hs k_a0).2 (inlt g4)).2) (by decide) (by decide +kernel) wd_196 dX0_middleShare_30 ?_
        refine G.iload_n 33 2 dX0_middleShare_33 rfl rfl ?_
        refine G.icmp_ne 34 50 dX0_middleShare_34 (by decide) (fun h6 => ?_) (fun h6 => ?_)
        · replace hf := (if_neg h6).symm.trans hf
          refine G.locs [1, 2, 3, 4] rfl ?_
          exact b_X0_middleShare_50 Z X hR hq (L_X0_middleShare_4 n) ih a0 x1 x2 x3 hs k_a0 hf
        · replace hf := (if_pos h6).symm.trans hf
          refine G.aload_n 37 1 dX0_middleShare_37 rfl rfl ?_
          refine G.aload 38 0 dX0_middleShare_38 rfl ?_
          obtain ⟨q9, e10, hf⟩ := bd_e hf
          refine G.cvI 40 (As := []) ck_1 (hs.k (pa_13 hs (pt_0_0 hs k_a0).2 (inlt g4)).2) (c_X1_share Z hs ((a0 + 1) + 23 + 2 * x3.toNatClampNeg) (pa_13 hs (pt_0_0 hs k_a0).2 (inlt g4)).2 e10) mk_X1_share vk_X1_share rfl wd_595 hR (by decide +kernel) ⟨rfl, rfl⟩ rfl (Nat.le_of_ble_eq_true rfl) dX0_middleShare_40 (fun hs7 => ?_)
          refine G.iload_n 43 3 dX0_middleShare_43 rfl rfl ?_
          obtain ⟨q13, e14, hf⟩ := bd_e hf
          refine G.cvV 44 (As := [.int q9, .int x2]) ck_0 (hs7.k k_a0) (c_X0_putInOrder Z hs7 a0 q9 x2 k_a0 e14) mk_X0_putInOrder vk_X0_putInOrder rfl wd_615 hR (by decide +kernel) ⟨rfl, rfl⟩ rfl (Nat.le_of_ble_eq_true rfl) dX0_middleShare_44 (fun hs11 => ?_)
          refine G.iinc 47 3 (x2 + 1) [(2, .int (x2 + 1)), (4, .ref (zs Z + ((a0 + 1) + 23 + 2 * x3.toNatClampNeg))), (0, .ref (zs Z + a0)), (1, .int x1), (3, .int x3)] dX0_middleShare_47 rfl (congrArg (fun z => x2 + z) (by decide +kernel)) (Nat.le_of_ble_eq_true rfl) rfl ?_
          refine G.locs [2, 3, 0, 4] rfl ?_
          exact b_X0_middleShare_50 Z X hR hq (L_X0_middleShare_4 n) ih a0 x1 (x2 + 1) x3 hs11 k_a0 hf
set_option maxRecDepth 100000 in
set_option maxHeartbeats 4000000 in
theorem c_X0_middleShare (Z : Sys) {M : Mem} (hs : St M) (a0 : Nat) (x1 : Int32) (k_a0 : K0[a0]? = some (0, 12)) {q : Int32 × Mem} (hf : f_X0_middleShare a0 x1 M = some q) : Ct Z yX0_middleShare cX0_middleShare 5 (some .int) rm_X0_middleShare [.ref (zs Z + a0), .int x1] M False (PostI q.1 q.2) := by
  refine Ct.of (by decide +kernel) (Nat.le_of_ble_eq_true rfl) (fun X hR hq _ => ?_)
  show G Z X Y_X0_middleShare False 0 0 0 [(0, .ref (zs Z + a0)), (1, .int x1)] [] M
  replace hq : RetOk Z X (some .int) False (PostI q.1 q.2) 0 0 := hq
  unfold f_X0_middleShare at hf
  refine G.iconst 0 (0 : Int32) dX0_middleShare_0 (by decide +kernel) ?_
  refine G.istore_n 1 [(2, .int (0 : Int32)), (0, .ref (zs Z + a0)), (1, .int x1)] dX0_middleShare_1 rfl (Nat.le_of_ble_eq_true rfl) rfl ?_
  refine G.iconst 2 (0 : Int32) dX0_middleShare_2 (by decide +kernel) ?_
  refine G.istore_n 3 [(3, .int (0 : Int32)), (2, .int (0 : Int32)), (0, .ref (zs Z + a0)), (1, .int x1)] dX0_middleShare_3 rfl (Nat.le_of_ble_eq_true rfl) rfl ?_
  refine G.locs [2, 3, 1, 0] rfl ?_
  exact l_X0_middleShare_4 Z X hR hq FU a0 x1 (0 : Int32) (0 : Int32) M hs k_a0 hf
abbrev Y_X0_mostOfLaw : My := (cX0_mostOfLaw, RX0, 1)
def rm_X0_mostOfLaw : Room := { frames := 1, cells := 0, slots := 0, locals := 200 }
theorem dX0_mostOfLaw_0 : decode cX0_mostOfLaw 0 = .ok (.iload_n 0, 1) := by decide +kernel
theorem dX0_mostOfLaw_1 : decode cX0_mostOfLaw 1 = .ok (.lookupswitch 33 #[(0, 27), (3, 30)], 27) := by decide +kernel
theorem dX0_mostOfLaw_28 : decode cX0_mostOfLaw 28 = .ok (.bipush 9, 2) := by decide +kernel
theorem dX0_mostOfLaw_30 : decode cX0_mostOfLaw 30 = .ok (.ireturn, 1) := by decide +kernel
theorem dX0_mostOfLaw_31 : decode cX0_mostOfLaw 31 = .ok (.bipush 30, 2) := by decide +kernel
theorem dX0_mostOfLaw_33 : decode cX0_mostOfLaw 33 = .ok (.ireturn, 1) := by decide +kernel
theorem dX0_mostOfLaw_34 : decode cX0_mostOfLaw 34 = .ok (.bipush 100, 2) := by decide +kernel
theorem dX0_mostOfLaw_36 : decode cX0_mostOfLaw 36 = .ok (.ireturn, 1) := by decide +kernel
def f_X0_mostOfLaw (x0 : Int32) : Int32 := if x0 = (0 : Int32) then (9 : Int32) else if x0 = (3 : Int32) then (30 : Int32) else (100 : Int32)
set_option maxRecDepth 100000 in
set_option maxHeartbeats 4000000 in
theorem c_X0_mostOfLaw (Z : Sys) {M : Mem} (hs : St M) (x0 : Int32) {q : Int32} (hf : f_X0_mostOfLaw x0 = q) : Ct Z yX0_mostOfLaw cX0_mostOfLaw 1 (some .int) rm_X0_mostOfLaw [.int x0] M False (PostI q M) := by
  refine Ct.of (by decide +kernel) (Nat.le_of_ble_eq_true rfl) (fun X hR hq _ => ?_)
  show G Z X Y_X0_mostOfLaw False 0 0 0 [(0, .int x0)] [] M
  replace hq : RetOk Z X (some .int) False (PostI q M) 0 0 := hq
  unfold f_X0_mostOfLaw at hf
  refine G.iload_n 0 0 dX0_mostOfLaw_0 rfl rfl ?_
  by_cases h1 : x0 = (0 : Int32)
  · replace hf := (if_pos h1).symm.trans hf
    refine G.lookup 1 28 (off := 27) dX0_mostOfLaw_1 (by decide +kernel) (by rw [h1]; decide +kernel) (by decide) ?_
    refine G.bipush 28 (9 : Int32) dX0_mostOfLaw_28 (by decide +kernel) ?_
    subst hf
    exact G.rI 30 hq dX0_mostOfLaw_30 hs
  · replace hf := (if_neg h1).symm.trans hf
    by_cases h2 : x0 = (3 : Int32)
    · replace hf := (if_pos h2).symm.trans hf
      refine G.lookup 1 31 (off := 30) dX0_mostOfLaw_1 (by decide +kernel) (by rw [h2]; decide +kernel) (by decide) ?_
      refine G.bipush 31 (30 : Int32) dX0_mostOfLaw_31 (by decide +kernel) ?_
      subst hf
      exact G.rI 33 hq dX0_mostOfLaw_33 hs
    · replace hf := (if_neg h2).symm.trans hf
      have t_h1 := ti (0 : Int32) (0) (by decide +kernel) h1
      have t_h2 := ti (3 : Int32) (3) (by decide +kernel) h2
      refine G.lookup 1 34 dX0_mostOfLaw_1 (by decide +kernel) (lk_d (by intro a ha; simp at ha; omega)) (by decide) ?_
      refine G.bipush 34 (100 : Int32) dX0_mostOfLaw_34 (by decide +kernel) ?_
      subst hf
      exact G.rI 36 hq dX0_mostOfLaw_36 hs
abbrev Y_X3_beginGroup : My := (cX3_beginGroup, RX3, 1)
def rm_X3_beginGroup : Room := { frames := 1, cells := 0, slots := 0, locals := 200 }
theorem dX3_beginGroup_0 : decode cX3_beginGroup 0 = .ok (.aload_n 0, 1) := by decide +kernel
theorem dX3_beginGroup_1 : decode cX3_beginGroup 1 = .ok (.getfield 9, 3) := by decide +kernel
theorem dX3_beginGroup_4 : decode cX3_beginGroup 4 = .ok (.aload_n 0, 1) := by decide +kernel
theorem dX3_beginGroup_5 : decode cX3_beginGroup 5 = .ok (.getfield 21, 3) := by decide +kernel
theorem dX3_beginGroup_8 : decode cX3_beginGroup 8 = .ok (.iconst 0, 1) := by decide +kernel
theorem dX3_beginGroup_9 : decode cX3_beginGroup 9 = .ok (.bastore, 1) := by decide +kernel
theorem dX3_beginGroup_10 : decode cX3_beginGroup 10 = .ok (.aload_n 0, 1) := by decide +kernel
theorem dX3_beginGroup_11 : decode cX3_beginGroup 11 = .ok (.getfield 15, 3) := by decide +kernel
theorem dX3_beginGroup_14 : decode cX3_beginGroup 14 = .ok (.aload_n 0, 1) := by decide +kernel
theorem dX3_beginGroup_15 : decode cX3_beginGroup 15 = .ok (.getfield 21, 3) := by decide +kernel
theorem dX3_beginGroup_18 : decode cX3_beginGroup 18 = .ok (.iconst 1, 1) := by decide +kernel
theorem dX3_beginGroup_19 : decode cX3_beginGroup 19 = .ok (.bastore, 1) := by decide +kernel
theorem dX3_beginGroup_20 : decode cX3_beginGroup 20 = .ok (.aload_n 0, 1) := by decide +kernel
theorem dX3_beginGroup_21 : decode cX3_beginGroup 21 = .ok (.getfield 18, 3) := by decide +kernel
theorem dX3_beginGroup_24 : decode cX3_beginGroup 24 = .ok (.aload_n 0, 1) := by decide +kernel
theorem dX3_beginGroup_25 : decode cX3_beginGroup 25 = .ok (.getfield 21, 3) := by decide +kernel
theorem dX3_beginGroup_28 : decode cX3_beginGroup 28 = .ok (.iconst 0, 1) := by decide +kernel
theorem dX3_beginGroup_29 : decode cX3_beginGroup 29 = .ok (.bastore, 1) := by decide +kernel
theorem dX3_beginGroup_30 : decode cX3_beginGroup 30 = .ok (.return_, 1) := by decide +kernel
def f_X3_beginGroup (a0 : Nat) (M : Mem) : Option Mem := gd (inR (mI M a0 3) 9) (gd (inR (mI (sI M (a0 + 1) (mI M a0 3).toNatClampNeg (0 : Int32)) a0 3) 9) (gd (inR (mI (sI (sI M (a0 + 1) (mI M a0 3).toNatClampNeg (0 : Int32)) (a0 + 2) (mI (sI M (a0 + 1) (mI M a0 3).toNatClampNeg (0 : Int32)) a0 3).toNatClampNeg (1 : Int32)) a0 3) 9) (some (sI (sI (sI M (a0 + 1) (mI M a0 3).toNatClampNeg (0 : Int32)) (a0 + 2) (mI (sI M (a0 + 1) (mI M a0 3).toNatClampNeg (0 : Int32)) a0 3).toNatClampNeg (1 : Int32)) (a0 + 3) (mI (sI (sI M (a0 + 1) (mI M a0 3).toNatClampNeg (0 : Int32)) (a0 + 2) (mI (sI M (a0 + 1) (mI M a0 3).toNatClampNeg (0 : Int32)) a0 3).toNatClampNeg (1 : Int32)) a0 3).toNatClampNeg (0 : Int32)))))
set_option maxRecDepth 100000 in
set_option maxHeartbeats 4000000 in
theorem c_X3_beginGroup (Z : Sys) {M : Mem} (hs : St M) (a0 : Nat) (k_a0 : K0[a0]? = some (3, 11)) {q : Mem} (hf : f_X3_beginGroup a0 M = some q) : Ct Z yX3_beginGroup cX3_beginGroup 1 none rm_X3_beginGroup [.ref (zs Z + a0)] M False (PostV q) := by
  refine Ct.of (by decide +kernel) (Nat.le_of_ble_eq_true rfl) (fun X hR hq _ => ?_)
  show G Z X Y_X3_beginGroup False 0 0 0 [(0, .ref (zs Z + a0))] [] M
  replace hq : RetOk Z X none False (PostV q) 0 0 := hq
  unfold f_X3_beginGroup at hf
  refine G.aload_n 0 0 dX3_beginGroup_0 rfl rfl ?_
  refine G.getp 1 ck_3 0 (a0 + 1) (hs.k k_a0) (pt_3_0 hs k_a0).1 (by decide) (by decide +kernel) wd_127 dX3_beginGroup_1 ?_
  refine G.aload_n 4 0 dX3_beginGroup_4 rfl rfl ?_
  refine G.geti 5 ck_3 3 (hs.k k_a0) (by decide) (by decide +kernel) wd_130 dX3_beginGroup_5 ?_
  refine G.iconst 8 (0 : Int32) dX3_beginGroup_8 (by decide +kernel) ?_
  obtain ⟨g1, hf⟩ := gd_e hf
  refine G.zt 9 (mI M a0 3).toNatClampNeg (0 : Int32) (hs.k (pt_3_0 hs k_a0).2) g1 rfl (by decide +kernel) dX3_beginGroup_9 ?_
  refine G.aload_n 10 0 dX3_beginGroup_10 rfl rfl ?_
  refine G.getp 11 ck_3 1 (a0 + 2) ((St.i hs).k k_a0) (pt_3_1 (St.i hs) k_a0).1 (by decide) (by decide +kernel) wd_128 dX3_beginGroup_11 ?_
  refine G.aload_n 14 0 dX3_beginGroup_14 rfl rfl ?_
  refine G.geti 15 ck_3 3 ((St.i hs).k k_a0) (by decide) (by decide +kernel) wd_130 dX3_beginGroup_15 ?_
  refine G.iconst 18 (1 : Int32) dX3_beginGroup_18 (by decide +kernel) ?_
  obtain ⟨g2, hf⟩ := gd_e hf
  refine G.zt 19 (mI (sI M (a0 + 1) (mI M a0 3).toNatClampNeg (0 : Int32)) a0 3).toNatClampNeg (1 : Int32) ((St.i hs).k (pt_3_1 hs k_a0).2) g2 rfl (by decide +kernel) dX3_beginGroup_19 ?_
  refine G.aload_n 20 0 dX3_beginGroup_20 rfl rfl ?_
  refine G.getp 21 ck_3 2 (a0 + 3) ((St.i (St.i hs)).k k_a0) (pt_3_2 (St.i (St.i hs)) k_a0).1 (by decide) (by decide +kernel) wd_129 dX3_beginGroup_21 ?_
  refine G.aload_n 24 0 dX3_beginGroup_24 rfl rfl ?_
  refine G.geti 25 ck_3 3 ((St.i (St.i hs)).k k_a0) (by decide) (by decide +kernel) wd_130 dX3_beginGroup_25 ?_
  refine G.iconst 28 (0 : Int32) dX3_beginGroup_28 (by decide +kernel) ?_
  obtain ⟨g3, hf⟩ := gd_e hf
  refine G.zt 29 (mI (sI (sI M (a0 + 1) (mI M a0 3).toNatClampNeg (0 : Int32)) (a0 + 2) (mI (sI M (a0 + 1) (mI M a0 3).toNatClampNeg (0 : Int32)) a0 3).toNatClampNeg (1 : Int32)) a0 3).toNatClampNeg (0 : Int32) ((St.i (St.i hs)).k (pt_3_2 hs k_a0).2) g3 rfl (by decide +kernel) dX3_beginGroup_29 ?_
  (have hf9 := Option.some.inj hf; subst hf9)
  exact G.rV 30 hq dX3_beginGroup_30 (St.i (St.i (St.i hs)))
abbrev Y_X3_beginProduct : My := (cX3_beginProduct, RX3, 1)
def rm_X3_beginProduct : Room := { frames := 1, cells := 0, slots := 0, locals := 200 }
theorem dX3_beginProduct_0 : decode cX3_beginProduct 0 = .ok (.aload_n 0, 1) := by decide +kernel
theorem dX3_beginProduct_1 : decode cX3_beginProduct 1 = .ok (.iconst 1, 1) := by decide +kernel
theorem dX3_beginProduct_2 : decode cX3_beginProduct 2 = .ok (.putfield 102, 3) := by decide +kernel
theorem dX3_beginProduct_5 : decode cX3_beginProduct 5 = .ok (.aload_n 0, 1) := by decide +kernel
theorem dX3_beginProduct_6 : decode cX3_beginProduct 6 = .ok (.bipush 42, 2) := by decide +kernel
theorem dX3_beginProduct_8 : decode cX3_beginProduct 8 = .ok (.putfield 105, 3) := by decide +kernel
theorem dX3_beginProduct_11 : decode cX3_beginProduct 11 = .ok (.return_, 1) := by decide +kernel
def f_X3_beginProduct (a0 : Nat) (M : Mem) : Option Mem := some (sI (sI M a0 8 (1 : Int32)) a0 9 (42 : Int32))
set_option maxRecDepth 100000 in
set_option maxHeartbeats 4000000 in
theorem c_X3_beginProduct (Z : Sys) {M : Mem} (hs : St M) (a0 : Nat) (k_a0 : K0[a0]? = some (3, 11)) {q : Mem} (hf : f_X3_beginProduct a0 M = some q) : Ct Z yX3_beginProduct cX3_beginProduct 1 none rm_X3_beginProduct [.ref (zs Z + a0)] M False (PostV q) := by
  refine Ct.of (by decide +kernel) (Nat.le_of_ble_eq_true rfl) (fun X hR hq _ => ?_)
  show G Z X Y_X3_beginProduct False 0 0 0 [(0, .ref (zs Z + a0))] [] M
  replace hq : RetOk Z X none False (PostV q) 0 0 := hq
  unfold f_X3_beginProduct at hf
  refine G.aload_n 0 0 dX3_beginProduct_0 rfl rfl ?_
  refine G.iconst 1 (1 : Int32) dX3_beginProduct_1 (by decide +kernel) ?_
  refine G.puti 2 ck_3 8 (hs.k k_a0) (by decide) (by decide +kernel) rfl wd_135 rfl rfl dX3_beginProduct_2 ?_
  refine G.aload_n 5 0 dX3_beginProduct_5 rfl rfl ?_
  refine G.bipush 6 (42 : Int32) dX3_beginProduct_6 (by decide +kernel) ?_
  refine G.puti 8 ck_3 9 ((St.i hs).k k_a0) (by decide) (by decide +kernel) rfl wd_136 rfl rfl dX3_beginProduct_8 ?_
  (have hf9 := Option.some.inj hf; subst hf9)
  exact G.rV 11 hq dX3_beginProduct_11 (St.i (St.i hs))
abbrev Y_X3_beginSum : My := (cX3_beginSum, RX3, 1)
def rm_X3_beginSum : Room := { frames := 2, cells := 0, slots := 0, locals := 220 }
theorem dX3_beginSum_0 : decode cX3_beginSum 0 = .ok (.aload_n 0, 1) := by decide +kernel
theorem dX3_beginSum_1 : decode cX3_beginSum 1 = .ok (.iconst 0, 1) := by decide +kernel
theorem dX3_beginSum_2 : decode cX3_beginSum 2 = .ok (.putfield 93, 3) := by decide +kernel
theorem dX3_beginSum_5 : decode cX3_beginSum 5 = .ok (.aload_n 0, 1) := by decide +kernel
theorem dX3_beginSum_6 : decode cX3_beginSum 6 = .ok (.bipush 43, 2) := by decide +kernel
theorem dX3_beginSum_8 : decode cX3_beginSum 8 = .ok (.putfield 96, 3) := by decide +kernel
theorem dX3_beginSum_11 : decode cX3_beginSum 11 = .ok (.aload_n 0, 1) := by decide +kernel
theorem dX3_beginSum_12 : decode cX3_beginSum 12 = .ok (.invokevirtual 99, 3) := by decide +kernel
theorem dX3_beginSum_15 : decode cX3_beginSum 15 = .ok (.return_, 1) := by decide +kernel
def f_X3_beginSum (a0 : Nat) (M : Mem) : Option Mem := (f_X3_beginProduct a0 (sI (sI M a0 6 (0 : Int32)) a0 7 (43 : Int32))).bind fun q3 => some q3
set_option maxRecDepth 100000 in
set_option maxHeartbeats 4000000 in
theorem c_X3_beginSum (Z : Sys) {M : Mem} (hs : St M) (a0 : Nat) (k_a0 : K0[a0]? = some (3, 11)) {q : Mem} (hf : f_X3_beginSum a0 M = some q) : Ct Z yX3_beginSum cX3_beginSum 1 none rm_X3_beginSum [.ref (zs Z + a0)] M False (PostV q) := by
  refine Ct.of (by decide +kernel) (Nat.le_of_ble_eq_true rfl) (fun X hR hq _ => ?_)
  show G Z X Y_X3_beginSum False 0 0 0 [(0, .ref (zs Z + a0))] [] M
  replace hq : RetOk Z X none False (PostV q) 0 0 := hq
  unfold f_X3_beginSum at hf
  refine G.aload_n 0 0 dX3_beginSum_0 rfl rfl ?_
  refine G.iconst 1 (0 : Int32) dX3_beginSum_1 (by decide +kernel) ?_
  refine G.puti 2 ck_3 6 (hs.k k_a0) (by decide) (by decide +kernel) rfl wd_133 rfl rfl dX3_beginSum_2 ?_
  refine G.aload_n 5 0 dX3_beginSum_5 rfl rfl ?_
  refine G.bipush 6 (43 : Int32) dX3_beginSum_6 (by decide +kernel) ?_
  refine G.puti 8 ck_3 7 ((St.i hs).k k_a0) (by decide) (by decide +kernel) rfl wd_134 rfl rfl dX3_beginSum_8 ?_
  refine G.aload_n 11 0 dX3_beginSum_11 rfl rfl ?_
  obtain ⟨q3, e4, hf⟩ := bd_e hf
  refine G.cvV 12 (As := []) ck_3 ((St.i (St.i hs)).k k_a0) (c_X3_beginProduct Z (St.i (St.i hs)) a0 k_a0 e4) mk_X3_beginProduct vk_X3_beginProduct rfl wd_1036 hR (by decide +kernel) ⟨rfl, rfl⟩ rfl (Nat.le_of_ble_eq_true rfl) dX3_beginSum_12 (fun hs1 => ?_)
  (have hf9 := Option.some.inj hf; subst hf9)
  exact G.rV 15 hq dX3_beginSum_15 hs1
abbrev Y_X2_isField : My := (cX2_isField, RX2, 1)
def rm_X2_isField : Room := { frames := 5, cells := 0, slots := 0, locals := 291 }
theorem dX2_isField_0 : decode cX2_isField 0 = .ok (.iload_n 0, 1) := by decide +kernel
theorem dX2_isField_1 : decode cX2_isField 1 = .ok (.ifCond .le 17, 3) := by decide +kernel
theorem dX2_isField_4 : decode cX2_isField 4 = .ok (.ldc 58, 2) := by decide +kernel
theorem dX2_isField_6 : decode cX2_isField 6 = .ok (.iload_n 0, 1) := by decide +kernel
theorem dX2_isField_7 : decode cX2_isField 7 = .ok (.i2c, 1) := by decide +kernel
theorem dX2_isField_8 : decode cX2_isField 8 = .ok (.invokevirtual 60, 3) := by decide +kernel
theorem dX2_isField_11 : decode cX2_isField 11 = .ok (.ifCond .lt 7, 3) := by decide +kernel
theorem dX2_isField_14 : decode cX2_isField 14 = .ok (.iconst 1, 1) := by decide +kernel
theorem dX2_isField_15 : decode cX2_isField 15 = .ok (.goto 4, 3) := by decide +kernel
theorem dX2_isField_18 : decode cX2_isField 18 = .ok (.iconst 0, 1) := by decide +kernel
theorem dX2_isField_19 : decode cX2_isField 19 = .ok (.ireturn, 1) := by decide +kernel
def f_X2_isField (x0 : Int32) : Option Int32 := if x0 ≤ 0 then some (0 : Int32) else (f_J0_indexOf_0f7a4 (x0.toUInt32 % 65536).toInt32).bind fun q4 => if q4 < 0 then some (0 : Int32) else some (1 : Int32)
set_option maxRecDepth 100000 in
set_option maxHeartbeats 4000000 in
theorem c_X2_isField (Z : Sys) {M : Mem} (hs : St M) (x0 : Int32) {q : Int32} (hf : f_X2_isField x0 = some q) : Ct Z yX2_isField cX2_isField 1 (some .boolean) rm_X2_isField [.int x0] M False (PostZ q M) := by
  refine Ct.of (by decide +kernel) (Nat.le_of_ble_eq_true rfl) (fun X hR hq _ => ?_)
  show G Z X Y_X2_isField False 0 0 0 [(0, .int x0)] [] M
  replace hq : RetOk Z X (some .boolean) False (PostZ q M) 0 0 := hq
  unfold f_X2_isField at hf
  refine G.iload_n 0 0 dX2_isField_0 rfl rfl ?_
  refine G.if_le 1 18 dX2_isField_1 (by decide) (fun h1 => ?_) (fun h1 => ?_)
  · replace hf := (if_pos h1).symm.trans hf
    refine G.iconst 18 (0 : Int32) dX2_isField_18 (by decide +kernel) ?_
    (have hf9 := Option.some.inj hf; subst hf9)
    exact G.rZ 19 hq dX2_isField_19 hs (Or.inl rfl)
  · replace hf := (if_neg h1).symm.trans hf
    refine G.ldcF 4 rfl dX2_isField_4 ?_
    refine G.iload_n 6 0 dX2_isField_6 rfl rfl ?_
    refine G.i2c 7 dX2_isField_7 ?_
    obtain ⟨q4, e5, hf⟩ := bd_e hf
    refine G.coI 8 (As := [.int (x0.toUInt32 % 65536).toInt32]) (c_J0_indexOf_0f7a4 Z hs (x0.toUInt32 % 65536).toInt32 e5) mk_J0_indexOf_0f7a4 vk_J0_indexOf_0f7a4 rfl wd_909 hR (by decide +kernel) ⟨rfl, rfl⟩ rfl (Nat.le_of_ble_eq_true rfl) dX2_isField_8 (fun hs2 => ?_)
    refine G.if_lt 11 18 dX2_isField_11 (by decide) (fun h6 => ?_) (fun h6 => ?_)
    · replace hf := (if_pos h6).symm.trans hf
      refine G.iconst 18 (0 : Int32) dX2_isField_18 (by decide +kernel) ?_
      (have hf9 := Option.some.inj hf; subst hf9)
      exact G.rZ 19 hq dX2_isField_19 hs2 (Or.inl rfl)
    · replace hf := (if_neg h6).symm.trans hf
      refine G.iconst 14 (1 : Int32) dX2_isField_14 (by decide +kernel) ?_
      refine G.goto 15 19 dX2_isField_15 (by decide) ?_
      (have hf9 := Option.some.inj hf; subst hf9)
      exact G.rZ 19 hq dX2_isField_19 hs2 (Or.inr rfl)
abbrev Y_X3_fieldOf : My := (cX3_fieldOf, RX3, 3)
def rm_X3_fieldOf : Room := { frames := 3, cells := 0, slots := 0, locals := 241 }
theorem dX3_fieldOf_0 : decode cX3_fieldOf 0 = .ok (.iload_n 0, 1) := by decide +kernel
theorem dX3_fieldOf_1 : decode cX3_fieldOf 1 = .ok (.tableswitch 152 99 119 #[99, 124, 129, 152, 152, 152, 152, 152, 119, 109, 152, 152, 104, 152, 152, 152, 134, 114, 152, 152, 139], 99) := by decide +kernel
theorem dX3_fieldOf_100 : decode cX3_fieldOf 100 = .ok (.aload_n 1, 1) := by decide +kernel
theorem dX3_fieldOf_101 : decode cX3_fieldOf 101 = .ok (.getfield 62, 3) := by decide +kernel
theorem dX3_fieldOf_104 : decode cX3_fieldOf 104 = .ok (.ireturn, 1) := by decide +kernel
theorem dX3_fieldOf_105 : decode cX3_fieldOf 105 = .ok (.aload_n 1, 1) := by decide +kernel
theorem dX3_fieldOf_106 : decode cX3_fieldOf 106 = .ok (.getfield 67, 3) := by decide +kernel
theorem dX3_fieldOf_109 : decode cX3_fieldOf 109 = .ok (.ireturn, 1) := by decide +kernel
theorem dX3_fieldOf_110 : decode cX3_fieldOf 110 = .ok (.aload_n 1, 1) := by decide +kernel
theorem dX3_fieldOf_111 : decode cX3_fieldOf 111 = .ok (.getfield 70, 3) := by decide +kernel
theorem dX3_fieldOf_114 : decode cX3_fieldOf 114 = .ok (.ireturn, 1) := by decide +kernel
theorem dX3_fieldOf_115 : decode cX3_fieldOf 115 = .ok (.aload_n 1, 1) := by decide +kernel
theorem dX3_fieldOf_116 : decode cX3_fieldOf 116 = .ok (.getfield 73, 3) := by decide +kernel
theorem dX3_fieldOf_119 : decode cX3_fieldOf 119 = .ok (.ireturn, 1) := by decide +kernel
theorem dX3_fieldOf_120 : decode cX3_fieldOf 120 = .ok (.aload_n 1, 1) := by decide +kernel
theorem dX3_fieldOf_121 : decode cX3_fieldOf 121 = .ok (.getfield 76, 3) := by decide +kernel
theorem dX3_fieldOf_124 : decode cX3_fieldOf 124 = .ok (.ireturn, 1) := by decide +kernel
theorem dX3_fieldOf_125 : decode cX3_fieldOf 125 = .ok (.aload_n 1, 1) := by decide +kernel
theorem dX3_fieldOf_126 : decode cX3_fieldOf 126 = .ok (.getfield 79, 3) := by decide +kernel
theorem dX3_fieldOf_129 : decode cX3_fieldOf 129 = .ok (.ireturn, 1) := by decide +kernel
theorem dX3_fieldOf_130 : decode cX3_fieldOf 130 = .ok (.aload_n 1, 1) := by decide +kernel
theorem dX3_fieldOf_131 : decode cX3_fieldOf 131 = .ok (.getfield 82, 3) := by decide +kernel
theorem dX3_fieldOf_134 : decode cX3_fieldOf 134 = .ok (.ireturn, 1) := by decide +kernel
theorem dX3_fieldOf_135 : decode cX3_fieldOf 135 = .ok (.aload_n 1, 1) := by decide +kernel
theorem dX3_fieldOf_136 : decode cX3_fieldOf 136 = .ok (.invokevirtual 85, 3) := by decide +kernel
theorem dX3_fieldOf_139 : decode cX3_fieldOf 139 = .ok (.ireturn, 1) := by decide +kernel
theorem dX3_fieldOf_140 : decode cX3_fieldOf 140 = .ok (.aload_n 1, 1) := by decide +kernel
theorem dX3_fieldOf_141 : decode cX3_fieldOf 141 = .ok (.getfield 89, 3) := by decide +kernel
theorem dX3_fieldOf_144 : decode cX3_fieldOf 144 = .ok (.ifCond .eq 7, 3) := by decide +kernel
theorem dX3_fieldOf_147 : decode cX3_fieldOf 147 = .ok (.iconst 1, 1) := by decide +kernel
theorem dX3_fieldOf_148 : decode cX3_fieldOf 148 = .ok (.goto 4, 3) := by decide +kernel
theorem dX3_fieldOf_151 : decode cX3_fieldOf 151 = .ok (.iconst 0, 1) := by decide +kernel
theorem dX3_fieldOf_152 : decode cX3_fieldOf 152 = .ok (.ireturn, 1) := by decide +kernel
theorem dX3_fieldOf_153 : decode cX3_fieldOf 153 = .ok (.iload_n 2, 1) := by decide +kernel
theorem dX3_fieldOf_154 : decode cX3_fieldOf 154 = .ok (.ireturn, 1) := by decide +kernel
def f_X3_fieldOf (x0 : Int32) (a1 : Nat) (x2 : Int32) (M : Mem) : Option Int32 := if x0 = (99 : Int32) then some (mI M a1 10) else if x0 = (100 : Int32) then some (mI M a1 4) else if x0 = (101 : Int32) then some (mI M a1 5) else if x0 = (102 : Int32) then some x2 else if x0 = (103 : Int32) then some x2 else if x0 = (104 : Int32) then some x2 else if x0 = (105 : Int32) then some x2 else if x0 = (106 : Int32) then some x2 else if x0 = (107 : Int32) then some (mI M a1 3) else if x0 = (108 : Int32) then some (mI M a1 1) else if x0 = (109 : Int32) then some x2 else if x0 = (110 : Int32) then some x2 else if x0 = (111 : Int32) then some (mI M a1 11) else if x0 = (112 : Int32) then some x2 else if x0 = (113 : Int32) then some x2 else if x0 = (114 : Int32) then some x2 else if x0 = (115 : Int32) then (f_X1_share a1 M).bind fun q20 => some q20 else if x0 = (116 : Int32) then some (mI M a1 2) else if x0 = (117 : Int32) then some x2 else if x0 = (118 : Int32) then some x2 else if x0 = (119 : Int32) then if (mI M a1 8) = 0 then some (0 : Int32) else some (1 : Int32) else some x2
set_option maxRecDepth 100000 in
set_option maxHeartbeats 4000000 in
theorem c_X3_fieldOf (Z : Sys) {M : Mem} (hs : St M) (x0 : Int32) (a1 : Nat) (x2 : Int32) (k_a1 : K0[a1]? = some (1, 12)) {q : Int32} (hf : f_X3_fieldOf x0 a1 x2 M = some q) : Ct Z yX3_fieldOf cX3_fieldOf 3 (some .int) rm_X3_fieldOf [.int x0, .ref (zs Z + a1), .int x2] M False (PostI q M) := by
  refine Ct.of (by decide +kernel) (Nat.le_of_ble_eq_true rfl) (fun X hR hq _ => ?_)
  show G Z X Y_X3_fieldOf False 0 0 0 [(0, .int x0), (1, .ref (zs Z + a1)), (2, .int x2)] [] M
  replace hq : RetOk Z X (some .int) False (PostI q M) 0 0 := hq
  unfold f_X3_fieldOf at hf
  refine G.iload_n 0 0 dX3_fieldOf_0 rfl rfl ?_
  by_cases h1 : x0 = (99 : Int32)
  · replace hf := (if_pos h1).symm.trans hf
    refine G.tableIn 1 100 (off := 99) dX3_fieldOf_1 (by rw [h1]; decide +kernel) (by rw [h1]; decide +kernel) (by rw [h1]; decide +kernel) (by decide) ?_
    refine G.aload_n 100 1 dX3_fieldOf_100 rfl rfl ?_
    refine G.geti 101 ck_1 10 (hs.k k_a1) (by decide) (by decide +kernel) wd_225 dX3_fieldOf_101 ?_
    (have hf9 := Option.some.inj hf; subst hf9)
    exact G.rI 104 hq dX3_fieldOf_104 hs
  · replace hf := (if_neg h1).symm.trans hf
    by_cases h2 : x0 = (100 : Int32)
    · replace hf := (if_pos h2).symm.trans hf
      refine G.tableIn 1 125 (off := 124) dX3_fieldOf_1 (by rw [h2]; decide +kernel) (by rw [h2]; decide +kernel) (by rw [h2]; decide +kernel) (by decide) ?_
      refine G.aload_n 125 1 dX3_fieldOf_125 rfl rfl ?_
      refine G.geti 126 ck_1 4 (hs.k k_a1) (by decide) (by decide +kernel) wd_201 dX3_fieldOf_126 ?_
      (have hf9 := Option.some.inj hf; subst hf9)
      exact G.rI 129 hq dX3_fieldOf_129 hs
    · replace hf := (if_neg h2).symm.trans hf
      by_cases h3 : x0 = (101 : Int32)
      · replace hf := (if_pos h3).symm.trans hf
        refine G.tableIn 1 130 (off := 129) dX3_fieldOf_1 (by rw [h3]; decide +kernel) (by rw [h3]; decide +kernel) (by rw [h3]; decide +kernel) (by decide) ?_
        refine G.aload_n 130 1 dX3_fieldOf_130 rfl rfl ?_
        refine G.geti 131 ck_1 5 (hs.k k_a1) (by decide) (by decide +kernel) wd_204 dX3_fieldOf_131 ?_
        (have hf9 := Option.some.inj hf; subst hf9)
        exact G.rI 134 hq dX3_fieldOf_134 hs
      · replace hf := (if_neg h3).symm.trans hf
        by_cases h4 : x0 = (102 : Int32)
        · replace hf := (if_pos h4).symm.trans hf
          refine G.tableIn 1 153 (off := 152) dX3_fieldOf_1 (by rw [h4]; decide +kernel) (by rw [h4]; decide +kernel) (by rw [h4]; decide +kernel) (by decide) ?_
          refine G.iload_n 153 2 dX3_fieldOf_153 rfl rfl ?_
          (have hf9 := Option.some.inj hf; subst hf9)
          exact G.rI 154 hq dX3_fieldOf_154 hs
        · replace hf := (if_neg h4).symm.trans hf
          by_cases h5 : x0 = (103 : Int32)
          · replace hf := (if_pos h5).symm.trans hf
            refine G.tableIn 1 153 (off := 152) dX3_fieldOf_1 (by rw [h5]; decide +kernel) (by rw [h5]; decide +kernel) (by rw [h5]; decide +kernel) (by decide) ?_
            refine G.iload_n 153 2 dX3_fieldOf_153 rfl rfl ?_
            (have hf9 := Option.some.inj hf; subst hf9)
            exact G.rI 154 hq dX3_fieldOf_154 hs
          · replace hf := (if_neg h5).symm.trans hf
            by_cases h6 : x0 = (104 : Int32)
            · replace hf := (if_pos h6).symm.trans hf
              refine G.tableIn 1 153 (off := 152) dX3_fieldOf_1 (by rw [h6]; decide +kernel) (by rw [h6]; decide +kernel) (by rw [h6]; decide +kernel) (by decide) ?_
              refine G.iload_n 153 2 dX3_fieldOf_153 rfl rfl ?_
              (have hf9 := Option.some.inj hf; subst hf9)
              exact G.rI 154 hq dX3_fieldOf_154 hs
            · replace hf := (if_neg h6).symm.trans hf
              by_cases h7 : x0 = (105 : Int32)
              · replace hf := (if_pos h7).symm.trans hf
                refine G.tableIn 1 153 (off := 152) dX3_fieldOf_1 (by rw [h7]; decide +kernel) (by rw [h7]; decide +kernel) (by rw [h7]; decide +kernel) (by decide) ?_
                refine G.iload_n 153 2 dX3_fieldOf_153 rfl rfl ?_
                (have hf9 := Option.some.inj hf; subst hf9)
                exact G.rI 154 hq dX3_fieldOf_154 hs
              · replace hf := (if_neg h7).symm.trans hf
                by_cases h8 : x0 = (106 : Int32)
                · replace hf := (if_pos h8).symm.trans hf
                  refine G.tableIn 1 153 (off := 152) dX3_fieldOf_1 (by rw [h8]; decide +kernel) (by rw [h8]; decide +kernel) (by rw [h8]; decide +kernel) (by decide) ?_
                  refine G.iload_n 153 2 dX3_fieldOf_153 rfl rfl ?_
                  (have hf9 := Option.some.inj hf; subst hf9)
                  exact G.rI 154 hq dX3_fieldOf_154 hs
                · replace hf := (if_neg h8).symm.trans hf
                  by_cases h9 : x0 = (107 : Int32)
                  · replace hf := (if_pos h9).symm.trans hf
                    refine G.tableIn 1 120 (off := 119) dX3_fieldOf_1 (by rw [h9]; decide +kernel) (by rw [h9]; decide +kernel) (by rw [h9]; decide +kernel) (by decide) ?_
                    refine G.aload_n 120 1 dX3_fieldOf_120 rfl rfl ?_
                    refine G.geti 121 ck_1 3 (hs.k k_a1) (by decide) (by decide +kernel) wd_198 dX3_fieldOf_121 ?_
                    (have hf9 := Option.some.inj hf; subst hf9)
                    exact G.rI 124 hq dX3_fieldOf_124 hs
                  · replace hf := (if_neg h9).symm.trans hf
                    by_cases h10 : x0 = (108 : Int32)
                    · replace hf := (if_pos h10).symm.trans hf
                      refine G.tableIn 1 110 (off := 109) dX3_fieldOf_1 (by rw [h10]; decide +kernel) (by rw [h10]; decide +kernel) (by rw [h10]; decide +kernel) (by decide) ?_
                      refine G.aload_n 110 1 dX3_fieldOf_110 rfl rfl ?_
                      refine G.geti 111 ck_1 1 (hs.k k_a1) (by decide) (by decide +kernel) wd_191 dX3_fieldOf_111 ?_
                      (have hf9 := Option.some.inj hf; subst hf9)
                      exact G.rI 114 hq dX3_fieldOf_114 hs
                    · replace hf := (if_neg h10).symm.trans hf
                      by_cases h11 : x0 = (109 : Int32)
                      · replace hf := (if_pos h11).symm.trans hf
                        refine G.tableIn 1 153 (off := 152) dX3_fieldOf_1 (by rw [h11]; decide +kernel) (by rw [h11]; decide +kernel) (by rw [h11]; decide +kernel) (by decide) ?_
                        refine G.iload_n 153 2 dX3_fieldOf_153 rfl rfl ?_
                        (have hf9 := Option.some.inj hf; subst hf9)
                        exact G.rI 154 hq dX3_fieldOf_154 hs
                      · replace hf := (if_neg h11).symm.trans hf
                        by_cases h12 : x0 = (110 : Int32)
                        · replace hf := (if_pos h12).symm.trans hf
                          refine G.tableIn 1 153 (off := 152) dX3_fieldOf_1 (by rw [h12]; decide +kernel) (by rw [h12]; decide +kernel) (by rw [h12]; decide +kernel) (by decide) ?_
                          refine G.iload_n 153 2 dX3_fieldOf_153 rfl rfl ?_
                          (have hf9 := Option.some.inj hf; subst hf9)
                          exact G.rI 154 hq dX3_fieldOf_154 hs
                        · replace hf := (if_neg h12).symm.trans hf
                          by_cases h13 : x0 = (111 : Int32)
                          · replace hf := (if_pos h13).symm.trans hf
                            refine G.tableIn 1 105 (off := 104) dX3_fieldOf_1 (by rw [h13]; decide +kernel) (by rw [h13]; decide +kernel) (by rw [h13]; decide +kernel) (by decide) ?_
                            refine G.aload_n 105 1 dX3_fieldOf_105 rfl rfl ?_
                            refine G.geti 106 ck_1 11 (hs.k k_a1) (by decide) (by decide +kernel) wd_229 dX3_fieldOf_106 ?_
                            (have hf9 := Option.some.inj hf; subst hf9)
                            exact G.rI 109 hq dX3_fieldOf_109 hs
                          · replace hf := (if_neg h13).symm.trans hf
                            by_cases h14 : x0 = (112 : Int32)
                            · replace hf := (if_pos h14).symm.trans hf
                              refine G.tableIn 1 153 (off := 152) dX3_fieldOf_1 (by rw [h14]; decide +kernel) (by rw [h14]; decide +kernel) (by rw [h14]; decide +kernel) (by decide) ?_
                              refine G.iload_n 153 2 dX3_fieldOf_153 rfl rfl ?_
                              (have hf9 := Option.some.inj hf; subst hf9)
                              exact G.rI 154 hq dX3_fieldOf_154 hs
                            · replace hf := (if_neg h14).symm.trans hf
                              by_cases h15 : x0 = (113 : Int32)
                              · replace hf := (if_pos h15).symm.trans hf
                                refine G.tableIn 1 153 (off := 152) dX3_fieldOf_1 (by rw [h15]; decide +kernel) (by rw [h15]; decide +kernel) (by rw [h15]; decide +kernel) (by decide) ?_
                                refine G.iload_n 153 2 dX3_fieldOf_153 rfl rfl ?_
                                (have hf9 := Option.some.inj hf; subst hf9)
                                exact G.rI 154 hq dX3_fieldOf_154 hs
                              · replace hf := (if_neg h15).symm.trans hf
                                by_cases h16 : x0 = (114 : Int32)
                                · replace hf := (if_pos h16).symm.trans hf
                                  refine G.tableIn 1 153 (off := 152) dX3_fieldOf_1 (by rw [h16]; decide +kernel) (by rw [h16]; decide +kernel) (by rw [h16]; decide +kernel) (by decide) ?_
                                  refine G.iload_n 153 2 dX3_fieldOf_153 rfl rfl ?_
                                  (have hf9 := Option.some.inj hf; subst hf9)
                                  exact G.rI 154 hq dX3_fieldOf_154 hs
                                · replace hf := (if_neg h16).symm.trans hf
                                  by_cases h17 : x0 = (115 : Int32)
                                  · replace hf := (if_pos h17).symm.trans hf
                                    refine G.tableIn 1 135 (off := 134) dX3_fieldOf_1 (by rw [h17]; decide +kernel) (by rw [h17]; decide +kernel) (by rw [h17]; decide +kernel) (by decide) ?_
                                    refine G.aload_n 135 1 dX3_fieldOf_135 rfl rfl ?_
                                    obtain ⟨q20, e21, hf⟩ := bd_e hf
                                    refine G.cvI 136 (As := []) ck_1 (hs.k k_a1) (c_X1_share Z hs a1 k_a1 e21) mk_X1_share vk_X1_share rfl wd_1044 hR (by decide +kernel) ⟨rfl, rfl⟩ rfl (Nat.le_of_ble_eq_true rfl) dX3_fieldOf_136 (fun hs18 => ?_)
                                    (have hf9 := Option.some.inj hf; subst hf9)
                                    exact G.rI 139 hq dX3_fieldOf_139 hs18
                                  · replace hf := (if_neg h17).symm.trans hf
                                    by_cases h22 : x0 = (116 : Int32)
                                    · replace hf := (if_pos h22).symm.trans hf
                                      refine G.tableIn 1 115 (off := 114) dX3_fieldOf_1 (by rw [h22]; decide +kernel) (by rw [h22]; decide +kernel) (by rw [h22]; decide +kernel) (by decide) ?_
                                      refine G.aload_n 115 1 dX3_fieldOf_115 rfl rfl ?_
                                      refine G.geti 116 ck_1 2 (hs.k k_a1) (by decide) (by decide +kernel) wd_195 dX3_fieldOf_116 ?_
                                      (have hf9 := Option.some.inj hf; subst hf9)
                                      exact G.rI 119 hq dX3_fieldOf_119 hs
                                    · replace hf := (if_neg h22).symm.trans hf
                                      by_cases h23 : x0 = (117 : Int32)
                                      · replace hf := (if_pos h23).symm.trans hf
                                        refine G.tableIn 1 153 (off := 152) dX3_fieldOf_1 (by rw [h23]; decide +kernel) (by rw [h23]; decide +kernel) (by rw [h23]; decide +kernel) (by decide) ?_
                                        refine G.iload_n 153 2 dX3_fieldOf_153 rfl rfl ?_
                                        (have hf9 := Option.some.inj hf; subst hf9)
                                        exact G.rI 154 hq dX3_fieldOf_154 hs
                                      · replace hf := (if_neg h23).symm.trans hf
                                        by_cases h24 : x0 = (118 : Int32)
                                        · replace hf := (if_pos h24).symm.trans hf
                                          refine G.tableIn 1 153 (off := 152) dX3_fieldOf_1 (by rw [h24]; decide +kernel) (by rw [h24]; decide +kernel) (by rw [h24]; decide +kernel) (by decide) ?_
                                          refine G.iload_n 153 2 dX3_fieldOf_153 rfl rfl ?_
                                          (have hf9 := Option.some.inj hf; subst hf9)
                                          exact G.rI 154 hq dX3_fieldOf_154 hs
                                        · replace hf := (if_neg h24).symm.trans hf
                                          by_cases h25 : x0 = (119 : Int32)
                                          · replace hf := (if_pos h25).symm.trans hf
                                            refine G.tableIn 1 140 (off := 139) dX3_fieldOf_1 (by rw [h25]; decide +kernel) (by rw [h25]; decide +kernel) (by rw [h25]; decide +kernel) (by decide) ?_
                                            refine G.aload_n 140 1 dX3_fieldOf_140 rfl rfl ?_
                                            refine G.geti 141 ck_1 8 (hs.k k_a1) (by decide) (by decide +kernel) wd_215 dX3_fieldOf_141 ?_
                                            refine G.if_eq 144 151 dX3_fieldOf_144 (by decide) (fun h26 => ?_) (fun h26 => ?_)
                                            · replace hf := (if_pos h26).symm.trans hf
                                              refine G.iconst 151 (0 : Int32) dX3_fieldOf_151 (by decide +kernel) ?_
                                              (have hf9 := Option.some.inj hf; subst hf9)
                                              exact G.rI 152 hq dX3_fieldOf_152 hs
                                            · replace hf := (if_neg h26).symm.trans hf
                                              refine G.iconst 147 (1 : Int32) dX3_fieldOf_147 (by decide +kernel) ?_
                                              refine G.goto 148 152 dX3_fieldOf_148 (by decide) ?_
                                              (have hf9 := Option.some.inj hf; subst hf9)
                                              exact G.rI 152 hq dX3_fieldOf_152 hs
                                          · replace hf := (if_neg h25).symm.trans hf
                                            have t_h1 := ti (99 : Int32) (99) (by decide +kernel) h1
                                            have t_h2 := ti (100 : Int32) (100) (by decide +kernel) h2
                                            have t_h3 := ti (101 : Int32) (101) (by decide +kernel) h3
                                            have t_h4 := ti (102 : Int32) (102) (by decide +kernel) h4
                                            have t_h5 := ti (103 : Int32) (103) (by decide +kernel) h5
                                            have t_h6 := ti (104 : Int32) (104) (by decide +kernel) h6
                                            have t_h7 := ti (105 : Int32) (105) (by decide +kernel) h7
                                            have t_h8 := ti (106 : Int32) (106) (by decide +kernel) h8
                                            have t_h9 := ti (107 : Int32) (107) (by decide +kernel) h9
                                            have t_h10 := ti (108 : Int32) (108) (by decide +kernel) h10
                                            have t_h11 := ti (109 : Int32) (109) (by decide +kernel) h11
                                            have t_h12 := ti (110 : Int32) (110) (by decide +kernel) h12
                                            have t_h13 := ti (111 : Int32) (111) (by decide +kernel) h13
                                            have t_h14 := ti (112 : Int32) (112) (by decide +kernel) h14
                                            have t_h15 := ti (113 : Int32) (113) (by decide +kernel) h15
                                            have t_h16 := ti (114 : Int32) (114) (by decide +kernel) h16
                                            have t_h17 := ti (115 : Int32) (115) (by decide +kernel) h17
                                            have t_h22 := ti (116 : Int32) (116) (by decide +kernel) h22
                                            have t_h23 := ti (117 : Int32) (117) (by decide +kernel) h23
                                            have t_h24 := ti (118 : Int32) (118) (by decide +kernel) h24
                                            have t_h25 := ti (119 : Int32) (119) (by decide +kernel) h25
                                            refine G.tableOut 1 153 dX3_fieldOf_1 (by omega) (by decide) ?_
                                            refine G.iload_n 153 2 dX3_fieldOf_153 rfl rfl ?_
                                            (have hf9 := Option.some.inj hf; subst hf9)
                                            exact G.rI 154 hq dX3_fieldOf_154 hs
abbrev Y_X3_takeAtom : My := (cX3_takeAtom, RX3, 2)
def rm_X3_takeAtom : Room := { frames := 1, cells := 0, slots := 0, locals := 200 }
theorem dX3_takeAtom_0 : decode cX3_takeAtom 0 = .ok (.aload_n 0, 1) := by decide +kernel
theorem dX3_takeAtom_1 : decode cX3_takeAtom 1 = .ok (.getfield 105, 3) := by decide +kernel
theorem dX3_takeAtom_4 : decode cX3_takeAtom 4 = .ok (.bipush 42, 2) := by decide +kernel
theorem dX3_takeAtom_6 : decode cX3_takeAtom 6 = .ok (.if_icmp .ne 16, 3) := by decide +kernel
theorem dX3_takeAtom_9 : decode cX3_takeAtom 9 = .ok (.aload_n 0, 1) := by decide +kernel
theorem dX3_takeAtom_10 : decode cX3_takeAtom 10 = .ok (.dup, 1) := by decide +kernel
theorem dX3_takeAtom_11 : decode cX3_takeAtom 11 = .ok (.getfield 102, 3) := by decide +kernel
theorem dX3_takeAtom_14 : decode cX3_takeAtom 14 = .ok (.iload_n 1, 1) := by decide +kernel
theorem dX3_takeAtom_15 : decode cX3_takeAtom 15 = .ok (.imul, 1) := by decide +kernel
theorem dX3_takeAtom_16 : decode cX3_takeAtom 16 = .ok (.putfield 102, 3) := by decide +kernel
theorem dX3_takeAtom_19 : decode cX3_takeAtom 19 = .ok (.goto 21, 3) := by decide +kernel
theorem dX3_takeAtom_22 : decode cX3_takeAtom 22 = .ok (.aload_n 0, 1) := by decide +kernel
theorem dX3_takeAtom_23 : decode cX3_takeAtom 23 = .ok (.iload_n 1, 1) := by decide +kernel
theorem dX3_takeAtom_24 : decode cX3_takeAtom 24 = .ok (.ifCond .ne 7, 3) := by decide +kernel
theorem dX3_takeAtom_27 : decode cX3_takeAtom 27 = .ok (.iconst 0, 1) := by decide +kernel
theorem dX3_takeAtom_28 : decode cX3_takeAtom 28 = .ok (.goto 9, 3) := by decide +kernel
theorem dX3_takeAtom_31 : decode cX3_takeAtom 31 = .ok (.aload_n 0, 1) := by decide +kernel
theorem dX3_takeAtom_32 : decode cX3_takeAtom 32 = .ok (.getfield 102, 3) := by decide +kernel
theorem dX3_takeAtom_35 : decode cX3_takeAtom 35 = .ok (.iload_n 1, 1) := by decide +kernel
theorem dX3_takeAtom_36 : decode cX3_takeAtom 36 = .ok (.irem, 1) := by decide +kernel
theorem dX3_takeAtom_37 : decode cX3_takeAtom 37 = .ok (.putfield 102, 3) := by decide +kernel
theorem dX3_takeAtom_40 : decode cX3_takeAtom 40 = .ok (.return_, 1) := by decide +kernel
def f_X3_takeAtom (a0 : Nat) (x1 : Int32) (M : Mem) : Option Mem := if (mI M a0 9) = (42 : Int32) then some (sI M a0 8 ((mI M a0 8) * x1)) else if x1 = 0 then some (sI M a0 8 (0 : Int32)) else gd (¬ x1 = 0) (some (sI M a0 8 (jrem (mI M a0 8) x1)))
set_option maxRecDepth 100000 in
set_option maxHeartbeats 4000000 in
theorem c_X3_takeAtom (Z : Sys) {M : Mem} (hs : St M) (a0 : Nat) (x1 : Int32) (k_a0 : K0[a0]? = some (3, 11)) {q : Mem} (hf : f_X3_takeAtom a0 x1 M = some q) : Ct Z yX3_takeAtom cX3_takeAtom 2 none rm_X3_takeAtom [.ref (zs Z + a0), .int x1] M False (PostV q) := by
  refine Ct.of (by decide +kernel) (Nat.le_of_ble_eq_true rfl) (fun X hR hq _ => ?_)
  show G Z X Y_X3_takeAtom False 0 0 0 [(0, .ref (zs Z + a0)), (1, .int x1)] [] M
  replace hq : RetOk Z X none False (PostV q) 0 0 := hq
  unfold f_X3_takeAtom at hf
  refine G.aload_n 0 0 dX3_takeAtom_0 rfl rfl ?_
  refine G.geti 1 ck_3 9 (hs.k k_a0) (by decide) (by decide +kernel) wd_136 dX3_takeAtom_1 ?_
  refine G.bipush 4 (42 : Int32) dX3_takeAtom_4 (by decide +kernel) ?_
  refine G.icmp_ne 6 22 dX3_takeAtom_6 (by decide) (fun h1 => ?_) (fun h1 => ?_)
  · replace hf := (if_neg h1).symm.trans hf
    refine G.aload_n 22 0 dX3_takeAtom_22 rfl rfl ?_
    refine G.iload_n 23 1 dX3_takeAtom_23 rfl rfl ?_
    refine G.if_ne 24 31 dX3_takeAtom_24 (by decide) (fun h2 => ?_) (fun h2 => ?_)
    · replace hf := (if_neg h2).symm.trans hf
      refine G.aload_n 31 0 dX3_takeAtom_31 rfl rfl ?_
      refine G.geti 32 ck_3 8 (hs.k k_a0) (by decide) (by decide +kernel) wd_135 dX3_takeAtom_32 ?_
      refine G.iload_n 35 1 dX3_takeAtom_35 rfl rfl ?_
      obtain ⟨g3, hf⟩ := gd_e hf
      refine G.iremJ 36 dX3_takeAtom_36 g3 ?_
      refine G.puti 37 ck_3 8 (hs.k k_a0) (by decide) (by decide +kernel) rfl wd_135 rfl rfl dX3_takeAtom_37 ?_
      (have hf9 := Option.some.inj hf; subst hf9)
      exact G.rV 40 hq dX3_takeAtom_40 (St.i hs)
    · replace hf := (if_pos h2).symm.trans hf
      refine G.iconst 27 (0 : Int32) dX3_takeAtom_27 (by decide +kernel) ?_
      refine G.goto 28 37 dX3_takeAtom_28 (by decide) ?_
      refine G.puti 37 ck_3 8 (hs.k k_a0) (by decide) (by decide +kernel) rfl wd_135 rfl rfl dX3_takeAtom_37 ?_
      (have hf9 := Option.some.inj hf; subst hf9)
      exact G.rV 40 hq dX3_takeAtom_40 (St.i hs)
  · replace hf := (if_pos h1).symm.trans hf
    refine G.aload_n 9 0 dX3_takeAtom_9 rfl rfl ?_
    refine G.dup 10 dX3_takeAtom_10 rfl ?_
    refine G.geti 11 ck_3 8 (hs.k k_a0) (by decide) (by decide +kernel) wd_135 dX3_takeAtom_11 ?_
    refine G.iload_n 14 1 dX3_takeAtom_14 rfl rfl ?_
    refine G.imul 15 dX3_takeAtom_15 ?_
    refine G.puti 16 ck_3 8 (hs.k k_a0) (by decide) (by decide +kernel) rfl wd_135 rfl rfl dX3_takeAtom_16 ?_
    refine G.goto 19 40 dX3_takeAtom_19 (by decide) ?_
    (have hf9 := Option.some.inj hf; subst hf9)
    exact G.rV 40 hq dX3_takeAtom_40 (St.i hs)
abbrev Y_X2_isDigit : My := (cX2_isDigit, RX2, 1)
def rm_X2_isDigit : Room := { frames := 1, cells := 0, slots := 0, locals := 200 }
theorem dX2_isDigit_0 : decode cX2_isDigit 0 = .ok (.iload_n 0, 1) := by decide +kernel
theorem dX2_isDigit_1 : decode cX2_isDigit 1 = .ok (.bipush 48, 2) := by decide +kernel
theorem dX2_isDigit_3 : decode cX2_isDigit 3 = .ok (.if_icmp .lt 13, 3) := by decide +kernel
theorem dX2_isDigit_6 : decode cX2_isDigit 6 = .ok (.iload_n 0, 1) := by decide +kernel
theorem dX2_isDigit_7 : decode cX2_isDigit 7 = .ok (.bipush 57, 2) := by decide +kernel
theorem dX2_isDigit_9 : decode cX2_isDigit 9 = .ok (.if_icmp .gt 7, 3) := by decide +kernel
theorem dX2_isDigit_12 : decode cX2_isDigit 12 = .ok (.iconst 1, 1) := by decide +kernel
theorem dX2_isDigit_13 : decode cX2_isDigit 13 = .ok (.goto 4, 3) := by decide +kernel
theorem dX2_isDigit_16 : decode cX2_isDigit 16 = .ok (.iconst 0, 1) := by decide +kernel
theorem dX2_isDigit_17 : decode cX2_isDigit 17 = .ok (.ireturn, 1) := by decide +kernel
def f_X2_isDigit (x0 : Int32) : Int32 := if x0 < (48 : Int32) then (0 : Int32) else if (57 : Int32) < x0 then (0 : Int32) else (1 : Int32)
set_option maxRecDepth 100000 in
set_option maxHeartbeats 4000000 in
theorem c_X2_isDigit (Z : Sys) {M : Mem} (hs : St M) (x0 : Int32) {q : Int32} (hf : f_X2_isDigit x0 = q) : Ct Z yX2_isDigit cX2_isDigit 1 (some .boolean) rm_X2_isDigit [.int x0] M False (PostZ q M) := by
  refine Ct.of (by decide +kernel) (Nat.le_of_ble_eq_true rfl) (fun X hR hq _ => ?_)
  show G Z X Y_X2_isDigit False 0 0 0 [(0, .int x0)] [] M
  replace hq : RetOk Z X (some .boolean) False (PostZ q M) 0 0 := hq
  unfold f_X2_isDigit at hf
  refine G.iload_n 0 0 dX2_isDigit_0 rfl rfl ?_
  refine G.bipush 1 (48 : Int32) dX2_isDigit_1 (by decide +kernel) ?_
  refine G.icmp_lt 3 16 dX2_isDigit_3 (by decide) (fun h1 => ?_) (fun h1 => ?_)
  · replace hf := (if_pos h1).symm.trans hf
    refine G.iconst 16 (0 : Int32) dX2_isDigit_16 (by decide +kernel) ?_
    subst hf
    exact G.rZ 17 hq dX2_isDigit_17 hs (Or.inl rfl)
  · replace hf := (if_neg h1).symm.trans hf
    refine G.iload_n 6 0 dX2_isDigit_6 rfl rfl ?_
    refine G.bipush 7 (57 : Int32) dX2_isDigit_7 (by decide +kernel) ?_
    refine G.icmp_gt 9 16 dX2_isDigit_9 (by decide) (fun h2 => ?_) (fun h2 => ?_)
    · replace hf := (if_pos h2).symm.trans hf
      refine G.iconst 16 (0 : Int32) dX2_isDigit_16 (by decide +kernel) ?_
      subst hf
      exact G.rZ 17 hq dX2_isDigit_17 hs (Or.inl rfl)
    · replace hf := (if_neg h2).symm.trans hf
      refine G.iconst 12 (1 : Int32) dX2_isDigit_12 (by decide +kernel) ?_
      refine G.goto 13 17 dX2_isDigit_13 (by decide) ?_
      subst hf
      exact G.rZ 17 hq dX2_isDigit_17 hs (Or.inr rfl)
abbrev Y_X3_takeDigit : My := (cX3_takeDigit, RX3, 3)
def rm_X3_takeDigit : Room := { frames := 2, cells := 0, slots := 0, locals := 221 }
theorem dX3_takeDigit_0 : decode cX3_takeDigit 0 = .ok (.aload_n 0, 1) := by decide +kernel
theorem dX3_takeDigit_1 : decode cX3_takeDigit 1 = .ok (.aload_n 0, 1) := by decide +kernel
theorem dX3_takeDigit_2 : decode cX3_takeDigit 2 = .ok (.getfield 34, 3) := by decide +kernel
theorem dX3_takeDigit_5 : decode cX3_takeDigit 5 = .ok (.bipush 10, 2) := by decide +kernel
theorem dX3_takeDigit_7 : decode cX3_takeDigit 7 = .ok (.imul, 1) := by decide +kernel
theorem dX3_takeDigit_8 : decode cX3_takeDigit 8 = .ok (.iload_n 1, 1) := by decide +kernel
theorem dX3_takeDigit_9 : decode cX3_takeDigit 9 = .ok (.iadd, 1) := by decide +kernel
theorem dX3_takeDigit_10 : decode cX3_takeDigit 10 = .ok (.putfield 34, 3) := by decide +kernel
theorem dX3_takeDigit_13 : decode cX3_takeDigit 13 = .ok (.iload_n 2, 1) := by decide +kernel
theorem dX3_takeDigit_14 : decode cX3_takeDigit 14 = .ok (.ifCond .eq 16, 3) := by decide +kernel
theorem dX3_takeDigit_17 : decode cX3_takeDigit 17 = .ok (.aload_n 0, 1) := by decide +kernel
theorem dX3_takeDigit_18 : decode cX3_takeDigit 18 = .ok (.aload_n 0, 1) := by decide +kernel
theorem dX3_takeDigit_19 : decode cX3_takeDigit 19 = .ok (.getfield 34, 3) := by decide +kernel
theorem dX3_takeDigit_22 : decode cX3_takeDigit 22 = .ok (.invokevirtual 45, 3) := by decide +kernel
theorem dX3_takeDigit_25 : decode cX3_takeDigit 25 = .ok (.aload_n 0, 1) := by decide +kernel
theorem dX3_takeDigit_26 : decode cX3_takeDigit 26 = .ok (.iconst 0, 1) := by decide +kernel
theorem dX3_takeDigit_27 : decode cX3_takeDigit 27 = .ok (.putfield 34, 3) := by decide +kernel
theorem dX3_takeDigit_30 : decode cX3_takeDigit 30 = .ok (.return_, 1) := by decide +kernel
def f_X3_takeDigit (a0 : Nat) (x1 : Int32) (x2 : Int32) (M : Mem) : Option Mem := if x2 = 0 then some (sI M a0 10 (((mI M a0 10) * (10 : Int32)) + x1)) else (f_X3_takeAtom a0 (mI (sI M a0 10 (((mI M a0 10) * (10 : Int32)) + x1)) a0 10) (sI M a0 10 (((mI M a0 10) * (10 : Int32)) + x1))).bind fun q4 => some (sI q4 a0 10 (0 : Int32))
set_option maxRecDepth 100000 in
set_option maxHeartbeats 4000000 in
theorem c_X3_takeDigit (Z : Sys) {M : Mem} (hs : St M) (a0 : Nat) (x1 : Int32) (x2 : Int32) (k_a0 : K0[a0]? = some (3, 11)) {q : Mem} (hf : f_X3_takeDigit a0 x1 x2 M = some q) : Ct Z yX3_takeDigit cX3_takeDigit 3 none rm_X3_takeDigit [.ref (zs Z + a0), .int x1, .int x2] M False (PostV q) := by
  refine Ct.of (by decide +kernel) (Nat.le_of_ble_eq_true rfl) (fun X hR hq _ => ?_)
  show G Z X Y_X3_takeDigit False 0 0 0 [(0, .ref (zs Z + a0)), (1, .int x1), (2, .int x2)] [] M
  replace hq : RetOk Z X none False (PostV q) 0 0 := hq
  unfold f_X3_takeDigit at hf
  refine G.aload_n 0 0 dX3_takeDigit_0 rfl rfl ?_
  refine G.aload_n 1 0 dX3_takeDigit_1 rfl rfl ?_
  refine G.geti 2 ck_3 10 (hs.k k_a0) (by decide) (by decide +kernel) wd_137 dX3_takeDigit_2 ?_
  refine G.bipush 5 (10 : Int32) dX3_takeDigit_5 (by decide +kernel) ?_
  refine G.imul 7 dX3_takeDigit_7 ?_
  refine G.iload_n 8 1 dX3_takeDigit_8 rfl rfl ?_
  refine G.iadd 9 dX3_takeDigit_9 ?_
  refine G.puti 10 ck_3 10 (hs.k k_a0) (by decide) (by decide +kernel) rfl wd_137 rfl rfl dX3_takeDigit_10 ?_
  refine G.iload_n 13 2 dX3_takeDigit_13 rfl rfl ?_
  refine G.if_eq 14 30 dX3_takeDigit_14 (by decide) (fun h1 => ?_) (fun h1 => ?_)
  · replace hf := (if_pos h1).symm.trans hf
    (have hf9 := Option.some.inj hf; subst hf9)
    exact G.rV 30 hq dX3_takeDigit_30 (St.i hs)
  · replace hf := (if_neg h1).symm.trans hf
    refine G.aload_n 17 0 dX3_takeDigit_17 rfl rfl ?_
    refine G.aload_n 18 0 dX3_takeDigit_18 rfl rfl ?_
    refine G.geti 19 ck_3 10 ((St.i hs).k k_a0) (by decide) (by decide +kernel) wd_137 dX3_takeDigit_19 ?_
    obtain ⟨q4, e5, hf⟩ := bd_e hf
    refine G.cvV 22 (As := [.int (mI (sI M a0 10 (((mI M a0 10) * (10 : Int32)) + x1)) a0 10)]) ck_3 ((St.i hs).k k_a0) (c_X3_takeAtom Z (St.i hs) a0 (mI (sI M a0 10 (((mI M a0 10) * (10 : Int32)) + x1)) a0 10) k_a0 e5) mk_X3_takeAtom vk_X3_takeAtom rfl wd_1045 hR (by decide +kernel) ⟨rfl, rfl⟩ rfl (Nat.le_of_ble_eq_true rfl) dX3_takeDigit_22 (fun hs2 => ?_)
    refine G.aload_n 25 0 dX3_takeDigit_25 rfl rfl ?_
    refine G.iconst 26 (0 : Int32) dX3_takeDigit_26 (by decide +kernel) ?_
    refine G.puti 27 ck_3 10 (hs2.k k_a0) (by decide) (by decide +kernel) rfl wd_137 rfl rfl dX3_takeDigit_27 ?_
    (have hf9 := Option.some.inj hf; subst hf9)
    exact G.rV 30 hq dX3_takeDigit_30 (St.i hs2)
abbrev Y_X3_endProduct : My := (cX3_endProduct, RX3, 1)
def rm_X3_endProduct : Room := { frames := 2, cells := 0, slots := 0, locals := 220 }
theorem dX3_endProduct_0 : decode cX3_endProduct 0 = .ok (.aload_n 0, 1) := by decide +kernel
theorem dX3_endProduct_1 : decode cX3_endProduct 1 = .ok (.aload_n 0, 1) := by decide +kernel
theorem dX3_endProduct_2 : decode cX3_endProduct 2 = .ok (.getfield 96, 3) := by decide +kernel
theorem dX3_endProduct_5 : decode cX3_endProduct 5 = .ok (.bipush 45, 2) := by decide +kernel
theorem dX3_endProduct_7 : decode cX3_endProduct 7 = .ok (.if_icmp .ne 15, 3) := by decide +kernel
theorem dX3_endProduct_10 : decode cX3_endProduct 10 = .ok (.aload_n 0, 1) := by decide +kernel
theorem dX3_endProduct_11 : decode cX3_endProduct 11 = .ok (.getfield 93, 3) := by decide +kernel
theorem dX3_endProduct_14 : decode cX3_endProduct 14 = .ok (.aload_n 0, 1) := by decide +kernel
theorem dX3_endProduct_15 : decode cX3_endProduct 15 = .ok (.getfield 102, 3) := by decide +kernel
theorem dX3_endProduct_18 : decode cX3_endProduct 18 = .ok (.isub, 1) := by decide +kernel
theorem dX3_endProduct_19 : decode cX3_endProduct 19 = .ok (.goto 12, 3) := by decide +kernel
theorem dX3_endProduct_22 : decode cX3_endProduct 22 = .ok (.aload_n 0, 1) := by decide +kernel
theorem dX3_endProduct_23 : decode cX3_endProduct 23 = .ok (.getfield 93, 3) := by decide +kernel
theorem dX3_endProduct_26 : decode cX3_endProduct 26 = .ok (.aload_n 0, 1) := by decide +kernel
theorem dX3_endProduct_27 : decode cX3_endProduct 27 = .ok (.getfield 102, 3) := by decide +kernel
theorem dX3_endProduct_30 : decode cX3_endProduct 30 = .ok (.iadd, 1) := by decide +kernel
theorem dX3_endProduct_31 : decode cX3_endProduct 31 = .ok (.putfield 93, 3) := by decide +kernel
theorem dX3_endProduct_34 : decode cX3_endProduct 34 = .ok (.aload_n 0, 1) := by decide +kernel
theorem dX3_endProduct_35 : decode cX3_endProduct 35 = .ok (.invokevirtual 99, 3) := by decide +kernel
theorem dX3_endProduct_38 : decode cX3_endProduct 38 = .ok (.return_, 1) := by decide +kernel
def f_X3_endProduct (a0 : Nat) (M : Mem) : Option Mem := if (mI M a0 7) = (45 : Int32) then (f_X3_beginProduct a0 (sI M a0 6 ((mI M a0 6) - (mI M a0 8)))).bind fun q8 => some q8 else (f_X3_beginProduct a0 (sI M a0 6 ((mI M a0 6) + (mI M a0 8)))).bind fun q4 => some q4
set_option maxRecDepth 100000 in
set_option maxHeartbeats 4000000 in
theorem c_X3_endProduct (Z : Sys) {M : Mem} (hs : St M) (a0 : Nat) (k_a0 : K0[a0]? = some (3, 11)) {q : Mem} (hf : f_X3_endProduct a0 M = some q) : Ct Z yX3_endProduct cX3_endProduct 1 none rm_X3_endProduct [.ref (zs Z + a0)] M False (PostV q) := by
  refine Ct.of (by decide +kernel) (Nat.le_of_ble_eq_true rfl) (fun X hR hq _ => ?_)
  show G Z X Y_X3_endProduct False 0 0 0 [(0, .ref (zs Z + a0))] [] M
  replace hq : RetOk Z X none False (PostV q) 0 0 := hq
  unfold f_X3_endProduct at hf
  refine G.aload_n 0 0 dX3_endProduct_0 rfl rfl ?_
  refine G.aload_n 1 0 dX3_endProduct_1 rfl rfl ?_
  refine G.geti 2 ck_3 7 (hs.k k_a0) (by decide) (by decide +kernel) wd_134 dX3_endProduct_2 ?_
  refine G.bipush 5 (45 : Int32) dX3_endProduct_5 (by decide +kernel) ?_
  refine G.icmp_ne 7 22 dX3_endProduct_7 (by decide) (fun h1 => ?_) (fun h1 => ?_)
  · replace hf := (if_neg h1).symm.trans hf
    refine G.aload_n 22 0 dX3_endProduct_22 rfl rfl ?_
    refine G.geti 23 ck_3 6 (hs.k k_a0) (by decide) (by decide +kernel) wd_133 dX3_endProduct_23 ?_
    refine G.aload_n 26 0 dX3_endProduct_26 rfl rfl ?_
    refine G.geti 27 ck_3 8 (hs.k k_a0) (by decide) (by decide +kernel) wd_135 dX3_endProduct_27 ?_
    refine G.iadd 30 dX3_endProduct_30 ?_
    refine G.puti 31 ck_3 6 (hs.k k_a0) (by decide) (by decide +kernel) rfl wd_133 rfl rfl dX3_endProduct_31 ?_
    refine G.aload_n 34 0 dX3_endProduct_34 rfl rfl ?_
    obtain ⟨q4, e5, hf⟩ := bd_e hf
    refine G.cvV 35 (As := []) ck_3 ((St.i hs).k k_a0) (c_X3_beginProduct Z (St.i hs) a0 k_a0 e5) mk_X3_beginProduct vk_X3_beginProduct rfl wd_1036 hR (by decide +kernel) ⟨rfl, rfl⟩ rfl (Nat.le_of_ble_eq_true rfl) dX3_endProduct_35 (fun hs2 => ?_)
    (have hf9 := Option.some.inj hf; subst hf9)
    exact G.rV 38 hq dX3_endProduct_38 hs2
  · replace hf := (if_pos h1).symm.trans hf
    refine G.aload_n 10 0 dX3_endProduct_10 rfl rfl ?_
    refine G.geti 11 ck_3 6 (hs.k k_a0) (by decide) (by decide +kernel) wd_133 dX3_endProduct_11 ?_
    refine G.aload_n 14 0 dX3_endProduct_14 rfl rfl ?_
    refine G.geti 15 ck_3 8 (hs.k k_a0) (by decide) (by decide +kernel) wd_135 dX3_endProduct_15 ?_
    refine G.isub 18 dX3_endProduct_18 ?_
    refine G.goto 19 31 dX3_endProduct_19 (by decide) ?_
    refine G.puti 31 ck_3 6 (hs.k k_a0) (by decide) (by decide +kernel) rfl wd_133 rfl rfl dX3_endProduct_31 ?_
    refine G.aload_n 34 0 dX3_endProduct_34 rfl rfl ?_
    obtain ⟨q8, e9, hf⟩ := bd_e hf
    refine G.cvV 35 (As := []) ck_3 ((St.i hs).k k_a0) (c_X3_beginProduct Z (St.i hs) a0 k_a0 e9) mk_X3_beginProduct vk_X3_beginProduct rfl wd_1036 hR (by decide +kernel) ⟨rfl, rfl⟩ rfl (Nat.le_of_ble_eq_true rfl) dX3_endProduct_35 (fun hs6 => ?_)
    (have hf9 := Option.some.inj hf; subst hf9)
    exact G.rV 38 hq dX3_endProduct_38 hs6
abbrev Y_X3_compared : My := (cX3_compared, RX3, 1)
def rm_X3_compared : Room := { frames := 1, cells := 0, slots := 0, locals := 200 }
theorem dX3_compared_0 : decode cX3_compared 0 = .ok (.aload_n 0, 1) := by decide +kernel
theorem dX3_compared_1 : decode cX3_compared 1 = .ok (.getfield 31, 3) := by decide +kernel
theorem dX3_compared_4 : decode cX3_compared 4 = .ok (.lookupswitch 62 #[(60, 28), (62, 45)], 28) := by decide +kernel
theorem dX3_compared_32 : decode cX3_compared 32 = .ok (.aload_n 0, 1) := by decide +kernel
theorem dX3_compared_33 : decode cX3_compared 33 = .ok (.getfield 111, 3) := by decide +kernel
theorem dX3_compared_36 : decode cX3_compared 36 = .ok (.aload_n 0, 1) := by decide +kernel
theorem dX3_compared_37 : decode cX3_compared 37 = .ok (.getfield 93, 3) := by decide +kernel
theorem dX3_compared_40 : decode cX3_compared 40 = .ok (.if_icmp .ge 7, 3) := by decide +kernel
theorem dX3_compared_43 : decode cX3_compared 43 = .ok (.iconst 1, 1) := by decide +kernel
theorem dX3_compared_44 : decode cX3_compared 44 = .ok (.goto 4, 3) := by decide +kernel
theorem dX3_compared_47 : decode cX3_compared 47 = .ok (.iconst 0, 1) := by decide +kernel
theorem dX3_compared_48 : decode cX3_compared 48 = .ok (.ireturn, 1) := by decide +kernel
theorem dX3_compared_49 : decode cX3_compared 49 = .ok (.aload_n 0, 1) := by decide +kernel
theorem dX3_compared_50 : decode cX3_compared 50 = .ok (.getfield 111, 3) := by decide +kernel
theorem dX3_compared_53 : decode cX3_compared 53 = .ok (.aload_n 0, 1) := by decide +kernel
theorem dX3_compared_54 : decode cX3_compared 54 = .ok (.getfield 93, 3) := by decide +kernel
theorem dX3_compared_57 : decode cX3_compared 57 = .ok (.if_icmp .le 7, 3) := by decide +kernel
theorem dX3_compared_60 : decode cX3_compared 60 = .ok (.iconst 1, 1) := by decide +kernel
theorem dX3_compared_61 : decode cX3_compared 61 = .ok (.goto 4, 3) := by decide +kernel
theorem dX3_compared_64 : decode cX3_compared 64 = .ok (.iconst 0, 1) := by decide +kernel
theorem dX3_compared_65 : decode cX3_compared 65 = .ok (.ireturn, 1) := by decide +kernel
theorem dX3_compared_66 : decode cX3_compared 66 = .ok (.aload_n 0, 1) := by decide +kernel
theorem dX3_compared_67 : decode cX3_compared 67 = .ok (.getfield 111, 3) := by decide +kernel
theorem dX3_compared_70 : decode cX3_compared 70 = .ok (.aload_n 0, 1) := by decide +kernel
theorem dX3_compared_71 : decode cX3_compared 71 = .ok (.getfield 93, 3) := by decide +kernel
theorem dX3_compared_74 : decode cX3_compared 74 = .ok (.if_icmp .ne 7, 3) := by decide +kernel
theorem dX3_compared_77 : decode cX3_compared 77 = .ok (.iconst 1, 1) := by decide +kernel
theorem dX3_compared_78 : decode cX3_compared 78 = .ok (.goto 4, 3) := by decide +kernel
theorem dX3_compared_81 : decode cX3_compared 81 = .ok (.iconst 0, 1) := by decide +kernel
theorem dX3_compared_82 : decode cX3_compared 82 = .ok (.ireturn, 1) := by decide +kernel
def f_X3_compared (a0 : Nat) (M : Mem) : Int32 := if (mI M a0 5) = (60 : Int32) then if (mI M a0 6) ≤ (mI M a0 4) then (0 : Int32) else (1 : Int32) else if (mI M a0 5) = (62 : Int32) then if (mI M a0 4) ≤ (mI M a0 6) then (0 : Int32) else (1 : Int32) else if (mI M a0 4) = (mI M a0 6) then (1 : Int32) else (0 : Int32)
set_option maxRecDepth 100000 in
set_option maxHeartbeats 4000000 in
theorem c_X3_compared (Z : Sys) {M : Mem} (hs : St M) (a0 : Nat) (k_a0 : K0[a0]? = some (3, 11)) {q : Int32} (hf : f_X3_compared a0 M = q) : Ct Z yX3_compared cX3_compared 1 (some .boolean) rm_X3_compared [.ref (zs Z + a0)] M False (PostZ q M) := by
  refine Ct.of (by decide +kernel) (Nat.le_of_ble_eq_true rfl) (fun X hR hq _ => ?_)
  show G Z X Y_X3_compared False 0 0 0 [(0, .ref (zs Z + a0))] [] M
  replace hq : RetOk Z X (some .boolean) False (PostZ q M) 0 0 := hq
  unfold f_X3_compared at hf
  refine G.aload_n 0 0 dX3_compared_0 rfl rfl ?_
  refine G.geti 1 ck_3 5 (hs.k k_a0) (by decide) (by decide +kernel) wd_132 dX3_compared_1 ?_
  by_cases h1 : (mI M a0 5) = (60 : Int32)
  · replace hf := (if_pos h1).symm.trans hf
    refine G.lookup 4 32 (off := 28) dX3_compared_4 (by decide +kernel) (by rw [h1]; decide +kernel) (by decide) ?_
    refine G.aload_n 32 0 dX3_compared_32 rfl rfl ?_
    refine G.geti 33 ck_3 4 (hs.k k_a0) (by decide) (by decide +kernel) wd_131 dX3_compared_33 ?_
    refine G.aload_n 36 0 dX3_compared_36 rfl rfl ?_
    refine G.geti 37 ck_3 6 (hs.k k_a0) (by decide) (by decide +kernel) wd_133 dX3_compared_37 ?_
    refine G.icmp_ge 40 47 dX3_compared_40 (by decide) (fun h2 => ?_) (fun h2 => ?_)
    · replace hf := (if_pos h2).symm.trans hf
      refine G.iconst 47 (0 : Int32) dX3_compared_47 (by decide +kernel) ?_
      subst hf
      exact G.rZ 48 hq dX3_compared_48 hs (Or.inl rfl)
    · replace hf := (if_neg h2).symm.trans hf
      refine G.iconst 43 (1 : Int32) dX3_compared_43 (by decide +kernel) ?_
      refine G.goto 44 48 dX3_compared_44 (by decide) ?_
      subst hf
      exact G.rZ 48 hq dX3_compared_48 hs (Or.inr rfl)
  · replace hf := (if_neg h1).symm.trans hf
    by_cases h3 : (mI M a0 5) = (62 : Int32)
    · replace hf := (if_pos h3).symm.trans hf
      refine G.lookup 4 49 (off := 45) dX3_compared_4 (by decide +kernel) (by rw [h3]; decide +kernel) (by decide) ?_
      refine G.aload_n 49 0 dX3_compared_49 rfl rfl ?_
      refine G.geti 50 ck_3 4 (hs.k k_a0) (by decide) (by decide +kernel) wd_131 dX3_compared_50 ?_
      refine G.aload_n 53 0 dX3_compared_53 rfl rfl ?_
      refine G.geti 54 ck_3 6 (hs.k k_a0) (by decide) (by decide +kernel) wd_133 dX3_compared_54 ?_
      refine G.icmp_le 57 64 dX3_compared_57 (by decide) (fun h4 => ?_) (fun h4 => ?_)
      · replace hf := (if_pos h4).symm.trans hf
        refine G.iconst 64 (0 : Int32) dX3_compared_64 (by decide +kernel) ?_
        subst hf
        exact G.rZ 65 hq dX3_compared_65 hs (Or.inl rfl)
      · replace hf := (if_neg h4).symm.trans hf
        refine G.iconst 60 (1 : Int32) dX3_compared_60 (by decide +kernel) ?_
        refine G.goto 61 65 dX3_compared_61 (by decide) ?_
        subst hf
        exact G.rZ 65 hq dX3_compared_65 hs (Or.inr rfl)
    · replace hf := (if_neg h3).symm.trans hf
      have t_h1 := ti (60 : Int32) (60) (by decide +kernel) h1
      have t_h3 := ti (62 : Int32) (62) (by decide +kernel) h3
      refine G.lookup 4 66 dX3_compared_4 (by decide +kernel) (lk_d (by intro a ha; simp at ha; omega)) (by decide) ?_
      refine G.aload_n 66 0 dX3_compared_66 rfl rfl ?_
      refine G.geti 67 ck_3 4 (hs.k k_a0) (by decide) (by decide +kernel) wd_131 dX3_compared_67 ?_
      refine G.aload_n 70 0 dX3_compared_70 rfl rfl ?_
      refine G.geti 71 ck_3 6 (hs.k k_a0) (by decide) (by decide +kernel) wd_133 dX3_compared_71 ?_
      refine G.icmp_ne 74 81 dX3_compared_74 (by decide) (fun h5 => ?_) (fun h5 => ?_)
      · replace hf := (if_neg h5).symm.trans hf
        refine G.iconst 81 (0 : Int32) dX3_compared_81 (by decide +kernel) ?_
        subst hf
        exact G.rZ 82 hq dX3_compared_82 hs (Or.inl rfl)
      · replace hf := (if_pos h5).symm.trans hf
        refine G.iconst 77 (1 : Int32) dX3_compared_77 (by decide +kernel) ?_
        refine G.goto 78 82 dX3_compared_78 (by decide) ?_
        subst hf
        exact G.rZ 82 hq dX3_compared_82 hs (Or.inr rfl)
