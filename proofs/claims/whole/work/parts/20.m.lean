abbrev Y_J0_coder_7d493 : My := (cJ0_coder_7d493, RJ0, 1)
def rm_J0_coder_7d493 : Room := { frames := 1, cells := 0, slots := 0, locals := 200 }
theorem dJ0_coder_7d493_0 : decode cJ0_coder_7d493 0 = .ok (.getstatic 38, 3) := by decide +kernel
theorem dJ0_coder_7d493_3 : decode cJ0_coder_7d493 3 = .ok (.ifCond .eq 10, 3) := by decide +kernel
theorem dJ0_coder_7d493_6 : decode cJ0_coder_7d493 6 = .ok (.aload_n 0, 1) := by decide +kernel
theorem dJ0_coder_7d493_7 : decode cJ0_coder_7d493 7 = .ok (.getfield 15, 3) := by decide +kernel
theorem dJ0_coder_7d493_10 : decode cJ0_coder_7d493 10 = .ok (.goto 4, 3) := by decide +kernel
theorem dJ0_coder_7d493_13 : decode cJ0_coder_7d493 13 = .ok (.iconst 1, 1) := by decide +kernel
theorem dJ0_coder_7d493_14 : decode cJ0_coder_7d493 14 = .ok (.ireturn, 1) := by decide +kernel
def f_J0_coder_7d493 : Int32 := (0 : Int32)
set_option maxRecDepth 100000 in
set_option maxHeartbeats 4000000 in
theorem c_J0_coder_7d493 (Z : Sys) {M : Mem} (hs : St M) {q : Int32} (hf : f_J0_coder_7d493 = q) : Ct Z yJ0_coder_7d493 cJ0_coder_7d493 1 (some .byte) rm_J0_coder_7d493 [.ref (zK Z)] M False (PostI q M) := by
  refine Ct.of (by decide +kernel) (Nat.le_of_ble_eq_true rfl) (fun X hR hq _ => ?_)
  show G Z X Y_J0_coder_7d493 False 0 0 0 [(0, .ref (zK Z))] [] M
  replace hq : RetOk Z X (some .byte) False (PostI q M) 0 0 := hq
  unfold f_J0_coder_7d493 at hf
  refine G.gcs 0 wd_921 dJ0_coder_7d493_0 ?_
  refine G.if_eq 3 13 dJ0_coder_7d493_3 (by decide) (fun h => absurd h (by decide +kernel)) (fun _ => ?_)
  refine G.aload_n 6 0 dJ0_coder_7d493_6 rfl rfl ?_
  refine G.gcod 7 wd_1802 dJ0_coder_7d493_7 ?_
  refine G.goto 10 14 dJ0_coder_7d493_10 (by decide) ?_
  subst hf
  exact G.rB 14 hq (by decide +kernel) dJ0_coder_7d493_14 hs
abbrev Y_J0_isLatin1_aae02 : My := (cJ0_isLatin1_aae02, RJ0, 1)
def rm_J0_isLatin1_aae02 : Room := { frames := 1, cells := 0, slots := 0, locals := 200 }
theorem dJ0_isLatin1_aae02_0 : decode cJ0_isLatin1_aae02 0 = .ok (.getstatic 38, 3) := by decide +kernel
theorem dJ0_isLatin1_aae02_3 : decode cJ0_isLatin1_aae02 3 = .ok (.ifCond .eq 14, 3) := by decide +kernel
theorem dJ0_isLatin1_aae02_6 : decode cJ0_isLatin1_aae02 6 = .ok (.aload_n 0, 1) := by decide +kernel
theorem dJ0_isLatin1_aae02_7 : decode cJ0_isLatin1_aae02 7 = .ok (.getfield 15, 3) := by decide +kernel
theorem dJ0_isLatin1_aae02_10 : decode cJ0_isLatin1_aae02 10 = .ok (.ifCond .ne 7, 3) := by decide +kernel
theorem dJ0_isLatin1_aae02_13 : decode cJ0_isLatin1_aae02 13 = .ok (.iconst 1, 1) := by decide +kernel
theorem dJ0_isLatin1_aae02_14 : decode cJ0_isLatin1_aae02 14 = .ok (.goto 4, 3) := by decide +kernel
theorem dJ0_isLatin1_aae02_17 : decode cJ0_isLatin1_aae02 17 = .ok (.iconst 0, 1) := by decide +kernel
theorem dJ0_isLatin1_aae02_18 : decode cJ0_isLatin1_aae02 18 = .ok (.ireturn, 1) := by decide +kernel
def f_J0_isLatin1_aae02 : Int32 := (1 : Int32)
set_option maxRecDepth 100000 in
set_option maxHeartbeats 4000000 in
theorem c_J0_isLatin1_aae02 (Z : Sys) {M : Mem} (hs : St M) {q : Int32} (hf : f_J0_isLatin1_aae02 = q) : Ct Z yJ0_isLatin1_aae02 cJ0_isLatin1_aae02 1 (some .boolean) rm_J0_isLatin1_aae02 [.ref (zK Z)] M False (PostZ q M) := by
  refine Ct.of (by decide +kernel) (Nat.le_of_ble_eq_true rfl) (fun X hR hq _ => ?_)
  show G Z X Y_J0_isLatin1_aae02 False 0 0 0 [(0, .ref (zK Z))] [] M
  replace hq : RetOk Z X (some .boolean) False (PostZ q M) 0 0 := hq
  unfold f_J0_isLatin1_aae02 at hf
  refine G.gcs 0 wd_921 dJ0_isLatin1_aae02_0 ?_
  refine G.if_eq 3 17 dJ0_isLatin1_aae02_3 (by decide) (fun h => absurd h (by decide +kernel)) (fun _ => ?_)
  refine G.aload_n 6 0 dJ0_isLatin1_aae02_6 rfl rfl ?_
  refine G.gcod 7 wd_1802 dJ0_isLatin1_aae02_7 ?_
  refine G.if_ne 10 17 dJ0_isLatin1_aae02_10 (by decide) (fun h => absurd h (by decide +kernel)) (fun _ => ?_)
  refine G.iconst 13 (1 : Int32) dJ0_isLatin1_aae02_13 (by decide +kernel) ?_
  refine G.goto 14 18 dJ0_isLatin1_aae02_14 (by decide) ?_
  subst hf
  exact G.rZ 18 hq dJ0_isLatin1_aae02_18 hs (Or.inr rfl)
abbrev Y_J0_length_8abf5 : My := (cJ0_length_8abf5, RJ0, 1)
def rm_J0_length_8abf5 : Room := { frames := 2, cells := 0, slots := 0, locals := 220 }
theorem dJ0_length_8abf5_0 : decode cJ0_length_8abf5 0 = .ok (.aload_n 0, 1) := by decide +kernel
theorem dJ0_length_8abf5_1 : decode cJ0_length_8abf5 1 = .ok (.getfield 9, 3) := by decide +kernel
theorem dJ0_length_8abf5_4 : decode cJ0_length_8abf5 4 = .ok (.arraylength, 1) := by decide +kernel
theorem dJ0_length_8abf5_5 : decode cJ0_length_8abf5 5 = .ok (.aload_n 0, 1) := by decide +kernel
theorem dJ0_length_8abf5_6 : decode cJ0_length_8abf5 6 = .ok (.invokevirtual 335, 3) := by decide +kernel
theorem dJ0_length_8abf5_9 : decode cJ0_length_8abf5 9 = .ok (.ishr, 1) := by decide +kernel
theorem dJ0_length_8abf5_10 : decode cJ0_length_8abf5 10 = .ok (.ireturn, 1) := by decide +kernel
def f_J0_length_8abf5 : Int32 := ((10 : Int32) >>> ((0 : Int32) &&& 31))
set_option maxRecDepth 100000 in
set_option maxHeartbeats 4000000 in
theorem c_J0_length_8abf5 (Z : Sys) {M : Mem} (hs : St M) {q : Int32} (hf : f_J0_length_8abf5 = q) : Ct Z yJ0_length_8abf5 cJ0_length_8abf5 1 (some .int) rm_J0_length_8abf5 [.ref (zK Z)] M False (PostI q M) := by
  refine Ct.of (by decide +kernel) (Nat.le_of_ble_eq_true rfl) (fun X hR hq _ => ?_)
  show G Z X Y_J0_length_8abf5 False 0 0 0 [(0, .ref (zK Z))] [] M
  replace hq : RetOk Z X (some .int) False (PostI q M) 0 0 := hq
  unfold f_J0_length_8abf5 at hf
  refine G.aload_n 0 0 dJ0_length_8abf5_0 rfl rfl ?_
  refine G.gval 1 wd_1803 dJ0_length_8abf5_1 ?_
  refine G.lenF 4 dJ0_length_8abf5_4 ?_
  refine G.aload_n 5 0 dJ0_length_8abf5_5 rfl rfl ?_
  refine G.coI 6 (As := []) (c_J0_coder_7d493 Z hs (show _ = (0 : Int32) by decide +kernel)) mk_J0_coder_7d493 vk_J0_coder_7d493 rfl wd_927 hR (by decide +kernel) ⟨rfl, rfl⟩ rfl (Nat.le_of_ble_eq_true rfl) dJ0_length_8abf5_6 (fun hs1 => ?_)
  refine G.ishr 9 dJ0_length_8abf5_9 ?_
  subst hf
  exact G.rI 10 hq dJ0_length_8abf5_10 hs1
abbrev Y_J1_canEncode_9a6ad : My := (cJ1_canEncode_9a6ad, RJ1, 1)
def rm_J1_canEncode_9a6ad : Room := { frames := 1, cells := 0, slots := 0, locals := 200 }
theorem dJ1_canEncode_9a6ad_0 : decode cJ1_canEncode_9a6ad 0 = .ok (.iload_n 0, 1) := by decide +kernel
theorem dJ1_canEncode_9a6ad_1 : decode cJ1_canEncode_9a6ad 1 = .ok (.ifCond .lt 14, 3) := by decide +kernel
theorem dJ1_canEncode_9a6ad_4 : decode cJ1_canEncode_9a6ad 4 = .ok (.iload_n 0, 1) := by decide +kernel
theorem dJ1_canEncode_9a6ad_5 : decode cJ1_canEncode_9a6ad 5 = .ok (.sipush 255, 3) := by decide +kernel
theorem dJ1_canEncode_9a6ad_8 : decode cJ1_canEncode_9a6ad 8 = .ok (.if_icmp .gt 7, 3) := by decide +kernel
theorem dJ1_canEncode_9a6ad_11 : decode cJ1_canEncode_9a6ad 11 = .ok (.iconst 1, 1) := by decide +kernel
theorem dJ1_canEncode_9a6ad_12 : decode cJ1_canEncode_9a6ad 12 = .ok (.goto 4, 3) := by decide +kernel
theorem dJ1_canEncode_9a6ad_15 : decode cJ1_canEncode_9a6ad 15 = .ok (.iconst 0, 1) := by decide +kernel
theorem dJ1_canEncode_9a6ad_16 : decode cJ1_canEncode_9a6ad 16 = .ok (.ireturn, 1) := by decide +kernel
def f_J1_canEncode_9a6ad (x0 : Int32) : Int32 := if x0 < 0 then (0 : Int32) else if (255 : Int32) < x0 then (0 : Int32) else (1 : Int32)
set_option maxRecDepth 100000 in
set_option maxHeartbeats 4000000 in
theorem c_J1_canEncode_9a6ad (Z : Sys) {M : Mem} (hs : St M) (x0 : Int32) {q : Int32} (hf : f_J1_canEncode_9a6ad x0 = q) : Ct Z yJ1_canEncode_9a6ad cJ1_canEncode_9a6ad 1 (some .boolean) rm_J1_canEncode_9a6ad [.int x0] M False (PostZ q M) := by
  refine Ct.of (by decide +kernel) (Nat.le_of_ble_eq_true rfl) (fun X hR hq _ => ?_)
  show G Z X Y_J1_canEncode_9a6ad False 0 0 0 [(0, .int x0)] [] M
  replace hq : RetOk Z X (some .boolean) False (PostZ q M) 0 0 := hq
  unfold f_J1_canEncode_9a6ad at hf
  refine G.iload_n 0 0 dJ1_canEncode_9a6ad_0 rfl rfl ?_
  refine G.if_lt 1 15 dJ1_canEncode_9a6ad_1 (by decide) (fun h1 => ?_) (fun h1 => ?_)
  · replace hf := (if_pos h1).symm.trans hf
    refine G.iconst 15 (0 : Int32) dJ1_canEncode_9a6ad_15 (by decide +kernel) ?_
    subst hf
    exact G.rZ 16 hq dJ1_canEncode_9a6ad_16 hs (Or.inl rfl)
  · replace hf := (if_neg h1).symm.trans hf
    refine G.iload_n 4 0 dJ1_canEncode_9a6ad_4 rfl rfl ?_
    refine G.sipush 5 (255 : Int32) dJ1_canEncode_9a6ad_5 (by decide +kernel) ?_
    refine G.icmp_gt 8 15 dJ1_canEncode_9a6ad_8 (by decide) (fun h2 => ?_) (fun h2 => ?_)
    · replace hf := (if_pos h2).symm.trans hf
      refine G.iconst 15 (0 : Int32) dJ1_canEncode_9a6ad_15 (by decide +kernel) ?_
      subst hf
      exact G.rZ 16 hq dJ1_canEncode_9a6ad_16 hs (Or.inl rfl)
    · replace hf := (if_neg h2).symm.trans hf
      refine G.iconst 11 (1 : Int32) dJ1_canEncode_9a6ad_11 (by decide +kernel) ?_
      refine G.goto 12 16 dJ1_canEncode_9a6ad_12 (by decide) ?_
      subst hf
      exact G.rZ 16 hq dJ1_canEncode_9a6ad_16 hs (Or.inr rfl)
abbrev Y_J1_indexOfChar_4cfef : My := (cJ1_indexOfChar_4cfef, RJ1, 6)
def rm_J1_indexOfChar_4cfef : Room := { frames := 1, cells := 0, slots := 0, locals := 200 }
theorem dJ1_indexOfChar_4cfef_0 : decode cJ1_indexOfChar_4cfef 0 = .ok (.iload_n 1, 1) := by decide +kernel
theorem dJ1_indexOfChar_4cfef_1 : decode cJ1_indexOfChar_4cfef 1 = .ok (.i2b, 1) := by decide +kernel
theorem dJ1_indexOfChar_4cfef_2 : decode cJ1_indexOfChar_4cfef 2 = .ok (.istore 4, 2) := by decide +kernel
theorem dJ1_indexOfChar_4cfef_4 : decode cJ1_indexOfChar_4cfef 4 = .ok (.iload_n 2, 1) := by decide +kernel
theorem dJ1_indexOfChar_4cfef_5 : decode cJ1_indexOfChar_4cfef 5 = .ok (.istore 5, 2) := by decide +kernel
theorem dJ1_indexOfChar_4cfef_7 : decode cJ1_indexOfChar_4cfef 7 = .ok (.iload 5, 2) := by decide +kernel
theorem dJ1_indexOfChar_4cfef_9 : decode cJ1_indexOfChar_4cfef 9 = .ok (.iload_n 3, 1) := by decide +kernel
theorem dJ1_indexOfChar_4cfef_10 : decode cJ1_indexOfChar_4cfef 10 = .ok (.if_icmp .ge 21, 3) := by decide +kernel
theorem dJ1_indexOfChar_4cfef_13 : decode cJ1_indexOfChar_4cfef 13 = .ok (.aload_n 0, 1) := by decide +kernel
theorem dJ1_indexOfChar_4cfef_14 : decode cJ1_indexOfChar_4cfef 14 = .ok (.iload 5, 2) := by decide +kernel
theorem dJ1_indexOfChar_4cfef_16 : decode cJ1_indexOfChar_4cfef 16 = .ok (.baload, 1) := by decide +kernel
theorem dJ1_indexOfChar_4cfef_17 : decode cJ1_indexOfChar_4cfef 17 = .ok (.iload 4, 2) := by decide +kernel
theorem dJ1_indexOfChar_4cfef_19 : decode cJ1_indexOfChar_4cfef 19 = .ok (.if_icmp .ne 6, 3) := by decide +kernel
theorem dJ1_indexOfChar_4cfef_22 : decode cJ1_indexOfChar_4cfef 22 = .ok (.iload 5, 2) := by decide +kernel
theorem dJ1_indexOfChar_4cfef_24 : decode cJ1_indexOfChar_4cfef 24 = .ok (.ireturn, 1) := by decide +kernel
theorem dJ1_indexOfChar_4cfef_25 : decode cJ1_indexOfChar_4cfef 25 = .ok (.iinc 5 1, 3) := by decide +kernel
theorem dJ1_indexOfChar_4cfef_28 : decode cJ1_indexOfChar_4cfef 28 = .ok (.goto (-21), 3) := by decide +kernel
theorem dJ1_indexOfChar_4cfef_31 : decode cJ1_indexOfChar_4cfef 31 = .ok (.iconst (-1), 1) := by decide +kernel
theorem dJ1_indexOfChar_4cfef_32 : decode cJ1_indexOfChar_4cfef 32 = .ok (.ireturn, 1) := by decide +kernel
def L_J1_indexOfChar_4cfef_7 : Nat → Int32 → Int32 → Int32 → Option Int32
  | 0, _, _, _ => none
  | n + 1, x3, x4, x5 => if x3 ≤ x5 then some (-1 : Int32) else gd (inR x5 10) (if (FBT.getD x5.toNatClampNeg 0) = x4 then some x5 else L_J1_indexOfChar_4cfef_7 n x3 x4 (x5 + 1))
def f_J1_indexOfChar_4cfef (x1 : Int32) (x2 : Int32) (x3 : Int32) : Option Int32 := L_J1_indexOfChar_4cfef_7 FU x3 x1.toInt8.toInt32 x2
set_option maxRecDepth 100000 in
set_option maxHeartbeats 4000000 in
theorem l_J1_indexOfChar_4cfef_7 (Z : Sys) (X : Cx) (hR : xR X = rm_J1_indexOfChar_4cfef) {q : Int32} {M : Mem} (hq : RetOk Z X (some .int) False (PostI q M) 0 0) : ∀ (n : Nat) (x3 : Int32) (x4 : Int32) (x5 : Int32) (hs : St M) (hf : L_J1_indexOfChar_4cfef_7 n x3 x4 x5 = some q), G Z X Y_J1_indexOfChar_4cfef False 0 0 7 [(0, .ref (zV Z)), (3, .int x3), (4, .int x4), (5, .int x5)] [] M := by
  intro n
  induction n with
  | zero => intro x3 x4 x5 hs  hf; cases hf
  | succ n ih =>
    intro x3 x4 x5 hs  hf
    unfold L_J1_indexOfChar_4cfef_7 at hf
    refine G.iload 7 3 dJ1_indexOfChar_4cfef_7 rfl ?_
    refine G.iload_n 9 1 dJ1_indexOfChar_4cfef_9 rfl rfl ?_
    refine G.icmp_ge 10 31 dJ1_indexOfChar_4cfef_10 (by decide) (fun h1 => ?_) (fun h1 => ?_)
    · replace hf := (if_pos h1).symm.trans hf
      refine G.iconst 31 (-1 : Int32) dJ1_indexOfChar_4cfef_31 (by decide +kernel) ?_
      (have hf9 := Option.some.inj hf; subst hf9)
      exact G.rI 32 hq dJ1_indexOfChar_4cfef_32 hs
    · replace hf := (if_neg h1).symm.trans hf
      refine G.aload_n 13 0 dJ1_indexOfChar_4cfef_13 rfl rfl ?_
      refine G.iload 14 3 dJ1_indexOfChar_4cfef_14 rfl ?_
      obtain ⟨g2, hf⟩ := gd_e hf
      refine G.bF 16 x5.toNatClampNeg g2 rfl dJ1_indexOfChar_4cfef_16 ?_
      refine G.iload 17 2 dJ1_indexOfChar_4cfef_17 rfl ?_
      refine G.icmp_ne 19 25 dJ1_indexOfChar_4cfef_19 (by decide) (fun h3 => ?_) (fun h3 => ?_)
      · replace hf := (if_neg h3).symm.trans hf
        refine G.iinc 25 3 (x5 + 1) [(5, .int (x5 + 1)), (0, .ref (zV Z)), (3, .int x3), (4, .int x4)] dJ1_indexOfChar_4cfef_25 rfl (congrArg (fun z => x5 + z) (by decide +kernel)) (Nat.le_of_ble_eq_true rfl) rfl ?_
        refine G.goto 28 7 dJ1_indexOfChar_4cfef_28 (by decide) ?_
        refine G.locs [1, 2, 3, 0] rfl ?_
        exact ih x3 x4 (x5 + 1) hs hf
      · replace hf := (if_pos h3).symm.trans hf
        refine G.iload 22 3 dJ1_indexOfChar_4cfef_22 rfl ?_
        (have hf9 := Option.some.inj hf; subst hf9)
        exact G.rI 24 hq dJ1_indexOfChar_4cfef_24 hs
set_option maxRecDepth 100000 in
set_option maxHeartbeats 4000000 in
theorem c_J1_indexOfChar_4cfef (Z : Sys) {M : Mem} (hs : St M) (x1 : Int32) (x2 : Int32) (x3 : Int32) {q : Int32} (hf : f_J1_indexOfChar_4cfef x1 x2 x3 = some q) : Ct Z yJ1_indexOfChar_4cfef cJ1_indexOfChar_4cfef 6 (some .int) rm_J1_indexOfChar_4cfef [.ref (zV Z), .int x1, .int x2, .int x3] M False (PostI q M) := by
  refine Ct.of (by decide +kernel) (Nat.le_of_ble_eq_true rfl) (fun X hR hq _ => ?_)
  show G Z X Y_J1_indexOfChar_4cfef False 0 0 0 [(0, .ref (zV Z)), (1, .int x1), (2, .int x2), (3, .int x3)] [] M
  replace hq : RetOk Z X (some .int) False (PostI q M) 0 0 := hq
  unfold f_J1_indexOfChar_4cfef at hf
  refine G.iload_n 0 1 dJ1_indexOfChar_4cfef_0 rfl rfl ?_
  refine G.i2b 1 dJ1_indexOfChar_4cfef_1 ?_
  refine G.istore 2 [(4, .int x1.toInt8.toInt32), (0, .ref (zV Z)), (1, .int x1), (2, .int x2), (3, .int x3)] dJ1_indexOfChar_4cfef_2 (Nat.le_of_ble_eq_true rfl) rfl ?_
  refine G.iload_n 4 3 dJ1_indexOfChar_4cfef_4 rfl rfl ?_
  refine G.istore 5 [(5, .int x2), (4, .int x1.toInt8.toInt32), (0, .ref (zV Z)), (1, .int x1), (2, .int x2), (3, .int x3)] dJ1_indexOfChar_4cfef_5 (Nat.le_of_ble_eq_true rfl) rfl ?_
  refine G.locs [2, 5, 1, 0] rfl ?_
  exact l_J1_indexOfChar_4cfef_7 Z X hR hq FU x3 x1.toInt8.toInt32 x2 hs hf
abbrev Y_J1_indexOf_4cfef : My := (cJ1_indexOf_4cfef, RJ1, 4)
def rm_J1_indexOf_4cfef : Room := { frames := 2, cells := 0, slots := 0, locals := 225 }
theorem dJ1_indexOf_4cfef_0 : decode cJ1_indexOf_4cfef 0 = .ok (.iload_n 1, 1) := by decide +kernel
theorem dJ1_indexOf_4cfef_1 : decode cJ1_indexOf_4cfef 1 = .ok (.invokestatic 88, 3) := by decide +kernel
theorem dJ1_indexOf_4cfef_4 : decode cJ1_indexOf_4cfef 4 = .ok (.ifCond .ne 5, 3) := by decide +kernel
theorem dJ1_indexOf_4cfef_7 : decode cJ1_indexOf_4cfef 7 = .ok (.iconst (-1), 1) := by decide +kernel
theorem dJ1_indexOf_4cfef_8 : decode cJ1_indexOf_4cfef 8 = .ok (.ireturn, 1) := by decide +kernel
theorem dJ1_indexOf_4cfef_9 : decode cJ1_indexOf_4cfef 9 = .ok (.iload_n 2, 1) := by decide +kernel
theorem dJ1_indexOf_4cfef_10 : decode cJ1_indexOf_4cfef 10 = .ok (.iconst 0, 1) := by decide +kernel
theorem dJ1_indexOf_4cfef_11 : decode cJ1_indexOf_4cfef 11 = .ok (.invokestatic 92, 3) := by decide +kernel
theorem dJ1_indexOf_4cfef_14 : decode cJ1_indexOf_4cfef 14 = .ok (.istore_n 2, 1) := by decide +kernel
theorem dJ1_indexOf_4cfef_15 : decode cJ1_indexOf_4cfef 15 = .ok (.iload_n 3, 1) := by decide +kernel
theorem dJ1_indexOf_4cfef_16 : decode cJ1_indexOf_4cfef 16 = .ok (.aload_n 0, 1) := by decide +kernel
theorem dJ1_indexOf_4cfef_17 : decode cJ1_indexOf_4cfef 17 = .ok (.arraylength, 1) := by decide +kernel
theorem dJ1_indexOf_4cfef_18 : decode cJ1_indexOf_4cfef 18 = .ok (.invokestatic 38, 3) := by decide +kernel
theorem dJ1_indexOf_4cfef_21 : decode cJ1_indexOf_4cfef 21 = .ok (.istore_n 3, 1) := by decide +kernel
theorem dJ1_indexOf_4cfef_22 : decode cJ1_indexOf_4cfef 22 = .ok (.iload_n 2, 1) := by decide +kernel
theorem dJ1_indexOf_4cfef_23 : decode cJ1_indexOf_4cfef 23 = .ok (.iload_n 3, 1) := by decide +kernel
theorem dJ1_indexOf_4cfef_24 : decode cJ1_indexOf_4cfef 24 = .ok (.if_icmp .lt 5, 3) := by decide +kernel
theorem dJ1_indexOf_4cfef_27 : decode cJ1_indexOf_4cfef 27 = .ok (.iconst (-1), 1) := by decide +kernel
theorem dJ1_indexOf_4cfef_28 : decode cJ1_indexOf_4cfef 28 = .ok (.ireturn, 1) := by decide +kernel
theorem dJ1_indexOf_4cfef_29 : decode cJ1_indexOf_4cfef 29 = .ok (.aload_n 0, 1) := by decide +kernel
theorem dJ1_indexOf_4cfef_30 : decode cJ1_indexOf_4cfef 30 = .ok (.iload_n 1, 1) := by decide +kernel
theorem dJ1_indexOf_4cfef_31 : decode cJ1_indexOf_4cfef 31 = .ok (.iload_n 2, 1) := by decide +kernel
theorem dJ1_indexOf_4cfef_32 : decode cJ1_indexOf_4cfef 32 = .ok (.iload_n 3, 1) := by decide +kernel
theorem dJ1_indexOf_4cfef_33 : decode cJ1_indexOf_4cfef 33 = .ok (.invokestatic 95, 3) := by decide +kernel
theorem dJ1_indexOf_4cfef_36 : decode cJ1_indexOf_4cfef 36 = .ok (.ireturn, 1) := by decide +kernel
def f_J1_indexOf_4cfef (x1 : Int32) (x2 : Int32) (x3 : Int32) : Option Int32 := if (f_J1_canEncode_9a6ad x1) = 0 then some (-1 : Int32) else if (jmax x2 (0 : Int32)) < (jmin x3 (10 : Int32)) then (f_J1_indexOfChar_4cfef x1 (jmax x2 (0 : Int32)) (jmin x3 (10 : Int32))).bind fun q7 => some q7 else some (-1 : Int32)
set_option maxRecDepth 100000 in
set_option maxHeartbeats 4000000 in
theorem c_J1_indexOf_4cfef (Z : Sys) {M : Mem} (hs : St M) (x1 : Int32) (x2 : Int32) (x3 : Int32) {q : Int32} (hf : f_J1_indexOf_4cfef x1 x2 x3 = some q) : Ct Z yJ1_indexOf_4cfef cJ1_indexOf_4cfef 4 (some .int) rm_J1_indexOf_4cfef [.ref (zV Z), .int x1, .int x2, .int x3] M False (PostI q M) := by
  refine Ct.of (by decide +kernel) (Nat.le_of_ble_eq_true rfl) (fun X hR hq _ => ?_)
  show G Z X Y_J1_indexOf_4cfef False 0 0 0 [(0, .ref (zV Z)), (1, .int x1), (2, .int x2), (3, .int x3)] [] M
  replace hq : RetOk Z X (some .int) False (PostI q M) 0 0 := hq
  unfold f_J1_indexOf_4cfef at hf
  refine G.iload_n 0 1 dJ1_indexOf_4cfef_0 rfl rfl ?_
  refine G.csZ 1 (As := [.int x1]) (c_J1_canEncode_9a6ad Z hs x1 rfl) mk_J1_canEncode_9a6ad wd_935 wd_934 hR (by decide +kernel) ⟨rfl, rfl⟩ rfl (Nat.le_of_ble_eq_true rfl) dJ1_indexOf_4cfef_1 (fun hs1 z2 => ?_)
  refine G.if_ne 4 9 dJ1_indexOf_4cfef_4 (by decide) (fun h3 => ?_) (fun h3 => ?_)
  · replace hf := (if_neg h3).symm.trans hf
    refine G.iload_n 9 2 dJ1_indexOf_4cfef_9 rfl rfl ?_
    refine G.iconst 10 (0 : Int32) dJ1_indexOf_4cfef_10 (by decide +kernel) ?_
    refine G.mmaxJ 11 wd_937 wd_546 wd_87 wd_547 hR ⟨Nat.le_of_ble_eq_true rfl, Nat.le_of_ble_eq_true rfl, Nat.le_of_ble_eq_true rfl, Nat.le_of_ble_eq_true rfl⟩ dJ1_indexOf_4cfef_11 ?_
    refine G.istore_n 14 [(2, .int (jmax x2 (0 : Int32))), (0, .ref (zV Z)), (1, .int x1), (3, .int x3)] dJ1_indexOf_4cfef_14 rfl (Nat.le_of_ble_eq_true rfl) rfl ?_
    refine G.iload_n 15 3 dJ1_indexOf_4cfef_15 rfl rfl ?_
    refine G.aload_n 16 1 dJ1_indexOf_4cfef_16 rfl rfl ?_
    refine G.lenF 17 dJ1_indexOf_4cfef_17 ?_
    refine G.mminJ 18 wd_938 wd_476 wd_87 wd_477 hR ⟨Nat.le_of_ble_eq_true rfl, Nat.le_of_ble_eq_true rfl, Nat.le_of_ble_eq_true rfl, Nat.le_of_ble_eq_true rfl⟩ dJ1_indexOf_4cfef_18 ?_
    refine G.istore_n 21 [(3, .int (jmin x3 (10 : Int32))), (2, .int (jmax x2 (0 : Int32))), (0, .ref (zV Z)), (1, .int x1)] dJ1_indexOf_4cfef_21 rfl (Nat.le_of_ble_eq_true rfl) rfl ?_
    refine G.iload_n 22 1 dJ1_indexOf_4cfef_22 rfl rfl ?_
    refine G.iload_n 23 0 dJ1_indexOf_4cfef_23 rfl rfl ?_
    refine G.icmp_lt 24 29 dJ1_indexOf_4cfef_24 (by decide) (fun h4 => ?_) (fun h4 => ?_)
    · replace hf := (if_pos h4).symm.trans hf
      refine G.aload_n 29 2 dJ1_indexOf_4cfef_29 rfl rfl ?_
      refine G.iload_n 30 3 dJ1_indexOf_4cfef_30 rfl rfl ?_
      refine G.iload_n 31 1 dJ1_indexOf_4cfef_31 rfl rfl ?_
      refine G.iload_n 32 0 dJ1_indexOf_4cfef_32 rfl rfl ?_
      obtain ⟨q7, e8, hf⟩ := bd_e hf
      refine G.csI 33 (As := [.ref (zV Z), .int x1, .int (jmax x2 (0 : Int32)), .int (jmin x3 (10 : Int32))]) (c_J1_indexOfChar_4cfef Z hs1 x1 (jmax x2 (0 : Int32)) (jmin x3 (10 : Int32)) e8) mk_J1_indexOfChar_4cfef wd_940 wd_939 hR (by decide +kernel) ⟨rfl, rfl⟩ rfl (Nat.le_of_ble_eq_true rfl) dJ1_indexOf_4cfef_33 (fun hs5 => ?_)
      (have hf9 := Option.some.inj hf; subst hf9)
      exact G.rI 36 hq dJ1_indexOf_4cfef_36 hs5
    · replace hf := (if_neg h4).symm.trans hf
      refine G.iconst 27 (-1 : Int32) dJ1_indexOf_4cfef_27 (by decide +kernel) ?_
      (have hf9 := Option.some.inj hf; subst hf9)
      exact G.rI 28 hq dJ1_indexOf_4cfef_28 hs1
  · replace hf := (if_pos h3).symm.trans hf
    refine G.iconst 7 (-1 : Int32) dJ1_indexOf_4cfef_7 (by decide +kernel) ?_
    (have hf9 := Option.some.inj hf; subst hf9)
    exact G.rI 8 hq dJ1_indexOf_4cfef_8 hs1
abbrev Y_J0_indexOf_7cf53 : My := (cJ0_indexOf_7cf53, RJ0, 3)
def rm_J0_indexOf_7cf53 : Room := { frames := 3, cells := 0, slots := 0, locals := 248 }
theorem dJ0_indexOf_7cf53_0 : decode cJ0_indexOf_7cf53 0 = .ok (.aload_n 0, 1) := by decide +kernel
theorem dJ0_indexOf_7cf53_1 : decode cJ0_indexOf_7cf53 1 = .ok (.invokevirtual 492, 3) := by decide +kernel
theorem dJ0_indexOf_7cf53_4 : decode cJ0_indexOf_7cf53 4 = .ok (.ifCond .eq 19, 3) := by decide +kernel
theorem dJ0_indexOf_7cf53_7 : decode cJ0_indexOf_7cf53 7 = .ok (.aload_n 0, 1) := by decide +kernel
theorem dJ0_indexOf_7cf53_8 : decode cJ0_indexOf_7cf53 8 = .ok (.getfield 9, 3) := by decide +kernel
theorem dJ0_indexOf_7cf53_11 : decode cJ0_indexOf_7cf53 11 = .ok (.iload_n 1, 1) := by decide +kernel
theorem dJ0_indexOf_7cf53_12 : decode cJ0_indexOf_7cf53 12 = .ok (.iload_n 2, 1) := by decide +kernel
theorem dJ0_indexOf_7cf53_13 : decode cJ0_indexOf_7cf53 13 = .ok (.aload_n 0, 1) := by decide +kernel
theorem dJ0_indexOf_7cf53_14 : decode cJ0_indexOf_7cf53 14 = .ok (.invokevirtual 505, 3) := by decide +kernel
theorem dJ0_indexOf_7cf53_17 : decode cJ0_indexOf_7cf53 17 = .ok (.invokestatic 637, 3) := by decide +kernel
theorem dJ0_indexOf_7cf53_20 : decode cJ0_indexOf_7cf53 20 = .ok (.goto 16, 3) := by decide +kernel
theorem dJ0_indexOf_7cf53_23 : decode cJ0_indexOf_7cf53 23 = .ok (.aload_n 0, 1) := by decide +kernel
theorem dJ0_indexOf_7cf53_24 : decode cJ0_indexOf_7cf53 24 = .ok (.getfield 9, 3) := by decide +kernel
theorem dJ0_indexOf_7cf53_27 : decode cJ0_indexOf_7cf53 27 = .ok (.iload_n 1, 1) := by decide +kernel
theorem dJ0_indexOf_7cf53_28 : decode cJ0_indexOf_7cf53 28 = .ok (.iload_n 2, 1) := by decide +kernel
theorem dJ0_indexOf_7cf53_29 : decode cJ0_indexOf_7cf53 29 = .ok (.aload_n 0, 1) := by decide +kernel
theorem dJ0_indexOf_7cf53_30 : decode cJ0_indexOf_7cf53 30 = .ok (.invokevirtual 505, 3) := by decide +kernel
theorem dJ0_indexOf_7cf53_33 : decode cJ0_indexOf_7cf53 33 = .ok (.invokestatic 640, 3) := by decide +kernel
theorem dJ0_indexOf_7cf53_36 : decode cJ0_indexOf_7cf53 36 = .ok (.ireturn, 1) := by decide +kernel
def f_J0_indexOf_7cf53 (x1 : Int32) (x2 : Int32) : Option Int32 := (f_J1_indexOf_4cfef x1 x2 (10 : Int32)).bind fun q7 => some q7
set_option maxRecDepth 100000 in
set_option maxHeartbeats 4000000 in
theorem c_J0_indexOf_7cf53 (Z : Sys) {M : Mem} (hs : St M) (x1 : Int32) (x2 : Int32) {q : Int32} (hf : f_J0_indexOf_7cf53 x1 x2 = some q) : Ct Z yJ0_indexOf_7cf53 cJ0_indexOf_7cf53 3 (some .int) rm_J0_indexOf_7cf53 [.ref (zK Z), .int x1, .int x2] M False (PostI q M) := by
  refine Ct.of (by decide +kernel) (Nat.le_of_ble_eq_true rfl) (fun X hR hq _ => ?_)
  show G Z X Y_J0_indexOf_7cf53 False 0 0 0 [(0, .ref (zK Z)), (1, .int x1), (2, .int x2)] [] M
  replace hq : RetOk Z X (some .int) False (PostI q M) 0 0 := hq
  unfold f_J0_indexOf_7cf53 at hf
  refine G.aload_n 0 0 dJ0_indexOf_7cf53_0 rfl rfl ?_
  refine G.coZ 1 (As := []) (c_J0_isLatin1_aae02 Z hs (show _ = (1 : Int32) by decide +kernel)) mk_J0_isLatin1_aae02 vk_J0_isLatin1_aae02 rfl wd_917 hR (by decide +kernel) ⟨rfl, rfl⟩ rfl (Nat.le_of_ble_eq_true rfl) dJ0_indexOf_7cf53_1 (fun hs1 z2 => ?_)
  refine G.if_eq 4 23 dJ0_indexOf_7cf53_4 (by decide) (fun h => absurd h (by decide +kernel)) (fun _ => ?_)
  refine G.aload_n 7 0 dJ0_indexOf_7cf53_7 rfl rfl ?_
  refine G.gval 8 wd_1803 dJ0_indexOf_7cf53_8 ?_
  refine G.iload_n 11 1 dJ0_indexOf_7cf53_11 rfl rfl ?_
  refine G.iload_n 12 2 dJ0_indexOf_7cf53_12 rfl rfl ?_
  refine G.aload_n 13 0 dJ0_indexOf_7cf53_13 rfl rfl ?_
  refine G.coI 14 (As := []) (c_J0_length_8abf5 Z hs1 (show _ = (10 : Int32) by decide +kernel)) mk_J0_length_8abf5 vk_J0_length_8abf5 rfl wd_923 hR (by decide +kernel) ⟨rfl, rfl⟩ rfl (Nat.le_of_ble_eq_true rfl) dJ0_indexOf_7cf53_14 (fun hs3 => ?_)
  obtain ⟨q7, e8, hf⟩ := bd_e hf
  refine G.csI 17 (As := [.ref (zV Z), .int x1, .int x2, .int (10 : Int32)]) (c_J1_indexOf_4cfef Z hs3 x1 x2 (10 : Int32) e8) mk_J1_indexOf_4cfef wd_932 wd_931 hR (by decide +kernel) ⟨rfl, rfl⟩ rfl (Nat.le_of_ble_eq_true rfl) dJ0_indexOf_7cf53_17 (fun hs5 => ?_)
  refine G.goto 20 36 dJ0_indexOf_7cf53_20 (by decide) ?_
  (have hf9 := Option.some.inj hf; subst hf9)
  exact G.rI 36 hq dJ0_indexOf_7cf53_36 hs5
abbrev Y_J0_indexOf_0f7a4 : My := (cJ0_indexOf_0f7a4, RJ0, 2)
def rm_J0_indexOf_0f7a4 : Room := { frames := 4, cells := 0, slots := 0, locals := 270 }
theorem dJ0_indexOf_0f7a4_0 : decode cJ0_indexOf_0f7a4 0 = .ok (.aload_n 0, 1) := by decide +kernel
theorem dJ0_indexOf_0f7a4_1 : decode cJ0_indexOf_0f7a4 1 = .ok (.iload_n 1, 1) := by decide +kernel
theorem dJ0_indexOf_0f7a4_2 : decode cJ0_indexOf_0f7a4 2 = .ok (.iconst 0, 1) := by decide +kernel
theorem dJ0_indexOf_0f7a4_3 : decode cJ0_indexOf_0f7a4 3 = .ok (.invokevirtual 633, 3) := by decide +kernel
theorem dJ0_indexOf_0f7a4_6 : decode cJ0_indexOf_0f7a4 6 = .ok (.ireturn, 1) := by decide +kernel
def f_J0_indexOf_0f7a4 (x1 : Int32) : Option Int32 := (f_J0_indexOf_7cf53 x1 (0 : Int32)).bind fun q3 => some q3
set_option maxRecDepth 100000 in
set_option maxHeartbeats 4000000 in
theorem c_J0_indexOf_0f7a4 (Z : Sys) {M : Mem} (hs : St M) (x1 : Int32) {q : Int32} (hf : f_J0_indexOf_0f7a4 x1 = some q) : Ct Z yJ0_indexOf_0f7a4 cJ0_indexOf_0f7a4 2 (some .int) rm_J0_indexOf_0f7a4 [.ref (zK Z), .int x1] M False (PostI q M) := by
  refine Ct.of (by decide +kernel) (Nat.le_of_ble_eq_true rfl) (fun X hR hq _ => ?_)
  show G Z X Y_J0_indexOf_0f7a4 False 0 0 0 [(0, .ref (zK Z)), (1, .int x1)] [] M
  replace hq : RetOk Z X (some .int) False (PostI q M) 0 0 := hq
  unfold f_J0_indexOf_0f7a4 at hf
  refine G.aload_n 0 0 dJ0_indexOf_0f7a4_0 rfl rfl ?_
  refine G.iload_n 1 1 dJ0_indexOf_0f7a4_1 rfl rfl ?_
  refine G.iconst 2 (0 : Int32) dJ0_indexOf_0f7a4_2 (by decide +kernel) ?_
  obtain ⟨q3, e4, hf⟩ := bd_e hf
  refine G.coI 3 (As := [.int x1, .int (0 : Int32)]) (c_J0_indexOf_7cf53 Z hs x1 (0 : Int32) e4) mk_J0_indexOf_7cf53 vk_J0_indexOf_7cf53 rfl wd_913 hR (by decide +kernel) ⟨rfl, rfl⟩ rfl (Nat.le_of_ble_eq_true rfl) dJ0_indexOf_0f7a4_3 (fun hs1 => ?_)
  (have hf9 := Option.some.inj hf; subst hf9)
  exact G.rI 6 hq dJ0_indexOf_0f7a4_6 hs1
abbrev Y_J6_bitCount_0f7a4 : My := (cJ6_bitCount_0f7a4, RJ6, 1)
def rm_J6_bitCount_0f7a4 : Room := { frames := 1, cells := 0, slots := 0, locals := 200 }
theorem dJ6_bitCount_0f7a4_0 : decode cJ6_bitCount_0f7a4 0 = .ok (.iload_n 0, 1) := by decide +kernel
theorem dJ6_bitCount_0f7a4_1 : decode cJ6_bitCount_0f7a4 1 = .ok (.iload_n 0, 1) := by decide +kernel
theorem dJ6_bitCount_0f7a4_2 : decode cJ6_bitCount_0f7a4 2 = .ok (.iconst 1, 1) := by decide +kernel
theorem dJ6_bitCount_0f7a4_3 : decode cJ6_bitCount_0f7a4 3 = .ok (.iushr, 1) := by decide +kernel
theorem dJ6_bitCount_0f7a4_4 : decode cJ6_bitCount_0f7a4 4 = .ok (.ldc_w 265, 3) := by decide +kernel
theorem dJ6_bitCount_0f7a4_7 : decode cJ6_bitCount_0f7a4 7 = .ok (.iand, 1) := by decide +kernel
theorem dJ6_bitCount_0f7a4_8 : decode cJ6_bitCount_0f7a4 8 = .ok (.isub, 1) := by decide +kernel
theorem dJ6_bitCount_0f7a4_9 : decode cJ6_bitCount_0f7a4 9 = .ok (.istore_n 0, 1) := by decide +kernel
theorem dJ6_bitCount_0f7a4_10 : decode cJ6_bitCount_0f7a4 10 = .ok (.iload_n 0, 1) := by decide +kernel
theorem dJ6_bitCount_0f7a4_11 : decode cJ6_bitCount_0f7a4 11 = .ok (.ldc_w 266, 3) := by decide +kernel
theorem dJ6_bitCount_0f7a4_14 : decode cJ6_bitCount_0f7a4 14 = .ok (.iand, 1) := by decide +kernel
theorem dJ6_bitCount_0f7a4_15 : decode cJ6_bitCount_0f7a4 15 = .ok (.iload_n 0, 1) := by decide +kernel
theorem dJ6_bitCount_0f7a4_16 : decode cJ6_bitCount_0f7a4 16 = .ok (.iconst 2, 1) := by decide +kernel
theorem dJ6_bitCount_0f7a4_17 : decode cJ6_bitCount_0f7a4 17 = .ok (.iushr, 1) := by decide +kernel
theorem dJ6_bitCount_0f7a4_18 : decode cJ6_bitCount_0f7a4 18 = .ok (.ldc_w 266, 3) := by decide +kernel
theorem dJ6_bitCount_0f7a4_21 : decode cJ6_bitCount_0f7a4 21 = .ok (.iand, 1) := by decide +kernel
theorem dJ6_bitCount_0f7a4_22 : decode cJ6_bitCount_0f7a4 22 = .ok (.iadd, 1) := by decide +kernel
theorem dJ6_bitCount_0f7a4_23 : decode cJ6_bitCount_0f7a4 23 = .ok (.istore_n 0, 1) := by decide +kernel
theorem dJ6_bitCount_0f7a4_24 : decode cJ6_bitCount_0f7a4 24 = .ok (.iload_n 0, 1) := by decide +kernel
theorem dJ6_bitCount_0f7a4_25 : decode cJ6_bitCount_0f7a4 25 = .ok (.iload_n 0, 1) := by decide +kernel
theorem dJ6_bitCount_0f7a4_26 : decode cJ6_bitCount_0f7a4 26 = .ok (.iconst 4, 1) := by decide +kernel
theorem dJ6_bitCount_0f7a4_27 : decode cJ6_bitCount_0f7a4 27 = .ok (.iushr, 1) := by decide +kernel
theorem dJ6_bitCount_0f7a4_28 : decode cJ6_bitCount_0f7a4 28 = .ok (.iadd, 1) := by decide +kernel
theorem dJ6_bitCount_0f7a4_29 : decode cJ6_bitCount_0f7a4 29 = .ok (.ldc_w 267, 3) := by decide +kernel
theorem dJ6_bitCount_0f7a4_32 : decode cJ6_bitCount_0f7a4 32 = .ok (.iand, 1) := by decide +kernel
theorem dJ6_bitCount_0f7a4_33 : decode cJ6_bitCount_0f7a4 33 = .ok (.istore_n 0, 1) := by decide +kernel
theorem dJ6_bitCount_0f7a4_34 : decode cJ6_bitCount_0f7a4 34 = .ok (.iload_n 0, 1) := by decide +kernel
theorem dJ6_bitCount_0f7a4_35 : decode cJ6_bitCount_0f7a4 35 = .ok (.iload_n 0, 1) := by decide +kernel
theorem dJ6_bitCount_0f7a4_36 : decode cJ6_bitCount_0f7a4 36 = .ok (.bipush 8, 2) := by decide +kernel
theorem dJ6_bitCount_0f7a4_38 : decode cJ6_bitCount_0f7a4 38 = .ok (.iushr, 1) := by decide +kernel
theorem dJ6_bitCount_0f7a4_39 : decode cJ6_bitCount_0f7a4 39 = .ok (.iadd, 1) := by decide +kernel
theorem dJ6_bitCount_0f7a4_40 : decode cJ6_bitCount_0f7a4 40 = .ok (.istore_n 0, 1) := by decide +kernel
theorem dJ6_bitCount_0f7a4_41 : decode cJ6_bitCount_0f7a4 41 = .ok (.iload_n 0, 1) := by decide +kernel
theorem dJ6_bitCount_0f7a4_42 : decode cJ6_bitCount_0f7a4 42 = .ok (.iload_n 0, 1) := by decide +kernel
theorem dJ6_bitCount_0f7a4_43 : decode cJ6_bitCount_0f7a4 43 = .ok (.bipush 16, 2) := by decide +kernel
theorem dJ6_bitCount_0f7a4_45 : decode cJ6_bitCount_0f7a4 45 = .ok (.iushr, 1) := by decide +kernel
theorem dJ6_bitCount_0f7a4_46 : decode cJ6_bitCount_0f7a4 46 = .ok (.iadd, 1) := by decide +kernel
theorem dJ6_bitCount_0f7a4_47 : decode cJ6_bitCount_0f7a4 47 = .ok (.istore_n 0, 1) := by decide +kernel
theorem dJ6_bitCount_0f7a4_48 : decode cJ6_bitCount_0f7a4 48 = .ok (.iload_n 0, 1) := by decide +kernel
theorem dJ6_bitCount_0f7a4_49 : decode cJ6_bitCount_0f7a4 49 = .ok (.bipush 63, 2) := by decide +kernel
theorem dJ6_bitCount_0f7a4_51 : decode cJ6_bitCount_0f7a4 51 = .ok (.iand, 1) := by decide +kernel
theorem dJ6_bitCount_0f7a4_52 : decode cJ6_bitCount_0f7a4 52 = .ok (.ireturn, 1) := by decide +kernel
def f_J6_bitCount_0f7a4 (x0 : Int32) : Int32 := ((((((((x0 - ((jushr x0 (1 : Int32)) &&& (1431655765 : Int32))) &&& (858993459 : Int32)) + ((jushr (x0 - ((jushr x0 (1 : Int32)) &&& (1431655765 : Int32))) (2 : Int32)) &&& (858993459 : Int32))) + (jushr (((x0 - ((jushr x0 (1 : Int32)) &&& (1431655765 : Int32))) &&& (858993459 : Int32)) + ((jushr (x0 - ((jushr x0 (1 : Int32)) &&& (1431655765 : Int32))) (2 : Int32)) &&& (858993459 : Int32))) (4 : Int32))) &&& (252645135 : Int32)) + (jushr (((((x0 - ((jushr x0 (1 : Int32)) &&& (1431655765 : Int32))) &&& (858993459 : Int32)) + ((jushr (x0 - ((jushr x0 (1 : Int32)) &&& (1431655765 : Int32))) (2 : Int32)) &&& (858993459 : Int32))) + (jushr (((x0 - ((jushr x0 (1 : Int32)) &&& (1431655765 : Int32))) &&& (858993459 : Int32)) + ((jushr (x0 - ((jushr x0 (1 : Int32)) &&& (1431655765 : Int32))) (2 : Int32)) &&& (858993459 : Int32))) (4 : Int32))) &&& (252645135 : Int32)) (8 : Int32))) + (jushr ((((((x0 - ((jushr x0 (1 : Int32)) &&& (1431655765 : Int32))) &&& (858993459 : Int32)) + ((jushr (x0 - ((jushr x0 (1 : Int32)) &&& (1431655765 : Int32))) (2 : Int32)) &&& (858993459 : Int32))) + (jushr (((x0 - ((jushr x0 (1 : Int32)) &&& (1431655765 : Int32))) &&& (858993459 : Int32)) + ((jushr (x0 - ((jushr x0 (1 : Int32)) &&& (1431655765 : Int32))) (2 : Int32)) &&& (858993459 : Int32))) (4 : Int32))) &&& (252645135 : Int32)) + (jushr (((((x0 - ((jushr x0 (1 : Int32)) &&& (1431655765 : Int32))) &&& (858993459 : Int32)) + ((jushr (x0 - ((jushr x0 (1 : Int32)) &&& (1431655765 : Int32))) (2 : Int32)) &&& (858993459 : Int32))) + (jushr (((x0 - ((jushr x0 (1 : Int32)) &&& (1431655765 : Int32))) &&& (858993459 : Int32)) + ((jushr (x0 - ((jushr x0 (1 : Int32)) &&& (1431655765 : Int32))) (2 : Int32)) &&& (858993459 : Int32))) (4 : Int32))) &&& (252645135 : Int32)) (8 : Int32))) (16 : Int32))) &&& (63 : Int32))
set_option maxRecDepth 100000 in
set_option maxHeartbeats 4000000 in
theorem c_J6_bitCount_0f7a4 (Z : Sys) {M : Mem} (hs : St M) (x0 : Int32) {q : Int32} (hf : f_J6_bitCount_0f7a4 x0 = q) : Ct Z yJ6_bitCount_0f7a4 cJ6_bitCount_0f7a4 1 (some .int) rm_J6_bitCount_0f7a4 [.int x0] M False (PostI q M) := by
  refine Ct.of (by decide +kernel) (Nat.le_of_ble_eq_true rfl) (fun X hR hq _ => ?_)
  show G Z X Y_J6_bitCount_0f7a4 False 0 0 0 [(0, .int x0)] [] M
  replace hq : RetOk Z X (some .int) False (PostI q M) 0 0 := hq
  unfold f_J6_bitCount_0f7a4 at hf
  refine G.iload_n 0 0 dJ6_bitCount_0f7a4_0 rfl rfl ?_
  refine G.iload_n 1 0 dJ6_bitCount_0f7a4_1 rfl rfl ?_
  refine G.iconst 2 (1 : Int32) dJ6_bitCount_0f7a4_2 (by decide +kernel) ?_
  refine G.iushr 3 dJ6_bitCount_0f7a4_3 ?_
  refine G.ldcw 4 (1431655765 : Int32) wd_675 dJ6_bitCount_0f7a4_4 ?_
  refine G.iand 7 dJ6_bitCount_0f7a4_7 ?_
  refine G.isub 8 dJ6_bitCount_0f7a4_8 ?_
  refine G.istore_n 9 [(0, .int (x0 - ((jushr x0 (1 : Int32)) &&& (1431655765 : Int32))))] dJ6_bitCount_0f7a4_9 rfl (Nat.le_of_ble_eq_true rfl) rfl ?_
  refine G.iload_n 10 0 dJ6_bitCount_0f7a4_10 rfl rfl ?_
  refine G.ldcw 11 (858993459 : Int32) wd_676 dJ6_bitCount_0f7a4_11 ?_
  refine G.iand 14 dJ6_bitCount_0f7a4_14 ?_
  refine G.iload_n 15 0 dJ6_bitCount_0f7a4_15 rfl rfl ?_
  refine G.iconst 16 (2 : Int32) dJ6_bitCount_0f7a4_16 (by decide +kernel) ?_
  refine G.iushr 17 dJ6_bitCount_0f7a4_17 ?_
  refine G.ldcw 18 (858993459 : Int32) wd_676 dJ6_bitCount_0f7a4_18 ?_
  refine G.iand 21 dJ6_bitCount_0f7a4_21 ?_
  refine G.iadd 22 dJ6_bitCount_0f7a4_22 ?_
  refine G.istore_n 23 [(0, .int (((x0 - ((jushr x0 (1 : Int32)) &&& (1431655765 : Int32))) &&& (858993459 : Int32)) + ((jushr (x0 - ((jushr x0 (1 : Int32)) &&& (1431655765 : Int32))) (2 : Int32)) &&& (858993459 : Int32))))] dJ6_bitCount_0f7a4_23 rfl (Nat.le_of_ble_eq_true rfl) rfl ?_
  refine G.iload_n 24 0 dJ6_bitCount_0f7a4_24 rfl rfl ?_
  refine G.iload_n 25 0 dJ6_bitCount_0f7a4_25 rfl rfl ?_
  refine G.iconst 26 (4 : Int32) dJ6_bitCount_0f7a4_26 (by decide +kernel) ?_
  refine G.iushr 27 dJ6_bitCount_0f7a4_27 ?_
  refine G.iadd 28 dJ6_bitCount_0f7a4_28 ?_
  refine G.ldcw 29 (252645135 : Int32) wd_677 dJ6_bitCount_0f7a4_29 ?_
  refine G.iand 32 dJ6_bitCount_0f7a4_32 ?_
  refine G.istore_n 33 [(0, .int (((((x0 - ((jushr x0 (1 : Int32)) &&& (1431655765 : Int32))) &&& (858993459 : Int32)) + ((jushr (x0 - ((jushr x0 (1 : Int32)) &&& (1431655765 : Int32))) (2 : Int32)) &&& (858993459 : Int32))) + (jushr (((x0 - ((jushr x0 (1 : Int32)) &&& (1431655765 : Int32))) &&& (858993459 : Int32)) + ((jushr (x0 - ((jushr x0 (1 : Int32)) &&& (1431655765 : Int32))) (2 : Int32)) &&& (858993459 : Int32))) (4 : Int32))) &&& (252645135 : Int32)))] dJ6_bitCount_0f7a4_33 rfl (Nat.le_of_ble_eq_true rfl) rfl ?_
  refine G.iload_n 34 0 dJ6_bitCount_0f7a4_34 rfl rfl ?_
  refine G.iload_n 35 0 dJ6_bitCount_0f7a4_35 rfl rfl ?_
  refine G.bipush 36 (8 : Int32) dJ6_bitCount_0f7a4_36 (by decide +kernel) ?_
  refine G.iushr 38 dJ6_bitCount_0f7a4_38 ?_
  refine G.iadd 39 dJ6_bitCount_0f7a4_39 ?_
  refine G.istore_n 40 [(0, .int ((((((x0 - ((jushr x0 (1 : Int32)) &&& (1431655765 : Int32))) &&& (858993459 : Int32)) + ((jushr (x0 - ((jushr x0 (1 : Int32)) &&& (1431655765 : Int32))) (2 : Int32)) &&& (858993459 : Int32))) + (jushr (((x0 - ((jushr x0 (1 : Int32)) &&& (1431655765 : Int32))) &&& (858993459 : Int32)) + ((jushr (x0 - ((jushr x0 (1 : Int32)) &&& (1431655765 : Int32))) (2 : Int32)) &&& (858993459 : Int32))) (4 : Int32))) &&& (252645135 : Int32)) + (jushr (((((x0 - ((jushr x0 (1 : Int32)) &&& (1431655765 : Int32))) &&& (858993459 : Int32)) + ((jushr (x0 - ((jushr x0 (1 : Int32)) &&& (1431655765 : Int32))) (2 : Int32)) &&& (858993459 : Int32))) + (jushr (((x0 - ((jushr x0 (1 : Int32)) &&& (1431655765 : Int32))) &&& (858993459 : Int32)) + ((jushr (x0 - ((jushr x0 (1 : Int32)) &&& (1431655765 : Int32))) (2 : Int32)) &&& (858993459 : Int32))) (4 : Int32))) &&& (252645135 : Int32)) (8 : Int32))))] dJ6_bitCount_0f7a4_40 rfl (Nat.le_of_ble_eq_true rfl) rfl ?_
  refine G.iload_n 41 0 dJ6_bitCount_0f7a4_41 rfl rfl ?_
  refine G.iload_n 42 0 dJ6_bitCount_0f7a4_42 rfl rfl ?_
  refine G.bipush 43 (16 : Int32) dJ6_bitCount_0f7a4_43 (by decide +kernel) ?_
  refine G.iushr 45 dJ6_bitCount_0f7a4_45 ?_
  refine G.iadd 46 dJ6_bitCount_0f7a4_46 ?_
  refine G.istore_n 47 [(0, .int (((((((x0 - ((jushr x0 (1 : Int32)) &&& (1431655765 : Int32))) &&& (858993459 : Int32)) + ((jushr (x0 - ((jushr x0 (1 : Int32)) &&& (1431655765 : Int32))) (2 : Int32)) &&& (858993459 : Int32))) + (jushr (((x0 - ((jushr x0 (1 : Int32)) &&& (1431655765 : Int32))) &&& (858993459 : Int32)) + ((jushr (x0 - ((jushr x0 (1 : Int32)) &&& (1431655765 : Int32))) (2 : Int32)) &&& (858993459 : Int32))) (4 : Int32))) &&& (252645135 : Int32)) + (jushr (((((x0 - ((jushr x0 (1 : Int32)) &&& (1431655765 : Int32))) &&& (858993459 : Int32)) + ((jushr (x0 - ((jushr x0 (1 : Int32)) &&& (1431655765 : Int32))) (2 : Int32)) &&& (858993459 : Int32))) + (jushr (((x0 - ((jushr x0 (1 : Int32)) &&& (1431655765 : Int32))) &&& (858993459 : Int32)) + ((jushr (x0 - ((jushr x0 (1 : Int32)) &&& (1431655765 : Int32))) (2 : Int32)) &&& (858993459 : Int32))) (4 : Int32))) &&& (252645135 : Int32)) (8 : Int32))) + (jushr ((((((x0 - ((jushr x0 (1 : Int32)) &&& (1431655765 : Int32))) &&& (858993459 : Int32)) + ((jushr (x0 - ((jushr x0 (1 : Int32)) &&& (1431655765 : Int32))) (2 : Int32)) &&& (858993459 : Int32))) + (jushr (((x0 - ((jushr x0 (1 : Int32)) &&& (1431655765 : Int32))) &&& (858993459 : Int32)) + ((jushr (x0 - ((jushr x0 (1 : Int32)) &&& (1431655765 : Int32))) (2 : Int32)) &&& (858993459 : Int32))) (4 : Int32))) &&& (252645135 : Int32)) + (jushr (((((x0 - ((jushr x0 (1 : Int32)) &&& (1431655765 : Int32))) &&& (858993459 : Int32)) + ((jushr (x0 - ((jushr x0 (1 : Int32)) &&& (1431655765 : Int32))) (2 : Int32)) &&& (858993459 : Int32))) + (jushr (((x0 - ((jushr x0 (1 : Int32)) &&& (1431655765 : Int32))) &&& (858993459 : Int32)) + ((jushr (x0 - ((jushr x0 (1 : Int32)) &&& (1431655765 : Int32))) (2 : Int32)) &&& (858993459 : Int32))) (4 : Int32))) &&& (252645135 : Int32)) (8 : Int32))) (16 : Int32))))] dJ6_bitCount_0f7a4_47 rfl (Nat.le_of_ble_eq_true rfl) rfl ?_
  refine G.iload_n 48 0 dJ6_bitCount_0f7a4_48 rfl rfl ?_
  refine G.bipush 49 (63 : Int32) dJ6_bitCount_0f7a4_49 (by decide +kernel) ?_
  refine G.iand 51 dJ6_bitCount_0f7a4_51 ?_
  subst hf
  exact G.rI 52 hq dJ6_bitCount_0f7a4_52 hs
abbrev Y_J7_fill_53178 : My := (cJ7_fill_53178, RJ7, 4)
def rm_J7_fill_53178 : Room := { frames := 1, cells := 0, slots := 0, locals := 200 }
theorem dJ7_fill_53178_0 : decode cJ7_fill_53178 0 = .ok (.iconst 0, 1) := by decide +kernel
theorem dJ7_fill_53178_1 : decode cJ7_fill_53178 1 = .ok (.istore_n 2, 1) := by decide +kernel
theorem dJ7_fill_53178_2 : decode cJ7_fill_53178 2 = .ok (.aload_n 0, 1) := by decide +kernel
theorem dJ7_fill_53178_3 : decode cJ7_fill_53178 3 = .ok (.arraylength, 1) := by decide +kernel
theorem dJ7_fill_53178_4 : decode cJ7_fill_53178 4 = .ok (.istore_n 3, 1) := by decide +kernel
theorem dJ7_fill_53178_5 : decode cJ7_fill_53178 5 = .ok (.iload_n 2, 1) := by decide +kernel
theorem dJ7_fill_53178_6 : decode cJ7_fill_53178 6 = .ok (.iload_n 3, 1) := by decide +kernel
theorem dJ7_fill_53178_7 : decode cJ7_fill_53178 7 = .ok (.if_icmp .ge 13, 3) := by decide +kernel
theorem dJ7_fill_53178_10 : decode cJ7_fill_53178 10 = .ok (.aload_n 0, 1) := by decide +kernel
theorem dJ7_fill_53178_11 : decode cJ7_fill_53178 11 = .ok (.iload_n 2, 1) := by decide +kernel
theorem dJ7_fill_53178_12 : decode cJ7_fill_53178 12 = .ok (.iload_n 1, 1) := by decide +kernel
theorem dJ7_fill_53178_13 : decode cJ7_fill_53178 13 = .ok (.iastore, 1) := by decide +kernel
theorem dJ7_fill_53178_14 : decode cJ7_fill_53178 14 = .ok (.iinc 2 1, 3) := by decide +kernel
theorem dJ7_fill_53178_17 : decode cJ7_fill_53178 17 = .ok (.goto (-12), 3) := by decide +kernel
theorem dJ7_fill_53178_20 : decode cJ7_fill_53178 20 = .ok (.return_, 1) := by decide +kernel
def L_J7_fill_53178_5 : Nat → Nat → Int32 → Int32 → Int32 → Mem → Option Mem
  | 0, _, _, _, _, _ => none
  | n + 1, a0, x1, x2, x3, M => if x3 ≤ x2 then some M else gd (inR x2 (ln a0)) (L_J7_fill_53178_5 n a0 x1 (x2 + 1) x3 (sI M a0 x2.toNatClampNeg x1))
def f_J7_fill_53178 (a0 : Nat) (x1 : Int32) (M : Mem) : Option Mem := L_J7_fill_53178_5 FU a0 x1 (0 : Int32) (Int32.ofNat (ln a0)) M
set_option maxRecDepth 100000 in
set_option maxHeartbeats 4000000 in
theorem l_J7_fill_53178_5 (Z : Sys) (X : Cx) (hR : xR X = rm_J7_fill_53178) {q : Mem} (hq : RetOk Z X none False (PostV q) 0 0) : ∀ (n : Nat) (a0 : Nat) (x1 : Int32) (x2 : Int32) (x3 : Int32) (M : Mem) (hs : St M) (k_a0 : K0[a0]? = some (10, (ln a0))) (hf : L_J7_fill_53178_5 n a0 x1 x2 x3 M = some q), G Z X Y_J7_fill_53178 False 0 0 5 [(0, .ref (zs Z + a0)), (1, .int x1), (2, .int x2), (3, .int x3)] [] M := by
  intro n
  induction n with
  | zero => intro a0 x1 x2 x3 M hs k_a0 hf; cases hf
  | succ n ih =>
    intro a0 x1 x2 x3 M hs k_a0 hf
    unfold L_J7_fill_53178_5 at hf
    refine G.iload_n 5 2 dJ7_fill_53178_5 rfl rfl ?_
    refine G.iload_n 6 3 dJ7_fill_53178_6 rfl rfl ?_
    refine G.icmp_ge 7 20 dJ7_fill_53178_7 (by decide) (fun h1 => ?_) (fun h1 => ?_)
    · replace hf := (if_pos h1).symm.trans hf
      (have hf9 := Option.some.inj hf; subst hf9)
      exact G.rV 20 hq dJ7_fill_53178_20 hs
    · replace hf := (if_neg h1).symm.trans hf
      refine G.aload_n 10 0 dJ7_fill_53178_10 rfl rfl ?_
      refine G.iload_n 11 2 dJ7_fill_53178_11 rfl rfl ?_
      refine G.iload_n 12 1 dJ7_fill_53178_12 rfl rfl ?_
      obtain ⟨g2, hf⟩ := gd_e hf
      refine G.ist 13 x2.toNatClampNeg (hs.k k_a0) g2 rfl dJ7_fill_53178_13 ?_
      refine G.iinc 14 2 (x2 + 1) [(2, .int (x2 + 1)), (0, .ref (zs Z + a0)), (1, .int x1), (3, .int x3)] dJ7_fill_53178_14 rfl (congrArg (fun z => x2 + z) (by decide +kernel)) (Nat.le_of_ble_eq_true rfl) rfl ?_
      refine G.goto 17 5 dJ7_fill_53178_17 (by decide) ?_
      refine G.locs [1, 2, 0, 3] rfl ?_
      exact ih a0 x1 (x2 + 1) x3 (sI M a0 x2.toNatClampNeg x1) (St.i hs) (ln_k k_a0) hf
set_option maxRecDepth 100000 in
set_option maxHeartbeats 4000000 in
theorem c_J7_fill_53178 (Z : Sys) {M : Mem} (hs : St M) (a0 : Nat) (x1 : Int32) (k_a0 : K0[a0]? = some (10, (ln a0))) {q : Mem} (hf : f_J7_fill_53178 a0 x1 M = some q) : Ct Z yJ7_fill_53178 cJ7_fill_53178 4 none rm_J7_fill_53178 [.ref (zs Z + a0), .int x1] M False (PostV q) := by
  refine Ct.of (by decide +kernel) (Nat.le_of_ble_eq_true rfl) (fun X hR hq _ => ?_)
  show G Z X Y_J7_fill_53178 False 0 0 0 [(0, .ref (zs Z + a0)), (1, .int x1)] [] M
  replace hq : RetOk Z X none False (PostV q) 0 0 := hq
  unfold f_J7_fill_53178 at hf
  refine G.iconst 0 (0 : Int32) dJ7_fill_53178_0 (by decide +kernel) ?_
  refine G.istore_n 1 [(2, .int (0 : Int32)), (0, .ref (zs Z + a0)), (1, .int x1)] dJ7_fill_53178_1 rfl (Nat.le_of_ble_eq_true rfl) rfl ?_
  refine G.aload_n 2 1 dJ7_fill_53178_2 rfl rfl ?_
  refine G.alen 3 (Int32.ofNat (ln a0)) (hs.k k_a0) (by decide) rfl dJ7_fill_53178_3 ?_
  refine G.istore_n 4 [(3, .int (Int32.ofNat (ln a0))), (2, .int (0 : Int32)), (0, .ref (zs Z + a0)), (1, .int x1)] dJ7_fill_53178_4 rfl (Nat.le_of_ble_eq_true rfl) rfl ?_
  refine G.locs [2, 3, 1, 0] rfl ?_
  exact l_J7_fill_53178_5 Z X hR hq FU a0 x1 (0 : Int32) (Int32.ofNat (ln a0)) M hs (ln_k k_a0) hf
abbrev Y_X1_begin : My := (cX1_begin, RX1, 4)
def rm_X1_begin : Room := { frames := 1, cells := 0, slots := 0, locals := 200 }
theorem dX1_begin_0 : decode cX1_begin 0 = .ok (.aload_n 0, 1) := by decide +kernel
theorem dX1_begin_1 : decode cX1_begin 1 = .ok (.iload_n 1, 1) := by decide +kernel
theorem dX1_begin_2 : decode cX1_begin 2 = .ok (.putfield 18, 3) := by decide +kernel
theorem dX1_begin_5 : decode cX1_begin 5 = .ok (.aload_n 0, 1) := by decide +kernel
theorem dX1_begin_6 : decode cX1_begin 6 = .ok (.iload_n 2, 1) := by decide +kernel
theorem dX1_begin_7 : decode cX1_begin 7 = .ok (.sipush 1000, 3) := by decide +kernel
theorem dX1_begin_10 : decode cX1_begin 10 = .ok (.idiv, 1) := by decide +kernel
theorem dX1_begin_11 : decode cX1_begin 11 = .ok (.putfield 22, 3) := by decide +kernel
theorem dX1_begin_14 : decode cX1_begin 14 = .ok (.aload_n 0, 1) := by decide +kernel
theorem dX1_begin_15 : decode cX1_begin 15 = .ok (.iload_n 2, 1) := by decide +kernel
theorem dX1_begin_16 : decode cX1_begin 16 = .ok (.bipush 100, 2) := by decide +kernel
theorem dX1_begin_18 : decode cX1_begin 18 = .ok (.idiv, 1) := by decide +kernel
theorem dX1_begin_19 : decode cX1_begin 19 = .ok (.bipush 10, 2) := by decide +kernel
theorem dX1_begin_21 : decode cX1_begin 21 = .ok (.irem, 1) := by decide +kernel
theorem dX1_begin_22 : decode cX1_begin 22 = .ok (.putfield 25, 3) := by decide +kernel
theorem dX1_begin_25 : decode cX1_begin 25 = .ok (.aload_n 0, 1) := by decide +kernel
theorem dX1_begin_26 : decode cX1_begin 26 = .ok (.iload_n 2, 1) := by decide +kernel
theorem dX1_begin_27 : decode cX1_begin 27 = .ok (.bipush 10, 2) := by decide +kernel
theorem dX1_begin_29 : decode cX1_begin 29 = .ok (.idiv, 1) := by decide +kernel
theorem dX1_begin_30 : decode cX1_begin 30 = .ok (.bipush 10, 2) := by decide +kernel
theorem dX1_begin_32 : decode cX1_begin 32 = .ok (.irem, 1) := by decide +kernel
theorem dX1_begin_33 : decode cX1_begin 33 = .ok (.putfield 28, 3) := by decide +kernel
theorem dX1_begin_36 : decode cX1_begin 36 = .ok (.aload_n 0, 1) := by decide +kernel
theorem dX1_begin_37 : decode cX1_begin 37 = .ok (.iload_n 3, 1) := by decide +kernel
theorem dX1_begin_38 : decode cX1_begin 38 = .ok (.putfield 31, 3) := by decide +kernel
theorem dX1_begin_41 : decode cX1_begin 41 = .ok (.aload_n 0, 1) := by decide +kernel
theorem dX1_begin_42 : decode cX1_begin 42 = .ok (.iconst 0, 1) := by decide +kernel
theorem dX1_begin_43 : decode cX1_begin 43 = .ok (.putfield 34, 3) := by decide +kernel
theorem dX1_begin_46 : decode cX1_begin 46 = .ok (.aload_n 0, 1) := by decide +kernel
theorem dX1_begin_47 : decode cX1_begin 47 = .ok (.iconst 0, 1) := by decide +kernel
theorem dX1_begin_48 : decode cX1_begin 48 = .ok (.putfield 37, 3) := by decide +kernel
theorem dX1_begin_51 : decode cX1_begin 51 = .ok (.aload_n 0, 1) := by decide +kernel
theorem dX1_begin_52 : decode cX1_begin 52 = .ok (.getfield 12, 3) := by decide +kernel
theorem dX1_begin_55 : decode cX1_begin 55 = .ok (.iconst 0, 1) := by decide +kernel
theorem dX1_begin_56 : decode cX1_begin 56 = .ok (.putfield 40, 3) := by decide +kernel
theorem dX1_begin_59 : decode cX1_begin 59 = .ok (.aload_n 0, 1) := by decide +kernel
theorem dX1_begin_60 : decode cX1_begin 60 = .ok (.getfield 12, 3) := by decide +kernel
theorem dX1_begin_63 : decode cX1_begin 63 = .ok (.iconst 0, 1) := by decide +kernel
theorem dX1_begin_64 : decode cX1_begin 64 = .ok (.putfield 43, 3) := by decide +kernel
theorem dX1_begin_67 : decode cX1_begin 67 = .ok (.aload_n 0, 1) := by decide +kernel
theorem dX1_begin_68 : decode cX1_begin 68 = .ok (.iconst 0, 1) := by decide +kernel
theorem dX1_begin_69 : decode cX1_begin 69 = .ok (.putfield 46, 3) := by decide +kernel
theorem dX1_begin_72 : decode cX1_begin 72 = .ok (.aload_n 0, 1) := by decide +kernel
theorem dX1_begin_73 : decode cX1_begin 73 = .ok (.iconst 1, 1) := by decide +kernel
theorem dX1_begin_74 : decode cX1_begin 74 = .ok (.putfield 50, 3) := by decide +kernel
theorem dX1_begin_77 : decode cX1_begin 77 = .ok (.return_, 1) := by decide +kernel
def f_X1_begin (a0 : Nat) (x1 : Int32) (x2 : Int32) (x3 : Int32) (M : Mem) : Option Mem := some (sI (sI (sI (sI (sI (sI (sI (sI (sI (sI (sI M a0 1 x1) a0 2 (x2 / (1000 : Int32))) a0 3 (jrem (x2 / (100 : Int32)) (10 : Int32))) a0 4 (jrem (x2 / (10 : Int32)) (10 : Int32))) a0 5 x3) a0 6 (0 : Int32)) a0 7 (0 : Int32)) (a0 + 1) 0 (0 : Int32)) (a0 + 1) 1 (0 : Int32)) a0 8 (0 : Int32)) a0 9 (1 : Int32))
set_option maxRecDepth 100000 in
set_option maxHeartbeats 4000000 in
theorem c_X1_begin (Z : Sys) {M : Mem} (hs : St M) (a0 : Nat) (x1 : Int32) (x2 : Int32) (x3 : Int32) (k_a0 : K0[a0]? = some (1, 12)) {q : Mem} (hf : f_X1_begin a0 x1 x2 x3 M = some q) : Ct Z yX1_begin cX1_begin 4 none rm_X1_begin [.ref (zs Z + a0), .int x1, .int x2, .int x3] M False (PostV q) := by
  refine Ct.of (by decide +kernel) (Nat.le_of_ble_eq_true rfl) (fun X hR hq _ => ?_)
  show G Z X Y_X1_begin False 0 0 0 [(0, .ref (zs Z + a0)), (1, .int x1), (2, .int x2), (3, .int x3)] [] M
  replace hq : RetOk Z X none False (PostV q) 0 0 := hq
  unfold f_X1_begin at hf
  refine G.aload_n 0 0 dX1_begin_0 rfl rfl ?_
  refine G.iload_n 1 1 dX1_begin_1 rfl rfl ?_
  refine G.puti 2 ck_1 1 (hs.k k_a0) (by decide) (by decide +kernel) rfl wd_189 rfl rfl dX1_begin_2 ?_
  refine G.aload_n 5 0 dX1_begin_5 rfl rfl ?_
  refine G.iload_n 6 2 dX1_begin_6 rfl rfl ?_
  refine G.sipush 7 (1000 : Int32) dX1_begin_7 (by decide +kernel) ?_
  refine G.idiv 10 dX1_begin_10 (by decide +kernel) ?_
  refine G.puti 11 ck_1 2 ((St.i hs).k k_a0) (by decide) (by decide +kernel) rfl wd_193 rfl rfl dX1_begin_11 ?_
  refine G.aload_n 14 0 dX1_begin_14 rfl rfl ?_
  refine G.iload_n 15 2 dX1_begin_15 rfl rfl ?_
  refine G.bipush 16 (100 : Int32) dX1_begin_16 (by decide +kernel) ?_
  refine G.idiv 18 dX1_begin_18 (by decide +kernel) ?_
  refine G.bipush 19 (10 : Int32) dX1_begin_19 (by decide +kernel) ?_
  refine G.iremJ 21 dX1_begin_21 (by decide +kernel) ?_
  refine G.puti 22 ck_1 3 ((St.i (St.i hs)).k k_a0) (by decide) (by decide +kernel) rfl wd_197 rfl rfl dX1_begin_22 ?_
  refine G.aload_n 25 0 dX1_begin_25 rfl rfl ?_
  refine G.iload_n 26 2 dX1_begin_26 rfl rfl ?_
  refine G.bipush 27 (10 : Int32) dX1_begin_27 (by decide +kernel) ?_
  refine G.idiv 29 dX1_begin_29 (by decide +kernel) ?_
  refine G.bipush 30 (10 : Int32) dX1_begin_30 (by decide +kernel) ?_
  refine G.iremJ 32 dX1_begin_32 (by decide +kernel) ?_
  refine G.puti 33 ck_1 4 ((St.i (St.i (St.i hs))).k k_a0) (by decide) (by decide +kernel) rfl wd_200 rfl rfl dX1_begin_33 ?_
  refine G.aload_n 36 0 dX1_begin_36 rfl rfl ?_
  refine G.iload_n 37 3 dX1_begin_37 rfl rfl ?_
  refine G.puti 38 ck_1 5 ((St.i (St.i (St.i (St.i hs)))).k k_a0) (by decide) (by decide +kernel) rfl wd_203 rfl rfl dX1_begin_38 ?_
  refine G.aload_n 41 0 dX1_begin_41 rfl rfl ?_
  refine G.iconst 42 (0 : Int32) dX1_begin_42 (by decide +kernel) ?_
  refine G.puti 43 ck_1 6 ((St.i (St.i (St.i (St.i (St.i hs))))).k k_a0) (by decide) (by decide +kernel) rfl wd_207 rfl rfl dX1_begin_43 ?_
  refine G.aload_n 46 0 dX1_begin_46 rfl rfl ?_
  refine G.iconst 47 (0 : Int32) dX1_begin_47 (by decide +kernel) ?_
  refine G.puti 48 ck_1 7 ((St.i (St.i (St.i (St.i (St.i (St.i hs)))))).k k_a0) (by decide) (by decide +kernel) rfl wd_210 rfl rfl dX1_begin_48 ?_
  refine G.aload_n 51 0 dX1_begin_51 rfl rfl ?_
  refine G.getp 52 ck_1 0 (a0 + 1) ((St.i (St.i (St.i (St.i (St.i (St.i (St.i hs))))))).k k_a0) (pt_1_0 (St.i (St.i (St.i (St.i (St.i (St.i (St.i hs))))))) k_a0).1 (by decide) (by decide +kernel) wd_186 dX1_begin_52 ?_
  refine G.iconst 55 (0 : Int32) dX1_begin_55 (by decide +kernel) ?_
  refine G.puti 56 ck_5 0 ((St.i (St.i (St.i (St.i (St.i (St.i (St.i hs))))))).k (pt_1_0 hs k_a0).2) (by decide) (by decide +kernel) rfl wd_175 rfl rfl dX1_begin_56 ?_
  refine G.aload_n 59 0 dX1_begin_59 rfl rfl ?_
  refine G.getp 60 ck_1 0 (a0 + 1) ((St.i (St.i (St.i (St.i (St.i (St.i (St.i (St.i hs)))))))).k k_a0) (pt_1_0 (St.i (St.i (St.i (St.i (St.i (St.i (St.i (St.i hs)))))))) k_a0).1 (by decide) (by decide +kernel) wd_186 dX1_begin_60 ?_
  refine G.iconst 63 (0 : Int32) dX1_begin_63 (by decide +kernel) ?_
  refine G.puti 64 ck_5 1 ((St.i (St.i (St.i (St.i (St.i (St.i (St.i (St.i hs)))))))).k (pt_1_0 hs k_a0).2) (by decide) (by decide +kernel) rfl wd_178 rfl rfl dX1_begin_64 ?_
  refine G.aload_n 67 0 dX1_begin_67 rfl rfl ?_
  refine G.iconst 68 (0 : Int32) dX1_begin_68 (by decide +kernel) ?_
  refine G.puti 69 ck_1 8 ((St.i (St.i (St.i (St.i (St.i (St.i (St.i (St.i (St.i hs))))))))).k k_a0) (by decide) (by decide +kernel) rfl wd_213 rfl rfl dX1_begin_69 ?_
  refine G.aload_n 72 0 dX1_begin_72 rfl rfl ?_
  refine G.iconst 73 (1 : Int32) dX1_begin_73 (by decide +kernel) ?_
  refine G.puti 74 ck_1 9 ((St.i (St.i (St.i (St.i (St.i (St.i (St.i (St.i (St.i (St.i hs)))))))))).k k_a0) (by decide) (by decide +kernel) rfl wd_220 rfl rfl dX1_begin_74 ?_
  (have hf9 := Option.some.inj hf; subst hf9)
  exact G.rV 77 hq dX1_begin_77 (St.i (St.i (St.i (St.i (St.i (St.i (St.i (St.i (St.i (St.i (St.i hs)))))))))))
abbrev Y_X0_addHall : My := (cX0_addHall, RX0, 4)
def rm_X0_addHall : Room := { frames := 2, cells := 0, slots := 0, locals := 223 }
theorem dX0_addHall_0 : decode cX0_addHall 0 = .ok (.aload_n 0, 1) := by decide +kernel
theorem dX0_addHall_1 : decode cX0_addHall 1 = .ok (.getfield 53, 3) := by decide +kernel
theorem dX0_addHall_4 : decode cX0_addHall 4 = .ok (.bipush 30, 2) := by decide +kernel
theorem dX0_addHall_6 : decode cX0_addHall 6 = .ok (.if_icmp .lt 6, 3) := by decide +kernel
theorem dX0_addHall_9 : decode cX0_addHall 9 = .ok (.bipush (-2), 2) := by decide +kernel
theorem dX0_addHall_11 : decode cX0_addHall 11 = .ok (.ireturn, 1) := by decide +kernel
theorem dX0_addHall_12 : decode cX0_addHall 12 = .ok (.aload_n 0, 1) := by decide +kernel
theorem dX0_addHall_13 : decode cX0_addHall 13 = .ok (.getfield 13, 3) := by decide +kernel
theorem dX0_addHall_16 : decode cX0_addHall 16 = .ok (.aload_n 0, 1) := by decide +kernel
theorem dX0_addHall_17 : decode cX0_addHall 17 = .ok (.getfield 53, 3) := by decide +kernel
theorem dX0_addHall_20 : decode cX0_addHall 20 = .ok (.aaload, 1) := by decide +kernel
theorem dX0_addHall_21 : decode cX0_addHall 21 = .ok (.iload_n 1, 1) := by decide +kernel
theorem dX0_addHall_22 : decode cX0_addHall 22 = .ok (.iload_n 2, 1) := by decide +kernel
theorem dX0_addHall_23 : decode cX0_addHall 23 = .ok (.iload_n 3, 1) := by decide +kernel
theorem dX0_addHall_24 : decode cX0_addHall 24 = .ok (.invokevirtual 74, 3) := by decide +kernel
theorem dX0_addHall_27 : decode cX0_addHall 27 = .ok (.aload_n 0, 1) := by decide +kernel
theorem dX0_addHall_28 : decode cX0_addHall 28 = .ok (.dup, 1) := by decide +kernel
theorem dX0_addHall_29 : decode cX0_addHall 29 = .ok (.getfield 53, 3) := by decide +kernel
theorem dX0_addHall_32 : decode cX0_addHall 32 = .ok (.iconst 1, 1) := by decide +kernel
theorem dX0_addHall_33 : decode cX0_addHall 33 = .ok (.iadd, 1) := by decide +kernel
theorem dX0_addHall_34 : decode cX0_addHall 34 = .ok (.putfield 53, 3) := by decide +kernel
theorem dX0_addHall_37 : decode cX0_addHall 37 = .ok (.aload_n 0, 1) := by decide +kernel
theorem dX0_addHall_38 : decode cX0_addHall 38 = .ok (.getfield 53, 3) := by decide +kernel
theorem dX0_addHall_41 : decode cX0_addHall 41 = .ok (.iconst 1, 1) := by decide +kernel
theorem dX0_addHall_42 : decode cX0_addHall 42 = .ok (.isub, 1) := by decide +kernel
theorem dX0_addHall_43 : decode cX0_addHall 43 = .ok (.ireturn, 1) := by decide +kernel
def f_X0_addHall (a0 : Nat) (x1 : Int32) (x2 : Int32) (x3 : Int32) (M : Mem) : Option (Int32 × Mem) := if (mI M a0 1) < (30 : Int32) then gd (inR (mI M a0 1) 30) ((f_X1_begin ((a0 + 1) + 23 + 2 * (mI M a0 1).toNatClampNeg) x1 x2 x3 M).bind fun q5 => some (((mI (sI q5 a0 1 ((mI q5 a0 1) + (1 : Int32))) a0 1) - (1 : Int32)), (sI q5 a0 1 ((mI q5 a0 1) + (1 : Int32))))) else some ((-2 : Int32), M)
set_option maxRecDepth 100000 in
set_option maxHeartbeats 4000000 in
theorem c_X0_addHall (Z : Sys) {M : Mem} (hs : St M) (a0 : Nat) (x1 : Int32) (x2 : Int32) (x3 : Int32) (k_a0 : K0[a0]? = some (0, 12)) {q : Int32 × Mem} (hf : f_X0_addHall a0 x1 x2 x3 M = some q) : Ct Z yX0_addHall cX0_addHall 4 (some .int) rm_X0_addHall [.ref (zs Z + a0), .int x1, .int x2, .int x3] M False (PostI q.1 q.2) := by
  refine Ct.of (by decide +kernel) (Nat.le_of_ble_eq_true rfl) (fun X hR hq _ => ?_)
  show G Z X Y_X0_addHall False 0 0 0 [(0, .ref (zs Z + a0)), (1, .int x1), (2, .int x2), (3, .int x3)] [] M
  replace hq : RetOk Z X (some .int) False (PostI q.1 q.2) 0 0 := hq
  unfold f_X0_addHall at hf
  refine G.aload_n 0 0 dX0_addHall_0 rfl rfl ?_
  refine G.geti 1 ck_0 1 (hs.k k_a0) (by decide) (by decide +kernel) wd_261 dX0_addHall_1 ?_
  refine G.bipush 4 (30 : Int32) dX0_addHall_4 (by decide +kernel) ?_
  refine G.icmp_lt 6 12 dX0_addHall_6 (by decide) (fun h1 => ?_) (fun h1 => ?_)
  · replace hf := (if_pos h1).symm.trans hf
    refine G.aload_n 12 0 dX0_addHall_12 rfl rfl ?_
    refine G.getp 13 ck_0 0 (a0 + 1) (hs.k k_a0) (pt_0_0 hs k_a0).1 (by decide) (by decide +kernel) wd_257 dX0_addHall_13 ?_
    refine G.aload_n 16 0 dX0_addHall_16 rfl rfl ?_
    refine G.geti 17 ck_0 1 (hs.k k_a0) (by decide) (by decide +kernel) wd_261 dX0_addHall_17 ?_
    obtain ⟨g2, hf⟩ := gd_e hf
    refine G.aa 20 (mI M a0 1).toNatClampNeg ((a0 + 1) + 23 + 2 * (mI M a0 1).toNatClampNeg) (hs.k (pt_0_0 hs k_a0).2) (by decide) rfl rfl g2 rfl (pa_13 hs (pt_0_0 hs k_a0).2 (inlt g2)).1 dX0_addHall_20 ?_
    refine G.iload_n 21 1 dX0_addHall_21 rfl rfl ?_
    refine G.iload_n 22 2 dX0_addHall_22 rfl rfl ?_
    refine G.iload_n 23 3 dX0_addHall_23 rfl rfl ?_
    obtain ⟨q5, e6, hf⟩ := bd_e hf
    refine G.cvV 24 (As := [.int x1, .int x2, .int x3]) ck_1 (hs.k (pa_13 hs (pt_0_0 hs k_a0).2 (inlt g2)).2) (c_X1_begin Z hs ((a0 + 1) + 23 + 2 * (mI M a0 1).toNatClampNeg) x1 x2 x3 (pa_13 hs (pt_0_0 hs k_a0).2 (inlt g2)).2 e6) mk_X1_begin vk_X1_begin rfl wd_436 hR (by decide +kernel) ⟨rfl, rfl⟩ rfl (Nat.le_of_ble_eq_true rfl) dX0_addHall_24 (fun hs3 => ?_)
    refine G.aload_n 27 0 dX0_addHall_27 rfl rfl ?_
    refine G.dup 28 dX0_addHall_28 rfl ?_
    refine G.geti 29 ck_0 1 (hs3.k k_a0) (by decide) (by decide +kernel) wd_261 dX0_addHall_29 ?_
    refine G.iconst 32 (1 : Int32) dX0_addHall_32 (by decide +kernel) ?_
    refine G.iadd 33 dX0_addHall_33 ?_
    refine G.puti 34 ck_0 1 (hs3.k k_a0) (by decide) (by decide +kernel) rfl wd_261 rfl rfl dX0_addHall_34 ?_
    refine G.aload_n 37 0 dX0_addHall_37 rfl rfl ?_
    refine G.geti 38 ck_0 1 ((St.i hs3).k k_a0) (by decide) (by decide +kernel) wd_261 dX0_addHall_38 ?_
    refine G.iconst 41 (1 : Int32) dX0_addHall_41 (by decide +kernel) ?_
    refine G.isub 42 dX0_addHall_42 ?_
    (have hf9 := Option.some.inj hf; subst hf9)
    exact G.rI 43 hq dX0_addHall_43 (St.i hs3)
  · replace hf := (if_neg h1).symm.trans hf
    refine G.bipush 9 (-2 : Int32) dX0_addHall_9 (by decide +kernel) ?_
    (have hf9 := Option.some.inj hf; subst hf9)
    exact G.rI 11 hq dX0_addHall_11 hs
abbrev Y_X0_addMark : My := (cX0_addMark, RX0, 3)
def rm_X0_addMark : Room := { frames := 1, cells := 0, slots := 0, locals := 200 }
theorem dX0_addMark_0 : decode cX0_addMark 0 = .ok (.aload_n 0, 1) := by decide +kernel
theorem dX0_addMark_1 : decode cX0_addMark 1 = .ok (.getfield 67, 3) := by decide +kernel
theorem dX0_addMark_4 : decode cX0_addMark 4 = .ok (.bipush 10, 2) := by decide +kernel
theorem dX0_addMark_6 : decode cX0_addMark 6 = .ok (.if_icmp .lt 6, 3) := by decide +kernel
theorem dX0_addMark_9 : decode cX0_addMark 9 = .ok (.bipush (-2), 2) := by decide +kernel
theorem dX0_addMark_11 : decode cX0_addMark 11 = .ok (.ireturn, 1) := by decide +kernel
theorem dX0_addMark_12 : decode cX0_addMark 12 = .ok (.aload_n 1, 1) := by decide +kernel
theorem dX0_addMark_13 : decode cX0_addMark 13 = .ok (.iconst 0, 1) := by decide +kernel
theorem dX0_addMark_14 : decode cX0_addMark 14 = .ok (.aload_n 0, 1) := by decide +kernel
theorem dX0_addMark_15 : decode cX0_addMark 15 = .ok (.getfield 33, 3) := by decide +kernel
theorem dX0_addMark_18 : decode cX0_addMark 18 = .ok (.aload_n 0, 1) := by decide +kernel
theorem dX0_addMark_19 : decode cX0_addMark 19 = .ok (.getfield 67, 3) := by decide +kernel
theorem dX0_addMark_22 : decode cX0_addMark 22 = .ok (.aaload, 1) := by decide +kernel
theorem dX0_addMark_23 : decode cX0_addMark 23 = .ok (.iconst 0, 1) := by decide +kernel
theorem dX0_addMark_24 : decode cX0_addMark 24 = .ok (.bipush 80, 2) := by decide +kernel
theorem dX0_addMark_26 : decode cX0_addMark 26 = .ok (.invokestatic 61, 3) := by decide +kernel
theorem dX0_addMark_29 : decode cX0_addMark 29 = .ok (.aload_n 0, 1) := by decide +kernel
theorem dX0_addMark_30 : decode cX0_addMark 30 = .ok (.getfield 36, 3) := by decide +kernel
theorem dX0_addMark_33 : decode cX0_addMark 33 = .ok (.aload_n 0, 1) := by decide +kernel
theorem dX0_addMark_34 : decode cX0_addMark 34 = .ok (.getfield 67, 3) := by decide +kernel
theorem dX0_addMark_37 : decode cX0_addMark 37 = .ok (.iload_n 2, 1) := by decide +kernel
theorem dX0_addMark_38 : decode cX0_addMark 38 = .ok (.iastore, 1) := by decide +kernel
theorem dX0_addMark_39 : decode cX0_addMark 39 = .ok (.aload_n 0, 1) := by decide +kernel
theorem dX0_addMark_40 : decode cX0_addMark 40 = .ok (.dup, 1) := by decide +kernel
theorem dX0_addMark_41 : decode cX0_addMark 41 = .ok (.getfield 67, 3) := by decide +kernel
theorem dX0_addMark_44 : decode cX0_addMark 44 = .ok (.iconst 1, 1) := by decide +kernel
theorem dX0_addMark_45 : decode cX0_addMark 45 = .ok (.iadd, 1) := by decide +kernel
theorem dX0_addMark_46 : decode cX0_addMark 46 = .ok (.putfield 67, 3) := by decide +kernel
theorem dX0_addMark_49 : decode cX0_addMark 49 = .ok (.aload_n 0, 1) := by decide +kernel
theorem dX0_addMark_50 : decode cX0_addMark 50 = .ok (.getfield 67, 3) := by decide +kernel
theorem dX0_addMark_53 : decode cX0_addMark 53 = .ok (.iconst 1, 1) := by decide +kernel
theorem dX0_addMark_54 : decode cX0_addMark 54 = .ok (.isub, 1) := by decide +kernel
theorem dX0_addMark_55 : decode cX0_addMark 55 = .ok (.ireturn, 1) := by decide +kernel
def f_X0_addMark (a0 : Nat) (a1 : Nat) (x2 : Int32) (M : Mem) : Option (Int32 × Mem) := if (mI M a0 8) < (10 : Int32) then gd (inR (mI M a0 8) 10) (gd (¬ (0 : Int32) < 0) (gd (¬ (0 : Int32) < 0) (gd (¬ (80 : Int32) < 0) (gd ((0 : Int32).toNatClampNeg + (80 : Int32).toNatClampNeg ≤ (ln a1)) (gd ((0 : Int32).toNatClampNeg + (80 : Int32).toNatClampNeg ≤ 80) (gd (inR (mI (cI M a1 (0 : Int32).toNatClampNeg ((a0 + 6) + 1 + 1 * (mI M a0 8).toNatClampNeg) (0 : Int32).toNatClampNeg (80 : Int32).toNatClampNeg) a0 8) 10) (some (((mI (sI (sI (cI M a1 (0 : Int32).toNatClampNeg ((a0 + 6) + 1 + 1 * (mI M a0 8).toNatClampNeg) (0 : Int32).toNatClampNeg (80 : Int32).toNatClampNeg) (a0 + 17) (mI (cI M a1 (0 : Int32).toNatClampNeg ((a0 + 6) + 1 + 1 * (mI M a0 8).toNatClampNeg) (0 : Int32).toNatClampNeg (80 : Int32).toNatClampNeg) a0 8).toNatClampNeg x2) a0 8 ((mI (sI (cI M a1 (0 : Int32).toNatClampNeg ((a0 + 6) + 1 + 1 * (mI M a0 8).toNatClampNeg) (0 : Int32).toNatClampNeg (80 : Int32).toNatClampNeg) (a0 + 17) (mI (cI M a1 (0 : Int32).toNatClampNeg ((a0 + 6) + 1 + 1 * (mI M a0 8).toNatClampNeg) (0 : Int32).toNatClampNeg (80 : Int32).toNatClampNeg) a0 8).toNatClampNeg x2) a0 8) + (1 : Int32))) a0 8) - (1 : Int32)), (sI (sI (cI M a1 (0 : Int32).toNatClampNeg ((a0 + 6) + 1 + 1 * (mI M a0 8).toNatClampNeg) (0 : Int32).toNatClampNeg (80 : Int32).toNatClampNeg) (a0 + 17) (mI (cI M a1 (0 : Int32).toNatClampNeg ((a0 + 6) + 1 + 1 * (mI M a0 8).toNatClampNeg) (0 : Int32).toNatClampNeg (80 : Int32).toNatClampNeg) a0 8).toNatClampNeg x2) a0 8 ((mI (sI (cI M a1 (0 : Int32).toNatClampNeg ((a0 + 6) + 1 + 1 * (mI M a0 8).toNatClampNeg) (0 : Int32).toNatClampNeg (80 : Int32).toNatClampNeg) (a0 + 17) (mI (cI M a1 (0 : Int32).toNatClampNeg ((a0 + 6) + 1 + 1 * (mI M a0 8).toNatClampNeg) (0 : Int32).toNatClampNeg (80 : Int32).toNatClampNeg) a0 8).toNatClampNeg x2) a0 8) + (1 : Int32))))))))))) else some ((-2 : Int32), M)
set_option maxRecDepth 100000 in
set_option maxHeartbeats 4000000 in
theorem c_X0_addMark (Z : Sys) {M : Mem} (hs : St M) (a0 : Nat) (a1 : Nat) (x2 : Int32) (k_a0 : K0[a0]? = some (0, 12)) (k_a1 : K0[a1]? = some (10, (ln a1))) {q : Int32 × Mem} (hf : f_X0_addMark a0 a1 x2 M = some q) : Ct Z yX0_addMark cX0_addMark 3 (some .int) rm_X0_addMark [.ref (zs Z + a0), .ref (zs Z + a1), .int x2] M False (PostI q.1 q.2) := by
  refine Ct.of (by decide +kernel) (Nat.le_of_ble_eq_true rfl) (fun X hR hq _ => ?_)
  show G Z X Y_X0_addMark False 0 0 0 [(0, .ref (zs Z + a0)), (1, .ref (zs Z + a1)), (2, .int x2)] [] M
  replace hq : RetOk Z X (some .int) False (PostI q.1 q.2) 0 0 := hq
  unfold f_X0_addMark at hf
  refine G.aload_n 0 0 dX0_addMark_0 rfl rfl ?_
  refine G.geti 1 ck_0 8 (hs.k k_a0) (by decide) (by decide +kernel) wd_275 dX0_addMark_1 ?_
  refine G.bipush 4 (10 : Int32) dX0_addMark_4 (by decide +kernel) ?_
  refine G.icmp_lt 6 12 dX0_addMark_6 (by decide) (fun h1 => ?_) (fun h1 => ?_)
  · replace hf := (if_pos h1).symm.trans hf
    refine G.aload_n 12 1 dX0_addMark_12 rfl rfl ?_
    refine G.iconst 13 (0 : Int32) dX0_addMark_13 (by decide +kernel) ?_
    refine G.aload_n 14 0 dX0_addMark_14 rfl rfl ?_
    refine G.getp 15 ck_0 6 (a0 + 6) (hs.k k_a0) (pt_0_6 hs k_a0).1 (by decide) (by decide +kernel) wd_273 dX0_addMark_15 ?_
    refine G.aload_n 18 0 dX0_addMark_18 rfl rfl ?_
    refine G.geti 19 ck_0 8 (hs.k k_a0) (by decide) (by decide +kernel) wd_275 dX0_addMark_19 ?_
    obtain ⟨g2, hf⟩ := gd_e hf
    refine G.aa 22 (mI M a0 8).toNatClampNeg ((a0 + 6) + 1 + 1 * (mI M a0 8).toNatClampNeg) (hs.k (pt_0_6 hs k_a0).2) (by decide) rfl rfl g2 rfl (pa_15 hs (pt_0_6 hs k_a0).2 (inlt g2)).1 dX0_addMark_22 ?_
    refine G.iconst 23 (0 : Int32) dX0_addMark_23 (by decide +kernel) ?_
    refine G.bipush 24 (80 : Int32) dX0_addMark_24 (by decide +kernel) ?_
    obtain ⟨g3, hf⟩ := gd_e hf
    obtain ⟨g4, hf⟩ := gd_e hf
    obtain ⟨g5, hf⟩ := gd_e hf
    obtain ⟨g6, hf⟩ := gd_e hf
    obtain ⟨g7, hf⟩ := gd_e hf
    refine G.copyi 26 (hs.k k_a1) (hs.k (pa_15 hs (pt_0_6 hs k_a0).2 (inlt g2)).2) wd_843 wd_845 wd_844 wd_90 g3 g4 g5 g6 g7 hR ⟨Nat.le_of_ble_eq_true rfl, Nat.le_of_ble_eq_true rfl⟩ dX0_addMark_26 ?_
    refine G.aload_n 29 0 dX0_addMark_29 rfl rfl ?_
    refine G.getp 30 ck_0 7 (a0 + 17) ((St.c hs).k k_a0) (pt_0_7 (St.c hs) k_a0).1 (by decide) (by decide +kernel) wd_274 dX0_addMark_30 ?_
    refine G.aload_n 33 0 dX0_addMark_33 rfl rfl ?_
    refine G.geti 34 ck_0 8 ((St.c hs).k k_a0) (by decide) (by decide +kernel) wd_275 dX0_addMark_34 ?_
    refine G.iload_n 37 2 dX0_addMark_37 rfl rfl ?_
    obtain ⟨g8, hf⟩ := gd_e hf
    refine G.ist 38 (mI (cI M a1 (0 : Int32).toNatClampNeg ((a0 + 6) + 1 + 1 * (mI M a0 8).toNatClampNeg) (0 : Int32).toNatClampNeg (80 : Int32).toNatClampNeg) a0 8).toNatClampNeg ((St.c hs).k (pt_0_7 hs k_a0).2) g8 rfl dX0_addMark_38 ?_
    refine G.aload_n 39 0 dX0_addMark_39 rfl rfl ?_
    refine G.dup 40 dX0_addMark_40 rfl ?_
    refine G.geti 41 ck_0 8 ((St.i (St.c hs)).k k_a0) (by decide) (by decide +kernel) wd_275 dX0_addMark_41 ?_
    refine G.iconst 44 (1 : Int32) dX0_addMark_44 (by decide +kernel) ?_
    refine G.iadd 45 dX0_addMark_45 ?_
    refine G.puti 46 ck_0 8 ((St.i (St.c hs)).k k_a0) (by decide) (by decide +kernel) rfl wd_275 rfl rfl dX0_addMark_46 ?_
    refine G.aload_n 49 0 dX0_addMark_49 rfl rfl ?_
    refine G.geti 50 ck_0 8 ((St.i (St.i (St.c hs))).k k_a0) (by decide) (by decide +kernel) wd_275 dX0_addMark_50 ?_
    refine G.iconst 53 (1 : Int32) dX0_addMark_53 (by decide +kernel) ?_
    refine G.isub 54 dX0_addMark_54 ?_
    (have hf9 := Option.some.inj hf; subst hf9)
    exact G.rI 55 hq dX0_addMark_55 (St.i (St.i (St.c hs)))
  · replace hf := (if_neg h1).symm.trans hf
    refine G.bipush 9 (-2 : Int32) dX0_addMark_9 (by decide +kernel) ?_
    (have hf9 := Option.some.inj hf; subst hf9)
    exact G.rI 11 hq dX0_addMark_11 hs
abbrev Y_X0_allLists : My := (cX0_allLists, RX0, 3)
def rm_X0_allLists : Room := { frames := 1, cells := 0, slots := 0, locals := 200 }
theorem dX0_allLists_0 : decode cX0_allLists 0 = .ok (.iconst 0, 1) := by decide +kernel
theorem dX0_allLists_1 : decode cX0_allLists 1 = .ok (.istore_n 1, 1) := by decide +kernel
theorem dX0_allLists_2 : decode cX0_allLists 2 = .ok (.iconst 0, 1) := by decide +kernel
theorem dX0_allLists_3 : decode cX0_allLists 3 = .ok (.istore_n 2, 1) := by decide +kernel
theorem dX0_allLists_4 : decode cX0_allLists 4 = .ok (.iload_n 2, 1) := by decide +kernel
theorem dX0_allLists_5 : decode cX0_allLists 5 = .ok (.aload_n 0, 1) := by decide +kernel
theorem dX0_allLists_6 : decode cX0_allLists 6 = .ok (.getfield 53, 3) := by decide +kernel
theorem dX0_allLists_9 : decode cX0_allLists 9 = .ok (.if_icmp .ge 21, 3) := by decide +kernel
theorem dX0_allLists_12 : decode cX0_allLists 12 = .ok (.iload_n 1, 1) := by decide +kernel
theorem dX0_allLists_13 : decode cX0_allLists 13 = .ok (.aload_n 0, 1) := by decide +kernel
theorem dX0_allLists_14 : decode cX0_allLists 14 = .ok (.getfield 13, 3) := by decide +kernel
theorem dX0_allLists_17 : decode cX0_allLists 17 = .ok (.iload_n 2, 1) := by decide +kernel
theorem dX0_allLists_18 : decode cX0_allLists 18 = .ok (.aaload, 1) := by decide +kernel
theorem dX0_allLists_19 : decode cX0_allLists 19 = .ok (.getfield 89, 3) := by decide +kernel
theorem dX0_allLists_22 : decode cX0_allLists 22 = .ok (.iadd, 1) := by decide +kernel
theorem dX0_allLists_23 : decode cX0_allLists 23 = .ok (.istore_n 1, 1) := by decide +kernel
theorem dX0_allLists_24 : decode cX0_allLists 24 = .ok (.iinc 2 1, 3) := by decide +kernel
theorem dX0_allLists_27 : decode cX0_allLists 27 = .ok (.goto (-23), 3) := by decide +kernel
theorem dX0_allLists_30 : decode cX0_allLists 30 = .ok (.iload_n 1, 1) := by decide +kernel
theorem dX0_allLists_31 : decode cX0_allLists 31 = .ok (.ireturn, 1) := by decide +kernel
def L_X0_allLists_4 : Nat → Nat → Int32 → Int32 → Mem → Option Int32
  | 0, _, _, _, _ => none
  | n + 1, a0, x1, x2, M => if (mI M a0 1) ≤ x2 then some x1 else gd (inR x2 30) (L_X0_allLists_4 n a0 (x1 + (mI M ((a0 + 1) + 23 + 2 * x2.toNatClampNeg) 1)) (x2 + 1) M)
def f_X0_allLists (a0 : Nat) (M : Mem) : Option Int32 := L_X0_allLists_4 FU a0 (0 : Int32) (0 : Int32) M
set_option maxRecDepth 100000 in
set_option maxHeartbeats 4000000 in
theorem l_X0_allLists_4 (Z : Sys) (X : Cx) (hR : xR X = rm_X0_allLists) {q : Int32} {M : Mem} (hq : RetOk Z X (some .int) False (PostI q M) 0 0) : ∀ (n : Nat) (a0 : Nat) (x1 : Int32) (x2 : Int32) (hs : St M) (k_a0 : K0[a0]? = some (0, 12)) (hf : L_X0_allLists_4 n a0 x1 x2 M = some q), G Z X Y_X0_allLists False 0 0 4 [(0, .ref (zs Z + a0)), (1, .int x1), (2, .int x2)] [] M := by
  intro n
  induction n with
  | zero => intro a0 x1 x2 hs k_a0 hf; cases hf
  | succ n ih =>
    intro a0 x1 x2 hs k_a0 hf
    unfold L_X0_allLists_4 at hf
    refine G.iload_n 4 2 dX0_allLists_4 rfl rfl ?_
    refine G.aload_n 5 0 dX0_allLists_5 rfl rfl ?_
    refine G.geti 6 ck_0 1 (hs.k k_a0) (by decide) (by decide +kernel) wd_261 dX0_allLists_6 ?_
    refine G.icmp_ge 9 30 dX0_allLists_9 (by decide) (fun h1 => ?_) (fun h1 => ?_)
    · replace hf := (if_pos h1).symm.trans hf
      refine G.iload_n 30 1 dX0_allLists_30 rfl rfl ?_
      (have hf9 := Option.some.inj hf; subst hf9)
      exact G.rI 31 hq dX0_allLists_31 hs
    · replace hf := (if_neg h1).symm.trans hf
      refine G.iload_n 12 1 dX0_allLists_12 rfl rfl ?_
      refine G.aload_n 13 0 dX0_allLists_13 rfl rfl ?_
      refine G.getp 14 ck_0 0 (a0 + 1) (hs.k k_a0) (pt_0_0 hs k_a0).1 (by decide) (by decide +kernel) wd_257 dX0_allLists_14 ?_
      refine G.iload_n 17 2 dX0_allLists_17 rfl rfl ?_
      obtain ⟨g2, hf⟩ := gd_e hf
      refine G.aa 18 x2.toNatClampNeg ((a0 + 1) + 23 + 2 * x2.toNatClampNeg) (hs.k (pt_0_0 hs k_a0).2) (by decide) rfl rfl g2 rfl (pa_13 hs (pt_0_0 hs k_a0).2 (inlt g2)).1 dX0_allLists_18 ?_
      refine G.geti 19 ck_1 1 (hs.k (pa_13 hs (pt_0_0 hs k_a0).2 (inlt g2)).2) (by decide) (by decide +kernel) wd_192 dX0_allLists_19 ?_
      refine G.iadd 22 dX0_allLists_22 ?_
      refine G.istore_n 23 [(1, .int (x1 + (mI M ((a0 + 1) + 23 + 2 * x2.toNatClampNeg) 1))), (0, .ref (zs Z + a0)), (2, .int x2)] dX0_allLists_23 rfl (Nat.le_of_ble_eq_true rfl) rfl ?_
      refine G.iinc 24 2 (x2 + 1) [(2, .int (x2 + 1)), (1, .int (x1 + (mI M ((a0 + 1) + 23 + 2 * x2.toNatClampNeg) 1))), (0, .ref (zs Z + a0))] dX0_allLists_24 rfl (congrArg (fun z => x2 + z) (by decide +kernel)) (Nat.le_of_ble_eq_true rfl) rfl ?_
      refine G.goto 27 4 dX0_allLists_27 (by decide) ?_
      refine G.locs [2, 1, 0] rfl ?_
      exact ih a0 (x1 + (mI M ((a0 + 1) + 23 + 2 * x2.toNatClampNeg) 1)) (x2 + 1) hs k_a0 hf
set_option maxRecDepth 100000 in
set_option maxHeartbeats 4000000 in
theorem c_X0_allLists (Z : Sys) {M : Mem} (hs : St M) (a0 : Nat) (k_a0 : K0[a0]? = some (0, 12)) {q : Int32} (hf : f_X0_allLists a0 M = some q) : Ct Z yX0_allLists cX0_allLists 3 (some .int) rm_X0_allLists [.ref (zs Z + a0)] M False (PostI q M) := by
  refine Ct.of (by decide +kernel) (Nat.le_of_ble_eq_true rfl) (fun X hR hq _ => ?_)
  show G Z X Y_X0_allLists False 0 0 0 [(0, .ref (zs Z + a0))] [] M
  replace hq : RetOk Z X (some .int) False (PostI q M) 0 0 := hq
  unfold f_X0_allLists at hf
  refine G.iconst 0 (0 : Int32) dX0_allLists_0 (by decide +kernel) ?_
  refine G.istore_n 1 [(1, .int (0 : Int32)), (0, .ref (zs Z + a0))] dX0_allLists_1 rfl (Nat.le_of_ble_eq_true rfl) rfl ?_
  refine G.iconst 2 (0 : Int32) dX0_allLists_2 (by decide +kernel) ?_
  refine G.istore_n 3 [(2, .int (0 : Int32)), (1, .int (0 : Int32)), (0, .ref (zs Z + a0))] dX0_allLists_3 rfl (Nat.le_of_ble_eq_true rfl) rfl ?_
  refine G.locs [2, 1, 0] rfl ?_
  exact l_X0_allLists_4 Z X hR hq FU a0 (0 : Int32) (0 : Int32) hs k_a0 hf
abbrev Y_X1_mustBe : My := (cX1_mustBe, RX1, 1)
def rm_X1_mustBe : Room := { frames := 1, cells := 0, slots := 0, locals := 200 }
theorem dX1_mustBe_0 : decode cX1_mustBe 0 = .ok (.iconst 0, 1) := by decide +kernel
theorem dX1_mustBe_1 : decode cX1_mustBe 1 = .ok (.aload_n 0, 1) := by decide +kernel
theorem dX1_mustBe_2 : decode cX1_mustBe 2 = .ok (.getfield 57, 3) := by decide +kernel
theorem dX1_mustBe_5 : decode cX1_mustBe 5 = .ok (.aload_n 0, 1) := by decide +kernel
theorem dX1_mustBe_6 : decode cX1_mustBe 6 = .ok (.getfield 18, 3) := by decide +kernel
theorem dX1_mustBe_9 : decode cX1_mustBe 9 = .ok (.isub, 1) := by decide +kernel
theorem dX1_mustBe_10 : decode cX1_mustBe 10 = .ok (.invokestatic 80, 3) := by decide +kernel
theorem dX1_mustBe_13 : decode cX1_mustBe 13 = .ok (.ireturn, 1) := by decide +kernel
def f_X1_mustBe (a0 : Nat) (M : Mem) : Int32 := (jmax (0 : Int32) ((mI M a0 10) - (mI M a0 1)))
set_option maxRecDepth 100000 in
set_option maxHeartbeats 4000000 in
theorem c_X1_mustBe (Z : Sys) {M : Mem} (hs : St M) (a0 : Nat) (k_a0 : K0[a0]? = some (1, 12)) {q : Int32} (hf : f_X1_mustBe a0 M = q) : Ct Z yX1_mustBe cX1_mustBe 1 (some .int) rm_X1_mustBe [.ref (zs Z + a0)] M False (PostI q M) := by
  refine Ct.of (by decide +kernel) (Nat.le_of_ble_eq_true rfl) (fun X hR hq _ => ?_)
  show G Z X Y_X1_mustBe False 0 0 0 [(0, .ref (zs Z + a0))] [] M
  replace hq : RetOk Z X (some .int) False (PostI q M) 0 0 := hq
  unfold f_X1_mustBe at hf
  refine G.iconst 0 (0 : Int32) dX1_mustBe_0 (by decide +kernel) ?_
  refine G.aload_n 1 0 dX1_mustBe_1 rfl rfl ?_
  refine G.geti 2 ck_1 10 (hs.k k_a0) (by decide) (by decide +kernel) wd_224 dX1_mustBe_2 ?_
  refine G.aload_n 5 0 dX1_mustBe_5 rfl rfl ?_
  refine G.geti 6 ck_1 1 (hs.k k_a0) (by decide) (by decide +kernel) wd_189 dX1_mustBe_6 ?_
  refine G.isub 9 dX1_mustBe_9 ?_
  refine G.mmaxJ 10 wd_757 wd_546 wd_87 wd_547 hR ⟨Nat.le_of_ble_eq_true rfl, Nat.le_of_ble_eq_true rfl, Nat.le_of_ble_eq_true rfl, Nat.le_of_ble_eq_true rfl⟩ dX1_mustBe_10 ?_
  subst hf
  exact G.rI 13 hq dX1_mustBe_13 hs
abbrev Y_X0_allMustBe : My := (cX0_allMustBe, RX0, 3)
def rm_X0_allMustBe : Room := { frames := 2, cells := 0, slots := 0, locals := 220 }
theorem dX0_allMustBe_0 : decode cX0_allMustBe 0 = .ok (.iconst 0, 1) := by decide +kernel
theorem dX0_allMustBe_1 : decode cX0_allMustBe 1 = .ok (.istore_n 1, 1) := by decide +kernel
theorem dX0_allMustBe_2 : decode cX0_allMustBe 2 = .ok (.iconst 0, 1) := by decide +kernel
theorem dX0_allMustBe_3 : decode cX0_allMustBe 3 = .ok (.istore_n 2, 1) := by decide +kernel
theorem dX0_allMustBe_4 : decode cX0_allMustBe 4 = .ok (.iload_n 2, 1) := by decide +kernel
theorem dX0_allMustBe_5 : decode cX0_allMustBe 5 = .ok (.aload_n 0, 1) := by decide +kernel
theorem dX0_allMustBe_6 : decode cX0_allMustBe 6 = .ok (.getfield 53, 3) := by decide +kernel
theorem dX0_allMustBe_9 : decode cX0_allMustBe 9 = .ok (.if_icmp .ge 37, 3) := by decide +kernel
theorem dX0_allMustBe_12 : decode cX0_allMustBe 12 = .ok (.iload_n 1, 1) := by decide +kernel
theorem dX0_allMustBe_13 : decode cX0_allMustBe 13 = .ok (.aload_n 0, 1) := by decide +kernel
theorem dX0_allMustBe_14 : decode cX0_allMustBe 14 = .ok (.getfield 13, 3) := by decide +kernel
theorem dX0_allMustBe_17 : decode cX0_allMustBe 17 = .ok (.iload_n 2, 1) := by decide +kernel
theorem dX0_allMustBe_18 : decode cX0_allMustBe 18 = .ok (.aaload, 1) := by decide +kernel
theorem dX0_allMustBe_19 : decode cX0_allMustBe 19 = .ok (.getfield 78, 3) := by decide +kernel
theorem dX0_allMustBe_22 : decode cX0_allMustBe 22 = .ok (.ifCond .eq 7, 3) := by decide +kernel
theorem dX0_allMustBe_25 : decode cX0_allMustBe 25 = .ok (.iconst 0, 1) := by decide +kernel
theorem dX0_allMustBe_26 : decode cX0_allMustBe 26 = .ok (.goto 12, 3) := by decide +kernel
theorem dX0_allMustBe_29 : decode cX0_allMustBe 29 = .ok (.aload_n 0, 1) := by decide +kernel
theorem dX0_allMustBe_30 : decode cX0_allMustBe 30 = .ok (.getfield 13, 3) := by decide +kernel
theorem dX0_allMustBe_33 : decode cX0_allMustBe 33 = .ok (.iload_n 2, 1) := by decide +kernel
theorem dX0_allMustBe_34 : decode cX0_allMustBe 34 = .ok (.aaload, 1) := by decide +kernel
theorem dX0_allMustBe_35 : decode cX0_allMustBe 35 = .ok (.invokevirtual 166, 3) := by decide +kernel
theorem dX0_allMustBe_38 : decode cX0_allMustBe 38 = .ok (.iadd, 1) := by decide +kernel
theorem dX0_allMustBe_39 : decode cX0_allMustBe 39 = .ok (.istore_n 1, 1) := by decide +kernel
theorem dX0_allMustBe_40 : decode cX0_allMustBe 40 = .ok (.iinc 2 1, 3) := by decide +kernel
theorem dX0_allMustBe_43 : decode cX0_allMustBe 43 = .ok (.goto (-39), 3) := by decide +kernel
theorem dX0_allMustBe_46 : decode cX0_allMustBe 46 = .ok (.iload_n 1, 1) := by decide +kernel
theorem dX0_allMustBe_47 : decode cX0_allMustBe 47 = .ok (.ireturn, 1) := by decide +kernel
def L_X0_allMustBe_4 : Nat → Nat → Int32 → Int32 → Mem → Option Int32
  | 0, _, _, _, _ => none
  | n + 1, a0, x1, x2, M => if (mI M a0 1) ≤ x2 then some x1 else gd (inR x2 30) (if (mI M ((a0 + 1) + 23 + 2 * x2.toNatClampNeg) 9) = 0 then L_X0_allMustBe_4 n a0 (x1 + (f_X1_mustBe ((a0 + 1) + 23 + 2 * x2.toNatClampNeg) M)) (x2 + 1) M else L_X0_allMustBe_4 n a0 (x1 + (0 : Int32)) (x2 + 1) M)
def f_X0_allMustBe (a0 : Nat) (M : Mem) : Option Int32 := L_X0_allMustBe_4 FU a0 (0 : Int32) (0 : Int32) M
set_option maxRecDepth 100000 in
set_option maxHeartbeats 4000000 in
theorem l_X0_allMustBe_4 (Z : Sys) (X : Cx) (hR : xR X = rm_X0_allMustBe) {q : Int32} {M : Mem} (hq : RetOk Z X (some .int) False (PostI q M) 0 0) : ∀ (n : Nat) (a0 : Nat) (x1 : Int32) (x2 : Int32) (hs : St M) (k_a0 : K0[a0]? = some (0, 12)) (hf : L_X0_allMustBe_4 n a0 x1 x2 M = some q), G Z X Y_X0_allMustBe False 0 0 4 [(0, .ref (zs Z + a0)), (1, .int x1), (2, .int x2)] [] M := by
  intro n
  induction n with
  | zero => intro a0 x1 x2 hs k_a0 hf; cases hf
  | succ n ih =>
    intro a0 x1 x2 hs k_a0 hf
    unfold L_X0_allMustBe_4 at hf
    refine G.iload_n 4 2 dX0_allMustBe_4 rfl rfl ?_
    refine G.aload_n 5 0 dX0_allMustBe_5 rfl rfl ?_
    refine G.geti 6 ck_0 1 (hs.k k_a0) (by decide) (by decide +kernel) wd_261 dX0_allMustBe_6 ?_
    refine G.icmp_ge 9 46 dX0_allMustBe_9 (by decide) (fun h1 => ?_) (fun h1 => ?_)
    · replace hf := (if_pos h1).symm.trans hf
      refine G.iload_n 46 1 dX0_allMustBe_46 rfl rfl ?_
      (have hf9 := Option.some.inj hf; subst hf9)
      exact G.rI 47 hq dX0_allMustBe_47 hs
    · replace hf := (if_neg h1).symm.trans hf
      refine G.iload_n 12 1 dX0_allMustBe_12 rfl rfl ?_
      refine G.aload_n 13 0 dX0_allMustBe_13 rfl rfl ?_
      refine G.getp 14 ck_0 0 (a0 + 1) (hs.k k_a0) (pt_0_0 hs k_a0).1 (by decide) (by decide +kernel) wd_257 dX0_allMustBe_14 ?_
      refine G.iload_n 17 2 dX0_allMustBe_17 rfl rfl ?_
      obtain ⟨g2, hf⟩ := gd_e hf
      refine G.aa 18 x2.toNatClampNeg ((a0 + 1) + 23 + 2 * x2.toNatClampNeg) (hs.k (pt_0_0 hs k_a0).2) (by decide) rfl rfl g2 rfl (pa_13 hs (pt_0_0 hs k_a0).2 (inlt g2)).1 dX0_allMustBe_18 ?_
      refine G.geti 19 ck_1 9 (hs.k (pa_13 hs (pt_0_0 hs k_a0).2 (inlt g2)).2) (by decide) (by decide +kernel) wd_222 dX0_allMustBe_19 ?_
      refine G.if_eq 22 29 dX0_allMustBe_22 (by decide) (fun h3 => ?_) (fun h3 => ?_)
      · replace hf := (if_pos h3).symm.trans hf
        refine G.aload_n 29 0 dX0_allMustBe_29 rfl rfl ?_
        refine G.getp 30 ck_0 0 (a0 + 1) (hs.k k_a0) (pt_0_0 hs k_a0).1 (by decide) (by decide +kernel) wd_257 dX0_allMustBe_30 ?_
        refine G.iload_n 33 2 dX0_allMustBe_33 rfl rfl ?_
        refine G.aa 34 x2.toNatClampNeg ((a0 + 1) + 23 + 2 * x2.toNatClampNeg) (hs.k (pt_0_0 hs k_a0).2) (by decide) rfl rfl g2 rfl (pa_13 hs (pt_0_0 hs k_a0).2 (inlt g2)).1 dX0_allMustBe_34 ?_
        refine G.cvI 35 (As := []) ck_1 (hs.k (pa_13 hs (pt_0_0 hs k_a0).2 (inlt g2)).2) (c_X1_mustBe Z hs ((a0 + 1) + 23 + 2 * x2.toNatClampNeg) (pa_13 hs (pt_0_0 hs k_a0).2 (inlt g2)).2 rfl) mk_X1_mustBe vk_X1_mustBe rfl wd_762 hR (by decide +kernel) ⟨rfl, rfl⟩ rfl (Nat.le_of_ble_eq_true rfl) dX0_allMustBe_35 (fun hs4 => ?_)
        refine G.iadd 38 dX0_allMustBe_38 ?_
        refine G.istore_n 39 [(1, .int (x1 + (f_X1_mustBe ((a0 + 1) + 23 + 2 * x2.toNatClampNeg) M))), (0, .ref (zs Z + a0)), (2, .int x2)] dX0_allMustBe_39 rfl (Nat.le_of_ble_eq_true rfl) rfl ?_
        refine G.iinc 40 2 (x2 + 1) [(2, .int (x2 + 1)), (1, .int (x1 + (f_X1_mustBe ((a0 + 1) + 23 + 2 * x2.toNatClampNeg) M))), (0, .ref (zs Z + a0))] dX0_allMustBe_40 rfl (congrArg (fun z => x2 + z) (by decide +kernel)) (Nat.le_of_ble_eq_true rfl) rfl ?_
        refine G.goto 43 4 dX0_allMustBe_43 (by decide) ?_
        refine G.locs [2, 1, 0] rfl ?_
        exact ih a0 (x1 + (f_X1_mustBe ((a0 + 1) + 23 + 2 * x2.toNatClampNeg) M)) (x2 + 1) hs4 k_a0 hf
      · replace hf := (if_neg h3).symm.trans hf
        refine G.iconst 25 (0 : Int32) dX0_allMustBe_25 (by decide +kernel) ?_
        refine G.goto 26 38 dX0_allMustBe_26 (by decide) ?_
        refine G.iadd 38 dX0_allMustBe_38 ?_
        refine G.istore_n 39 [(1, .int (x1 + (0 : Int32))), (0, .ref (zs Z + a0)), (2, .int x2)] dX0_allMustBe_39 rfl (Nat.le_of_ble_eq_true rfl) rfl ?_
        refine G.iinc 40 2 (x2 + 1) [(2, .int (x2 + 1)), (1, .int (x1 + (0 : Int32))), (0, .ref (zs Z + a0))] dX0_allMustBe_40 rfl (congrArg (fun z => x2 + z) (by decide +kernel)) (Nat.le_of_ble_eq_true rfl) rfl ?_
        refine G.goto 43 4 dX0_allMustBe_43 (by decide) ?_
        refine G.locs [2, 1, 0] rfl ?_
        exact ih a0 (x1 + (0 : Int32)) (x2 + 1) hs k_a0 hf
set_option maxRecDepth 100000 in
set_option maxHeartbeats 4000000 in
theorem c_X0_allMustBe (Z : Sys) {M : Mem} (hs : St M) (a0 : Nat) (k_a0 : K0[a0]? = some (0, 12)) {q : Int32} (hf : f_X0_allMustBe a0 M = some q) : Ct Z yX0_allMustBe cX0_allMustBe 3 (some .int) rm_X0_allMustBe [.ref (zs Z + a0)] M False (PostI q M) := by
  refine Ct.of (by decide +kernel) (Nat.le_of_ble_eq_true rfl) (fun X hR hq _ => ?_)
  show G Z X Y_X0_allMustBe False 0 0 0 [(0, .ref (zs Z + a0))] [] M
  replace hq : RetOk Z X (some .int) False (PostI q M) 0 0 := hq
  unfold f_X0_allMustBe at hf
  refine G.iconst 0 (0 : Int32) dX0_allMustBe_0 (by decide +kernel) ?_
  refine G.istore_n 1 [(1, .int (0 : Int32)), (0, .ref (zs Z + a0))] dX0_allMustBe_1 rfl (Nat.le_of_ble_eq_true rfl) rfl ?_
  refine G.iconst 2 (0 : Int32) dX0_allMustBe_2 (by decide +kernel) ?_
  refine G.istore_n 3 [(2, .int (0 : Int32)), (1, .int (0 : Int32)), (0, .ref (zs Z + a0))] dX0_allMustBe_3 rfl (Nat.le_of_ble_eq_true rfl) rfl ?_
  refine G.locs [2, 1, 0] rfl ?_
  exact l_X0_allMustBe_4 Z X hR hq FU a0 (0 : Int32) (0 : Int32) hs k_a0 hf
abbrev Y_X1_untruth : My := (cX1_untruth, RX1, 1)
def rm_X1_untruth : Room := { frames := 1, cells := 0, slots := 0, locals := 200 }
theorem dX1_untruth_0 : decode cX1_untruth 0 = .ok (.aload_n 0, 1) := by decide +kernel
theorem dX1_untruth_1 : decode cX1_untruth 1 = .ok (.getfield 57, 3) := by decide +kernel
theorem dX1_untruth_4 : decode cX1_untruth 4 = .ok (.aload_n 0, 1) := by decide +kernel
theorem dX1_untruth_5 : decode cX1_untruth 5 = .ok (.getfield 34, 3) := by decide +kernel
theorem dX1_untruth_8 : decode cX1_untruth 8 = .ok (.isub, 1) := by decide +kernel
theorem dX1_untruth_9 : decode cX1_untruth 9 = .ok (.invokestatic 74, 3) := by decide +kernel
theorem dX1_untruth_12 : decode cX1_untruth 12 = .ok (.aload_n 0, 1) := by decide +kernel
theorem dX1_untruth_13 : decode cX1_untruth 13 = .ok (.getfield 60, 3) := by decide +kernel
theorem dX1_untruth_16 : decode cX1_untruth 16 = .ok (.aload_n 0, 1) := by decide +kernel
theorem dX1_untruth_17 : decode cX1_untruth 17 = .ok (.getfield 37, 3) := by decide +kernel
theorem dX1_untruth_20 : decode cX1_untruth 20 = .ok (.isub, 1) := by decide +kernel
theorem dX1_untruth_21 : decode cX1_untruth 21 = .ok (.invokestatic 74, 3) := by decide +kernel
theorem dX1_untruth_24 : decode cX1_untruth 24 = .ok (.invokestatic 80, 3) := by decide +kernel
theorem dX1_untruth_27 : decode cX1_untruth 27 = .ok (.ireturn, 1) := by decide +kernel
def f_X1_untruth (a0 : Nat) (M : Mem) : Int32 := (jmax (jabs ((mI M a0 10) - (mI M a0 6))) (jabs ((mI M a0 11) - (mI M a0 7))))
set_option maxRecDepth 100000 in
set_option maxHeartbeats 4000000 in
theorem c_X1_untruth (Z : Sys) {M : Mem} (hs : St M) (a0 : Nat) (k_a0 : K0[a0]? = some (1, 12)) {q : Int32} (hf : f_X1_untruth a0 M = q) : Ct Z yX1_untruth cX1_untruth 1 (some .int) rm_X1_untruth [.ref (zs Z + a0)] M False (PostI q M) := by
  refine Ct.of (by decide +kernel) (Nat.le_of_ble_eq_true rfl) (fun X hR hq _ => ?_)
  show G Z X Y_X1_untruth False 0 0 0 [(0, .ref (zs Z + a0))] [] M
  replace hq : RetOk Z X (some .int) False (PostI q M) 0 0 := hq
  unfold f_X1_untruth at hf
  refine G.aload_n 0 0 dX1_untruth_0 rfl rfl ?_
  refine G.geti 1 ck_1 10 (hs.k k_a0) (by decide) (by decide +kernel) wd_224 dX1_untruth_1 ?_
  refine G.aload_n 4 0 dX1_untruth_4 rfl rfl ?_
  refine G.geti 5 ck_1 6 (hs.k k_a0) (by decide) (by decide +kernel) wd_207 dX1_untruth_5 ?_
  refine G.isub 8 dX1_untruth_8 ?_
  refine G.mabsJ 9 wd_754 wd_755 wd_87 wd_756 hR ⟨Nat.le_of_ble_eq_true rfl, Nat.le_of_ble_eq_true rfl, Nat.le_of_ble_eq_true rfl, Nat.le_of_ble_eq_true rfl⟩ dX1_untruth_9 ?_
  refine G.aload_n 12 0 dX1_untruth_12 rfl rfl ?_
  refine G.geti 13 ck_1 11 (hs.k k_a0) (by decide) (by decide +kernel) wd_228 dX1_untruth_13 ?_
  refine G.aload_n 16 0 dX1_untruth_16 rfl rfl ?_
  refine G.geti 17 ck_1 7 (hs.k k_a0) (by decide) (by decide +kernel) wd_210 dX1_untruth_17 ?_
  refine G.isub 20 dX1_untruth_20 ?_
  refine G.mabsJ 21 wd_754 wd_755 wd_87 wd_756 hR ⟨Nat.le_of_ble_eq_true rfl, Nat.le_of_ble_eq_true rfl, Nat.le_of_ble_eq_true rfl, Nat.le_of_ble_eq_true rfl⟩ dX1_untruth_21 ?_
  refine G.mmaxJ 24 wd_757 wd_546 wd_87 wd_547 hR ⟨Nat.le_of_ble_eq_true rfl, Nat.le_of_ble_eq_true rfl, Nat.le_of_ble_eq_true rfl, Nat.le_of_ble_eq_true rfl⟩ dX1_untruth_24 ?_
  subst hf
  exact G.rI 27 hq dX1_untruth_27 hs
