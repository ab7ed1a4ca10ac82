abbrev Y_X9_worthAgain : My := (cX9_worthAgain, RX9, 2)
def rm_X9_worthAgain : Room := { frames := 5, cells := 0, slots := 0, locals := 288 }
theorem dX9_worthAgain_0 : decode cX9_worthAgain 0 = .ok (.aload_n 0, 1) := by decide +kernel
theorem dX9_worthAgain_1 : decode cX9_worthAgain 1 = .ok (.iload_n 1, 1) := by decide +kernel
theorem dX9_worthAgain_2 : decode cX9_worthAgain 2 = .ok (.invokevirtual 142, 3) := by decide +kernel
theorem dX9_worthAgain_5 : decode cX9_worthAgain 5 = .ok (.invokestatic 172, 3) := by decide +kernel
theorem dX9_worthAgain_8 : decode cX9_worthAgain 8 = .ok (.aload_n 0, 1) := by decide +kernel
theorem dX9_worthAgain_9 : decode cX9_worthAgain 9 = .ok (.iload_n 1, 1) := by decide +kernel
theorem dX9_worthAgain_10 : decode cX9_worthAgain 10 = .ok (.iconst 1, 1) := by decide +kernel
theorem dX9_worthAgain_11 : decode cX9_worthAgain 11 = .ok (.invokevirtual 175, 3) := by decide +kernel
theorem dX9_worthAgain_14 : decode cX9_worthAgain 14 = .ok (.ifCond .le 8, 3) := by decide +kernel
theorem dX9_worthAgain_17 : decode cX9_worthAgain 17 = .ok (.bipush 50, 2) := by decide +kernel
theorem dX9_worthAgain_19 : decode cX9_worthAgain 19 = .ok (.goto 4, 3) := by decide +kernel
theorem dX9_worthAgain_22 : decode cX9_worthAgain 22 = .ok (.iconst 0, 1) := by decide +kernel
theorem dX9_worthAgain_23 : decode cX9_worthAgain 23 = .ok (.iadd, 1) := by decide +kernel
theorem dX9_worthAgain_24 : decode cX9_worthAgain 24 = .ok (.ireturn, 1) := by decide +kernel
def f_X9_worthAgain (x1 : Int32) (M : Mem) : Option (Int32 × Mem) := (f_X9_leftOf x1 M).bind fun q3 => (f_X9_untrueOf x1 (1 : Int32) q3.2).bind fun q9 => if q9 ≤ 0 then some (((f_X9_amount q3.1) + (0 : Int32)), q3.2) else some (((f_X9_amount q3.1) + (50 : Int32)), q3.2)
set_option maxRecDepth 100000 in
set_option maxHeartbeats 4000000 in
theorem c_X9_worthAgain (Z : Sys) {M : Mem} (hs : St M) (x1 : Int32) {q : Int32 × Mem} (hf : f_X9_worthAgain x1 M = some q) : Ct Z yX9_worthAgain cX9_worthAgain 2 (some .int) rm_X9_worthAgain [.ref (zs Z + 284), .int x1] M False (PostI q.1 q.2) := by
  refine Ct.of (by decide +kernel) (Nat.le_of_ble_eq_true rfl) (fun X hR hq _ => ?_)
  show G Z X Y_X9_worthAgain False 0 0 0 [(0, .ref (zs Z + 284)), (1, .int x1)] [] M
  replace hq : RetOk Z X (some .int) False (PostI q.1 q.2) 0 0 := hq
  unfold f_X9_worthAgain at hf
  refine G.aload_n 0 0 dX9_worthAgain_0 rfl rfl ?_
  refine G.iload_n 1 1 dX9_worthAgain_1 rfl rfl ?_
  obtain ⟨q3, e4, hf⟩ := bd_e hf
  refine G.cvI 2 (As := [.int x1]) ck_9 (hs.k k0_284) (c_X9_leftOf Z hs x1 e4) mk_X9_leftOf vk_X9_leftOf rfl wd_1521 hR (by decide +kernel) ⟨rfl, rfl⟩ rfl (Nat.le_of_ble_eq_true rfl) dX9_worthAgain_2 (fun hs1 => ?_)
  refine G.csI 5 (As := [.int q3.1]) (c_X9_amount Z hs1 q3.1 rfl) mk_X9_amount wd_1596 wd_1595 hR (by decide +kernel) ⟨rfl, rfl⟩ rfl (Nat.le_of_ble_eq_true rfl) dX9_worthAgain_5 (fun hs5 => ?_)
  refine G.aload_n 8 0 dX9_worthAgain_8 rfl rfl ?_
  refine G.iload_n 9 1 dX9_worthAgain_9 rfl rfl ?_
  refine G.iconst 10 (1 : Int32) dX9_worthAgain_10 (by decide +kernel) ?_
  obtain ⟨q9, e10, hf⟩ := bd_e hf
  refine G.cvI 11 (As := [.int x1, .int (1 : Int32)]) ck_9 (hs5.k k0_284) (c_X9_untrueOf Z hs5 x1 (1 : Int32) e10) mk_X9_untrueOf vk_X9_untrueOf rfl wd_1591 hR (by decide +kernel) ⟨rfl, rfl⟩ rfl (Nat.le_of_ble_eq_true rfl) dX9_worthAgain_11 (fun hs7 => ?_)
  refine G.if_le 14 22 dX9_worthAgain_14 (by decide) (fun h11 => ?_) (fun h11 => ?_)
  · replace hf := (if_pos h11).symm.trans hf
    refine G.iconst 22 (0 : Int32) dX9_worthAgain_22 (by decide +kernel) ?_
    refine G.iadd 23 dX9_worthAgain_23 ?_
    (have hf9 := Option.some.inj hf; subst hf9)
    exact G.rI 24 hq dX9_worthAgain_24 hs7
  · replace hf := (if_neg h11).symm.trans hf
    refine G.bipush 17 (50 : Int32) dX9_worthAgain_17 (by decide +kernel) ?_
    refine G.goto 19 23 dX9_worthAgain_19 (by decide) ?_
    refine G.iadd 23 dX9_worthAgain_23 ?_
    (have hf9 := Option.some.inj hf; subst hf9)
    exact G.rI 24 hq dX9_worthAgain_24 hs7
abbrev Y_X9_findAgain : My := (cX9_findAgain, RX9, 7)
def rm_X9_findAgain : Room := { frames := 6, cells := 0, slots := 0, locals := 309 }
theorem dX9_findAgain_0 : decode cX9_findAgain 0 = .ok (.aload_n 0, 1) := by decide +kernel
theorem dX9_findAgain_1 : decode cX9_findAgain 1 = .ok (.getfield 9, 3) := by decide +kernel
theorem dX9_findAgain_4 : decode cX9_findAgain 4 = .ok (.sipush 1192, 3) := by decide +kernel
theorem dX9_findAgain_7 : decode cX9_findAgain 7 = .ok (.iaload, 1) := by decide +kernel
theorem dX9_findAgain_8 : decode cX9_findAgain 8 = .ok (.istore_n 1, 1) := by decide +kernel
theorem dX9_findAgain_9 : decode cX9_findAgain 9 = .ok (.iconst 0, 1) := by decide +kernel
theorem dX9_findAgain_10 : decode cX9_findAgain 10 = .ok (.istore_n 2, 1) := by decide +kernel
theorem dX9_findAgain_11 : decode cX9_findAgain 11 = .ok (.iload_n 2, 1) := by decide +kernel
theorem dX9_findAgain_12 : decode cX9_findAgain 12 = .ok (.sipush 301, 3) := by decide +kernel
theorem dX9_findAgain_15 : decode cX9_findAgain 15 = .ok (.if_icmp .ge 22, 3) := by decide +kernel
theorem dX9_findAgain_18 : decode cX9_findAgain 18 = .ok (.aload_n 0, 1) := by decide +kernel
theorem dX9_findAgain_19 : decode cX9_findAgain 19 = .ok (.getfield 40, 3) := by decide +kernel
theorem dX9_findAgain_22 : decode cX9_findAgain 22 = .ok (.sipush 301, 3) := by decide +kernel
theorem dX9_findAgain_25 : decode cX9_findAgain 25 = .ok (.iload_n 1, 1) := by decide +kernel
theorem dX9_findAgain_26 : decode cX9_findAgain 26 = .ok (.imul, 1) := by decide +kernel
theorem dX9_findAgain_27 : decode cX9_findAgain 27 = .ok (.iload_n 2, 1) := by decide +kernel
theorem dX9_findAgain_28 : decode cX9_findAgain 28 = .ok (.iadd, 1) := by decide +kernel
theorem dX9_findAgain_29 : decode cX9_findAgain 29 = .ok (.iconst 0, 1) := by decide +kernel
theorem dX9_findAgain_30 : decode cX9_findAgain 30 = .ok (.iastore, 1) := by decide +kernel
theorem dX9_findAgain_31 : decode cX9_findAgain 31 = .ok (.iinc 2 1, 3) := by decide +kernel
theorem dX9_findAgain_34 : decode cX9_findAgain 34 = .ok (.goto (-23), 3) := by decide +kernel
theorem dX9_findAgain_37 : decode cX9_findAgain 37 = .ok (.iload_n 1, 1) := by decide +kernel
theorem dX9_findAgain_38 : decode cX9_findAgain 38 = .ok (.iconst 1, 1) := by decide +kernel
theorem dX9_findAgain_39 : decode cX9_findAgain 39 = .ok (.isub, 1) := by decide +kernel
theorem dX9_findAgain_40 : decode cX9_findAgain 40 = .ok (.istore_n 2, 1) := by decide +kernel
theorem dX9_findAgain_41 : decode cX9_findAgain 41 = .ok (.iload_n 2, 1) := by decide +kernel
theorem dX9_findAgain_42 : decode cX9_findAgain 42 = .ok (.ifCond .lt 156, 3) := by decide +kernel
theorem dX9_findAgain_45 : decode cX9_findAgain 45 = .ok (.aload_n 0, 1) := by decide +kernel
theorem dX9_findAgain_46 : decode cX9_findAgain 46 = .ok (.iload_n 2, 1) := by decide +kernel
theorem dX9_findAgain_47 : decode cX9_findAgain 47 = .ok (.invokevirtual 97, 3) := by decide +kernel
theorem dX9_findAgain_50 : decode cX9_findAgain 50 = .ok (.ifCond .eq 11, 3) := by decide +kernel
theorem dX9_findAgain_53 : decode cX9_findAgain 53 = .ok (.aload_n 0, 1) := by decide +kernel
theorem dX9_findAgain_54 : decode cX9_findAgain 54 = .ok (.iload_n 2, 1) := by decide +kernel
theorem dX9_findAgain_55 : decode cX9_findAgain 55 = .ok (.invokevirtual 184, 3) := by decide +kernel
theorem dX9_findAgain_58 : decode cX9_findAgain 58 = .ok (.goto 4, 3) := by decide +kernel
theorem dX9_findAgain_61 : decode cX9_findAgain 61 = .ok (.iconst 0, 1) := by decide +kernel
theorem dX9_findAgain_62 : decode cX9_findAgain 62 = .ok (.istore_n 3, 1) := by decide +kernel
theorem dX9_findAgain_63 : decode cX9_findAgain 63 = .ok (.aload_n 0, 1) := by decide +kernel
theorem dX9_findAgain_64 : decode cX9_findAgain 64 = .ok (.iload_n 2, 1) := by decide +kernel
theorem dX9_findAgain_65 : decode cX9_findAgain 65 = .ok (.invokevirtual 97, 3) := by decide +kernel
theorem dX9_findAgain_68 : decode cX9_findAgain 68 = .ok (.ifCond .eq 11, 3) := by decide +kernel
theorem dX9_findAgain_71 : decode cX9_findAgain 71 = .ok (.aload_n 0, 1) := by decide +kernel
theorem dX9_findAgain_72 : decode cX9_findAgain 72 = .ok (.iload_n 2, 1) := by decide +kernel
theorem dX9_findAgain_73 : decode cX9_findAgain 73 = .ok (.invokevirtual 187, 3) := by decide +kernel
theorem dX9_findAgain_76 : decode cX9_findAgain 76 = .ok (.goto 4, 3) := by decide +kernel
theorem dX9_findAgain_79 : decode cX9_findAgain 79 = .ok (.iconst 0, 1) := by decide +kernel
theorem dX9_findAgain_80 : decode cX9_findAgain 80 = .ok (.istore 4, 2) := by decide +kernel
theorem dX9_findAgain_82 : decode cX9_findAgain 82 = .ok (.iconst 0, 1) := by decide +kernel
theorem dX9_findAgain_83 : decode cX9_findAgain 83 = .ok (.istore 5, 2) := by decide +kernel
theorem dX9_findAgain_85 : decode cX9_findAgain 85 = .ok (.iload 5, 2) := by decide +kernel
theorem dX9_findAgain_87 : decode cX9_findAgain 87 = .ok (.sipush 301, 3) := by decide +kernel
theorem dX9_findAgain_90 : decode cX9_findAgain 90 = .ok (.if_icmp .ge 102, 3) := by decide +kernel
theorem dX9_findAgain_93 : decode cX9_findAgain 93 = .ok (.aload_n 0, 1) := by decide +kernel
theorem dX9_findAgain_94 : decode cX9_findAgain 94 = .ok (.getfield 40, 3) := by decide +kernel
theorem dX9_findAgain_97 : decode cX9_findAgain 97 = .ok (.sipush 301, 3) := by decide +kernel
theorem dX9_findAgain_100 : decode cX9_findAgain 100 = .ok (.iload_n 2, 1) := by decide +kernel
theorem dX9_findAgain_101 : decode cX9_findAgain 101 = .ok (.iconst 1, 1) := by decide +kernel
theorem dX9_findAgain_102 : decode cX9_findAgain 102 = .ok (.iadd, 1) := by decide +kernel
theorem dX9_findAgain_103 : decode cX9_findAgain 103 = .ok (.imul, 1) := by decide +kernel
theorem dX9_findAgain_104 : decode cX9_findAgain 104 = .ok (.iload 5, 2) := by decide +kernel
theorem dX9_findAgain_106 : decode cX9_findAgain 106 = .ok (.iadd, 1) := by decide +kernel
theorem dX9_findAgain_107 : decode cX9_findAgain 107 = .ok (.iaload, 1) := by decide +kernel
theorem dX9_findAgain_108 : decode cX9_findAgain 108 = .ok (.istore 6, 2) := by decide +kernel
theorem dX9_findAgain_110 : decode cX9_findAgain 110 = .ok (.aload_n 0, 1) := by decide +kernel
theorem dX9_findAgain_111 : decode cX9_findAgain 111 = .ok (.iload_n 2, 1) := by decide +kernel
theorem dX9_findAgain_112 : decode cX9_findAgain 112 = .ok (.invokevirtual 97, 3) := by decide +kernel
theorem dX9_findAgain_115 : decode cX9_findAgain 115 = .ok (.ifCond .eq 56, 3) := by decide +kernel
theorem dX9_findAgain_118 : decode cX9_findAgain 118 = .ok (.iload_n 3, 1) := by decide +kernel
theorem dX9_findAgain_119 : decode cX9_findAgain 119 = .ok (.iload 5, 2) := by decide +kernel
theorem dX9_findAgain_121 : decode cX9_findAgain 121 = .ok (.if_icmp .gt 50, 3) := by decide +kernel
theorem dX9_findAgain_124 : decode cX9_findAgain 124 = .ok (.aload_n 0, 1) := by decide +kernel
theorem dX9_findAgain_125 : decode cX9_findAgain 125 = .ok (.getfield 40, 3) := by decide +kernel
theorem dX9_findAgain_128 : decode cX9_findAgain 128 = .ok (.sipush 301, 3) := by decide +kernel
theorem dX9_findAgain_131 : decode cX9_findAgain 131 = .ok (.iload_n 2, 1) := by decide +kernel
theorem dX9_findAgain_132 : decode cX9_findAgain 132 = .ok (.iconst 1, 1) := by decide +kernel
theorem dX9_findAgain_133 : decode cX9_findAgain 133 = .ok (.iadd, 1) := by decide +kernel
theorem dX9_findAgain_134 : decode cX9_findAgain 134 = .ok (.imul, 1) := by decide +kernel
theorem dX9_findAgain_135 : decode cX9_findAgain 135 = .ok (.iload 5, 2) := by decide +kernel
theorem dX9_findAgain_137 : decode cX9_findAgain 137 = .ok (.iadd, 1) := by decide +kernel
theorem dX9_findAgain_138 : decode cX9_findAgain 138 = .ok (.iload_n 3, 1) := by decide +kernel
theorem dX9_findAgain_139 : decode cX9_findAgain 139 = .ok (.isub, 1) := by decide +kernel
theorem dX9_findAgain_140 : decode cX9_findAgain 140 = .ok (.iaload, 1) := by decide +kernel
theorem dX9_findAgain_141 : decode cX9_findAgain 141 = .ok (.iload 4, 2) := by decide +kernel
theorem dX9_findAgain_143 : decode cX9_findAgain 143 = .ok (.iadd, 1) := by decide +kernel
theorem dX9_findAgain_144 : decode cX9_findAgain 144 = .ok (.iload 6, 2) := by decide +kernel
theorem dX9_findAgain_146 : decode cX9_findAgain 146 = .ok (.if_icmp .le 25, 3) := by decide +kernel
theorem dX9_findAgain_149 : decode cX9_findAgain 149 = .ok (.aload_n 0, 1) := by decide +kernel
theorem dX9_findAgain_150 : decode cX9_findAgain 150 = .ok (.getfield 40, 3) := by decide +kernel
theorem dX9_findAgain_153 : decode cX9_findAgain 153 = .ok (.sipush 301, 3) := by decide +kernel
theorem dX9_findAgain_156 : decode cX9_findAgain 156 = .ok (.iload_n 2, 1) := by decide +kernel
theorem dX9_findAgain_157 : decode cX9_findAgain 157 = .ok (.iconst 1, 1) := by decide +kernel
theorem dX9_findAgain_158 : decode cX9_findAgain 158 = .ok (.iadd, 1) := by decide +kernel
theorem dX9_findAgain_159 : decode cX9_findAgain 159 = .ok (.imul, 1) := by decide +kernel
theorem dX9_findAgain_160 : decode cX9_findAgain 160 = .ok (.iload 5, 2) := by decide +kernel
theorem dX9_findAgain_162 : decode cX9_findAgain 162 = .ok (.iadd, 1) := by decide +kernel
theorem dX9_findAgain_163 : decode cX9_findAgain 163 = .ok (.iload_n 3, 1) := by decide +kernel
theorem dX9_findAgain_164 : decode cX9_findAgain 164 = .ok (.isub, 1) := by decide +kernel
theorem dX9_findAgain_165 : decode cX9_findAgain 165 = .ok (.iaload, 1) := by decide +kernel
theorem dX9_findAgain_166 : decode cX9_findAgain 166 = .ok (.iload 4, 2) := by decide +kernel
theorem dX9_findAgain_168 : decode cX9_findAgain 168 = .ok (.iadd, 1) := by decide +kernel
theorem dX9_findAgain_169 : decode cX9_findAgain 169 = .ok (.istore 6, 2) := by decide +kernel
theorem dX9_findAgain_171 : decode cX9_findAgain 171 = .ok (.aload_n 0, 1) := by decide +kernel
theorem dX9_findAgain_172 : decode cX9_findAgain 172 = .ok (.getfield 40, 3) := by decide +kernel
theorem dX9_findAgain_175 : decode cX9_findAgain 175 = .ok (.sipush 301, 3) := by decide +kernel
theorem dX9_findAgain_178 : decode cX9_findAgain 178 = .ok (.iload_n 2, 1) := by decide +kernel
theorem dX9_findAgain_179 : decode cX9_findAgain 179 = .ok (.imul, 1) := by decide +kernel
theorem dX9_findAgain_180 : decode cX9_findAgain 180 = .ok (.iload 5, 2) := by decide +kernel
theorem dX9_findAgain_182 : decode cX9_findAgain 182 = .ok (.iadd, 1) := by decide +kernel
theorem dX9_findAgain_183 : decode cX9_findAgain 183 = .ok (.iload 6, 2) := by decide +kernel
theorem dX9_findAgain_185 : decode cX9_findAgain 185 = .ok (.iastore, 1) := by decide +kernel
theorem dX9_findAgain_186 : decode cX9_findAgain 186 = .ok (.iinc 5 1, 3) := by decide +kernel
theorem dX9_findAgain_189 : decode cX9_findAgain 189 = .ok (.goto (-104), 3) := by decide +kernel
theorem dX9_findAgain_192 : decode cX9_findAgain 192 = .ok (.iinc 2 (-1), 3) := by decide +kernel
theorem dX9_findAgain_195 : decode cX9_findAgain 195 = .ok (.goto (-154), 3) := by decide +kernel
theorem dX9_findAgain_198 : decode cX9_findAgain 198 = .ok (.return_, 1) := by decide +kernel
def B_X9_findAgain_192 (rc_41 : Int32 → Mem → Option Mem) (x2 : Int32) (M : Mem) : Option Mem := rc_41 (x2 + (-1 : Int32)) M
def B_X9_findAgain_171 (rc_41 : Int32 → Mem → Option Mem) (rc_85 : Int32 → Int32 → Int32 → Int32 → Mem → Option Mem) (x2 : Int32) (x3 : Int32) (x4 : Int32) (x5 : Int32) (x6 : Int32) (M : Mem) : Option Mem := gd (inR (((301 : Int32) * x2) + x5) 9331) (rc_85 x2 x3 x4 (x5 + 1) (sI M 295 (((301 : Int32) * x2) + x5).toNatClampNeg x6))
def L_X9_findAgain_85 (rc_41 : Int32 → Mem → Option Mem) : Nat → Int32 → Int32 → Int32 → Int32 → Mem → Option Mem
  | 0, _, _, _, _, _ => none
  | n + 1, x2, x3, x4, x5, M => if (301 : Int32) ≤ x5 then B_X9_findAgain_192 rc_41 x2 M else gd (inR (((301 : Int32) * (x2 + (1 : Int32))) + x5) 9331) ((f_X9_has x2 M).bind fun q17 => if q17 = 0 then B_X9_findAgain_171 rc_41 (L_X9_findAgain_85 rc_41 n) x2 x3 x4 x5 (mI M 295 (((301 : Int32) * (x2 + (1 : Int32))) + x5).toNatClampNeg) M else if x5 < x3 then B_X9_findAgain_171 rc_41 (L_X9_findAgain_85 rc_41 n) x2 x3 x4 x5 (mI M 295 (((301 : Int32) * (x2 + (1 : Int32))) + x5).toNatClampNeg) M else gd (inR ((((301 : Int32) * (x2 + (1 : Int32))) + x5) - x3) 9331) (if ((mI M 295 ((((301 : Int32) * (x2 + (1 : Int32))) + x5) - x3).toNatClampNeg) + x4) ≤ (mI M 295 (((301 : Int32) * (x2 + (1 : Int32))) + x5).toNatClampNeg) then B_X9_findAgain_171 rc_41 (L_X9_findAgain_85 rc_41 n) x2 x3 x4 x5 (mI M 295 (((301 : Int32) * (x2 + (1 : Int32))) + x5).toNatClampNeg) M else B_X9_findAgain_171 rc_41 (L_X9_findAgain_85 rc_41 n) x2 x3 x4 x5 ((mI M 295 ((((301 : Int32) * (x2 + (1 : Int32))) + x5) - x3).toNatClampNeg) + x4) M))
def L_X9_findAgain_41 : Nat → Int32 → Mem → Option Mem
  | 0, _, _ => none
  | n + 1, x2, M => if x2 < 0 then some M else (f_X9_has x2 M).bind fun q5 => if q5 = 0 then (f_X9_has x2 M).bind fun q10 => if q10 = 0 then L_X9_findAgain_85 (L_X9_findAgain_41 n) FU x2 (0 : Int32) (0 : Int32) (0 : Int32) M else (f_X9_worthAgain x2 M).bind fun q26 => L_X9_findAgain_85 (L_X9_findAgain_41 n) FU x2 (0 : Int32) q26.1 (0 : Int32) q26.2 else (f_X9_costAgain x2 M).bind fun q30 => (f_X9_has x2 M).bind fun q34 => if q34 = 0 then L_X9_findAgain_85 (L_X9_findAgain_41 n) FU x2 q30 (0 : Int32) (0 : Int32) M else (f_X9_worthAgain x2 M).bind fun q39 => L_X9_findAgain_85 (L_X9_findAgain_41 n) FU x2 q30 q39.1 (0 : Int32) q39.2
def B_X9_findAgain_37 (x1 : Int32) (M : Mem) : Option Mem := L_X9_findAgain_41 FU (x1 - (1 : Int32)) M
def L_X9_findAgain_11 : Nat → Int32 → Int32 → Mem → Option Mem
  | 0, _, _, _ => none
  | n + 1, x1, x2, M => if (301 : Int32) ≤ x2 then B_X9_findAgain_37 x1 M else gd (inR (((301 : Int32) * x1) + x2) 9331) (L_X9_findAgain_11 n x1 (x2 + 1) (sI M 295 (((301 : Int32) * x1) + x2).toNatClampNeg (0 : Int32)))
def f_X9_findAgain (M : Mem) : Option Mem := L_X9_findAgain_11 FU (mI M 285 1192) (0 : Int32) M
set_option maxRecDepth 100000 in
set_option maxHeartbeats 4000000 in
theorem b_X9_findAgain_192 (Z : Sys) (X : Cx) (hR : xR X = rm_X9_findAgain) {q : Mem} (hq : RetOk Z X none False (PostV q) 0 0) (rc_41 : Int32 → Mem → Option Mem) (hrc_41 : ∀ (x2 : Int32) (M : Mem), St M → rc_41 x2 M = some q → G Z X Y_X9_findAgain False 0 0 41 [(0, .ref (zs Z + 284)), (2, .int x2)] [] M) (x2 : Int32) {M : Mem} (hs : St M) (hf : B_X9_findAgain_192 rc_41 x2 M = some q) : G Z X Y_X9_findAgain False 0 0 192 [(0, .ref (zs Z + 284)), (2, .int x2)] [] M := by
  unfold B_X9_findAgain_192 at hf
  refine G.iinc 192 1 (x2 + (-1 : Int32)) [(2, .int (x2 + (-1 : Int32))), (0, .ref (zs Z + 284))] dX9_findAgain_192 rfl (congrArg (fun z => x2 + z) (by decide +kernel)) (Nat.le_of_ble_eq_true rfl) rfl ?_
  refine G.goto 195 41 dX9_findAgain_195 (by decide) ?_
  refine G.locs [1, 0] rfl ?_
  exact hrc_41 (x2 + (-1 : Int32)) M hs hf
set_option maxRecDepth 100000 in
set_option maxHeartbeats 4000000 in
theorem b_X9_findAgain_171 (Z : Sys) (X : Cx) (hR : xR X = rm_X9_findAgain) {q : Mem} (hq : RetOk Z X none False (PostV q) 0 0) (rc_41 : Int32 → Mem → Option Mem) (hrc_41 : ∀ (x2 : Int32) (M : Mem), St M → rc_41 x2 M = some q → G Z X Y_X9_findAgain False 0 0 41 [(0, .ref (zs Z + 284)), (2, .int x2)] [] M) (rc_85 : Int32 → Int32 → Int32 → Int32 → Mem → Option Mem) (hrc_85 : ∀ (x2 : Int32) (x3 : Int32) (x4 : Int32) (x5 : Int32) (M : Mem), St M → rc_85 x2 x3 x4 x5 M = some q → G Z X Y_X9_findAgain False 0 0 85 [(0, .ref (zs Z + 284)), (2, .int x2), (3, .int x3), (4, .int x4), (5, .int x5)] [] M) (x2 : Int32) (x3 : Int32) (x4 : Int32) (x5 : Int32) (x6 : Int32) {M : Mem} (hs : St M) (hf : B_X9_findAgain_171 rc_41 rc_85 x2 x3 x4 x5 x6 M = some q) : G Z X Y_X9_findAgain False 0 0 171 [(0, .ref (zs Z + 284)), (2, .int x2), (3, .int x3), (4, .int x4), (5, .int x5), (6, .int x6)] [] M := by
  unfold B_X9_findAgain_171 at hf
  refine G.aload_n 171 0 dX9_findAgain_171 rfl rfl ?_
  refine G.getp 172 ck_9 15 295 (hs.k k0_284) (pc_9_15 hs) (by decide) (by decide +kernel) wd_1320 dX9_findAgain_172 ?_
  refine G.sipush 175 (301 : Int32) dX9_findAgain_175 (by decide +kernel) ?_
  refine G.iload_n 178 1 dX9_findAgain_178 rfl rfl ?_
  refine G.imul 179 dX9_findAgain_179 ?_
  refine G.iload 180 4 dX9_findAgain_180 rfl ?_
  refine G.iadd 182 dX9_findAgain_182 ?_
  refine G.iload 183 5 dX9_findAgain_183 rfl ?_
  obtain ⟨g20, hf⟩ := gd_e hf
  refine G.ist 185 (((301 : Int32) * x2) + x5).toNatClampNeg (hs.k k0_295) g20 rfl dX9_findAgain_185 ?_
  refine G.iinc 186 4 (x5 + 1) [(5, .int (x5 + 1)), (0, .ref (zs Z + 284)), (2, .int x2), (3, .int x3), (4, .int x4), (6, .int x6)] dX9_findAgain_186 rfl (congrArg (fun z => x5 + z) (by decide +kernel)) (Nat.le_of_ble_eq_true rfl) rfl ?_
  refine G.goto 189 85 dX9_findAgain_189 (by decide) ?_
  refine G.locs [1, 2, 3, 4, 0] rfl ?_
  exact hrc_85 x2 x3 x4 (x5 + 1) (sI M 295 (((301 : Int32) * x2) + x5).toNatClampNeg x6) (St.i hs) hf
set_option maxRecDepth 100000 in
set_option maxHeartbeats 4000000 in
theorem l_X9_findAgain_85 (Z : Sys) (X : Cx) (hR : xR X = rm_X9_findAgain) {q : Mem} (hq : RetOk Z X none False (PostV q) 0 0) (rc_41 : Int32 → Mem → Option Mem) (hrc_41 : ∀ (x2 : Int32) (M : Mem), St M → rc_41 x2 M = some q → G Z X Y_X9_findAgain False 0 0 41 [(0, .ref (zs Z + 284)), (2, .int x2)] [] M) : ∀ (n : Nat) (x2 : Int32) (x3 : Int32) (x4 : Int32) (x5 : Int32) (M : Mem) (hs : St M) (hf : L_X9_findAgain_85 rc_41 n x2 x3 x4 x5 M = some q), G Z X Y_X9_findAgain False 0 0 85 [(0, .ref (zs Z + 284)), (2, .int x2), (3, .int x3), (4, .int x4), (5, .int x5)] [] M := by
  intro n
  induction n with
  | zero => intro x2 x3 x4 x5 M hs  hf; cases hf
  | succ n ih =>
    intro x2 x3 x4 x5 M hs  hf
    unfold L_X9_findAgain_85 at hf
    refine G.iload 85 4 dX9_findAgain_85 rfl ?_
    refine G.sipush 87 (301 : Int32) dX9_findAgain_87 (by decide +kernel) ?_
    refine G.icmp_ge 90 192 dX9_findAgain_90 (by decide) (fun h13 => ?_) (fun h13 => ?_)
    · replace hf := (if_pos h13).symm.trans hf
      refine G.locs [0, 1] rfl ?_
      exact b_X9_findAgain_192 Z X hR hq rc_41 hrc_41 x2 hs hf
    · replace hf := (if_neg h13).symm.trans hf
      refine G.aload_n 93 0 dX9_findAgain_93 rfl rfl ?_
      refine G.getp 94 ck_9 15 295 (hs.k k0_284) (pc_9_15 hs) (by decide) (by decide +kernel) wd_1320 dX9_findAgain_94 ?_
      refine G.sipush 97 (301 : Int32) dX9_findAgain_97 (by decide +kernel) ?_
      refine G.iload_n 100 1 dX9_findAgain_100 rfl rfl ?_
      refine G.iconst 101 (1 : Int32) dX9_findAgain_101 (by decide +kernel) ?_
      refine G.iadd 102 dX9_findAgain_102 ?_
      refine G.imul 103 dX9_findAgain_103 ?_
      refine G.iload 104 4 dX9_findAgain_104 rfl ?_
      refine G.iadd 106 dX9_findAgain_106 ?_
      obtain ⟨g14, hf⟩ := gd_e hf
      refine G.ia 107 (((301 : Int32) * (x2 + (1 : Int32))) + x5).toNatClampNeg (hs.k k0_295) g14 rfl dX9_findAgain_107 ?_
      refine G.istore 108 [(6, .int (mI M 295 (((301 : Int32) * (x2 + (1 : Int32))) + x5).toNatClampNeg)), (0, .ref (zs Z + 284)), (2, .int x2), (3, .int x3), (4, .int x4), (5, .int x5)] dX9_findAgain_108 (Nat.le_of_ble_eq_true rfl) rfl ?_
      refine G.aload_n 110 1 dX9_findAgain_110 rfl rfl ?_
      refine G.iload_n 111 2 dX9_findAgain_111 rfl rfl ?_
      obtain ⟨q17, e18, hf⟩ := bd_e hf
      refine G.cvZ 112 (As := [.int x2]) ck_9 (hs.k k0_284) (c_X9_has Z hs x2 e18) mk_X9_has vk_X9_has rfl wd_1445 hR (by decide +kernel) ⟨rfl, rfl⟩ rfl (Nat.le_of_ble_eq_true rfl) dX9_findAgain_112 (fun hs15 z16 => ?_)
      refine G.if_eq 115 171 dX9_findAgain_115 (by decide) (fun h19 => ?_) (fun h19 => ?_)
      · replace hf := (if_pos h19).symm.trans hf
        refine G.locs [1, 2, 3, 4, 5, 0] rfl ?_
        exact b_X9_findAgain_171 Z X hR hq rc_41 hrc_41 (L_X9_findAgain_85 rc_41 n) ih x2 x3 x4 x5 (mI M 295 (((301 : Int32) * (x2 + (1 : Int32))) + x5).toNatClampNeg) hs15 hf
      · replace hf := (if_neg h19).symm.trans hf
        refine G.iload_n 118 3 dX9_findAgain_118 rfl rfl ?_
        refine G.iload 119 5 dX9_findAgain_119 rfl ?_
        refine G.icmp_gt 121 171 dX9_findAgain_121 (by decide) (fun h21 => ?_) (fun h21 => ?_)
        · replace hf := (if_pos h21).symm.trans hf
          refine G.locs [1, 2, 3, 4, 5, 0] rfl ?_
          exact b_X9_findAgain_171 Z X hR hq rc_41 hrc_41 (L_X9_findAgain_85 rc_41 n) ih x2 x3 x4 x5 (mI M 295 (((301 : Int32) * (x2 + (1 : Int32))) + x5).toNatClampNeg) hs15 hf
        · replace hf := (if_neg h21).symm.trans hf
          refine G.aload_n 124 1 dX9_findAgain_124 rfl rfl ?_
          refine G.getp 125 ck_9 15 295 (hs15.k k0_284) (pc_9_15 hs15) (by decide) (by decide +kernel) wd_1320 dX9_findAgain_125 ?_
          refine G.sipush 128 (301 : Int32) dX9_findAgain_128 (by decide +kernel) ?_
          refine G.iload_n 131 2 dX9_findAgain_131 rfl rfl ?_
          refine G.iconst 132 (1 : Int32) dX9_findAgain_132 (by decide +kernel) ?_
          refine G.iadd 133 dX9_findAgain_133 ?_
          refine G.imul 134 dX9_findAgain_134 ?_
          refine G.iload 135 5 dX9_findAgain_135 rfl ?_
          refine G.iadd 137 dX9_findAgain_137 ?_
          refine G.iload_n 138 3 dX9_findAgain_138 rfl rfl ?_
          refine G.isub 139 dX9_findAgain_139 ?_
          obtain ⟨g22, hf⟩ := gd_e hf
          refine G.ia 140 ((((301 : Int32) * (x2 + (1 : Int32))) + x5) - x3).toNatClampNeg (hs15.k k0_295) g22 rfl dX9_findAgain_140 ?_
          refine G.iload 141 4 dX9_findAgain_141 rfl ?_
          refine G.iadd 143 dX9_findAgain_143 ?_
          refine G.iload 144 0 dX9_findAgain_144 rfl ?_
          refine G.icmp_le 146 171 dX9_findAgain_146 (by decide) (fun h23 => ?_) (fun h23 => ?_)
          · replace hf := (if_pos h23).symm.trans hf
            refine G.locs [1, 2, 3, 4, 5, 0] rfl ?_
            exact b_X9_findAgain_171 Z X hR hq rc_41 hrc_41 (L_X9_findAgain_85 rc_41 n) ih x2 x3 x4 x5 (mI M 295 (((301 : Int32) * (x2 + (1 : Int32))) + x5).toNatClampNeg) hs15 hf
          · replace hf := (if_neg h23).symm.trans hf
            refine G.aload_n 149 1 dX9_findAgain_149 rfl rfl ?_
            refine G.getp 150 ck_9 15 295 (hs15.k k0_284) (pc_9_15 hs15) (by decide) (by decide +kernel) wd_1320 dX9_findAgain_150 ?_
            refine G.sipush 153 (301 : Int32) dX9_findAgain_153 (by decide +kernel) ?_
            refine G.iload_n 156 2 dX9_findAgain_156 rfl rfl ?_
            refine G.iconst 157 (1 : Int32) dX9_findAgain_157 (by decide +kernel) ?_
            refine G.iadd 158 dX9_findAgain_158 ?_
            refine G.imul 159 dX9_findAgain_159 ?_
            refine G.iload 160 5 dX9_findAgain_160 rfl ?_
            refine G.iadd 162 dX9_findAgain_162 ?_
            refine G.iload_n 163 3 dX9_findAgain_163 rfl rfl ?_
            refine G.isub 164 dX9_findAgain_164 ?_
            refine G.ia 165 ((((301 : Int32) * (x2 + (1 : Int32))) + x5) - x3).toNatClampNeg (hs15.k k0_295) g22 rfl dX9_findAgain_165 ?_
            refine G.iload 166 4 dX9_findAgain_166 rfl ?_
            refine G.iadd 168 dX9_findAgain_168 ?_
            refine G.istore 169 [(6, .int ((mI M 295 ((((301 : Int32) * (x2 + (1 : Int32))) + x5) - x3).toNatClampNeg) + x4)), (0, .ref (zs Z + 284)), (2, .int x2), (3, .int x3), (4, .int x4), (5, .int x5)] dX9_findAgain_169 (Nat.le_of_ble_eq_true rfl) rfl ?_
            refine G.locs [1, 2, 3, 4, 5, 0] rfl ?_
            exact b_X9_findAgain_171 Z X hR hq rc_41 hrc_41 (L_X9_findAgain_85 rc_41 n) ih x2 x3 x4 x5 ((mI M 295 ((((301 : Int32) * (x2 + (1 : Int32))) + x5) - x3).toNatClampNeg) + x4) hs15 hf
set_option maxRecDepth 100000 in
set_option maxHeartbeats 4000000 in
theorem l_X9_findAgain_41 (Z : Sys) (X : Cx) (hR : xR X = rm_X9_findAgain) {q : Mem} (hq : RetOk Z X none False (PostV q) 0 0) : ∀ (n : Nat) (x2 : Int32) (M : Mem) (hs : St M) (hf : L_X9_findAgain_41 n x2 M = some q), G Z X Y_X9_findAgain False 0 0 41 [(0, .ref (zs Z + 284)), (2, .int x2)] [] M := by
  intro n
  induction n with
  | zero => intro x2 M hs  hf; cases hf
  | succ n ih =>
    intro x2 M hs  hf
    unfold L_X9_findAgain_41 at hf
    refine G.iload_n 41 1 dX9_findAgain_41 rfl rfl ?_
    refine G.if_lt 42 198 dX9_findAgain_42 (by decide) (fun h2 => ?_) (fun h2 => ?_)
    · replace hf := (if_pos h2).symm.trans hf
      (have hf9 := Option.some.inj hf; subst hf9)
      exact G.rV 198 hq dX9_findAgain_198 hs
    · replace hf := (if_neg h2).symm.trans hf
      refine G.aload_n 45 0 dX9_findAgain_45 rfl rfl ?_
      refine G.iload_n 46 1 dX9_findAgain_46 rfl rfl ?_
      obtain ⟨q5, e6, hf⟩ := bd_e hf
      refine G.cvZ 47 (As := [.int x2]) ck_9 (hs.k k0_284) (c_X9_has Z hs x2 e6) mk_X9_has vk_X9_has rfl wd_1445 hR (by decide +kernel) ⟨rfl, rfl⟩ rfl (Nat.le_of_ble_eq_true rfl) dX9_findAgain_47 (fun hs3 z4 => ?_)
      refine G.if_eq 50 61 dX9_findAgain_50 (by decide) (fun h7 => ?_) (fun h7 => ?_)
      · replace hf := (if_pos h7).symm.trans hf
        refine G.iconst 61 (0 : Int32) dX9_findAgain_61 (by decide +kernel) ?_
        refine G.istore_n 62 [(3, .int (0 : Int32)), (0, .ref (zs Z + 284)), (2, .int x2)] dX9_findAgain_62 rfl (Nat.le_of_ble_eq_true rfl) rfl ?_
        refine G.aload_n 63 1 dX9_findAgain_63 rfl rfl ?_
        refine G.iload_n 64 2 dX9_findAgain_64 rfl rfl ?_
        obtain ⟨q10, e11, hf⟩ := bd_e hf
        refine G.cvZ 65 (As := [.int x2]) ck_9 (hs3.k k0_284) (c_X9_has Z hs3 x2 e11) mk_X9_has vk_X9_has rfl wd_1445 hR (by decide +kernel) ⟨rfl, rfl⟩ rfl (Nat.le_of_ble_eq_true rfl) dX9_findAgain_65 (fun hs8 z9 => ?_)
        refine G.if_eq 68 79 dX9_findAgain_68 (by decide) (fun h12 => ?_) (fun h12 => ?_)
        · replace hf := (if_pos h12).symm.trans hf
          refine G.iconst 79 (0 : Int32) dX9_findAgain_79 (by decide +kernel) ?_
          refine G.istore 80 [(4, .int (0 : Int32)), (3, .int (0 : Int32)), (0, .ref (zs Z + 284)), (2, .int x2)] dX9_findAgain_80 (Nat.le_of_ble_eq_true rfl) rfl ?_
          refine G.iconst 82 (0 : Int32) dX9_findAgain_82 (by decide +kernel) ?_
          refine G.istore 83 [(5, .int (0 : Int32)), (4, .int (0 : Int32)), (3, .int (0 : Int32)), (0, .ref (zs Z + 284)), (2, .int x2)] dX9_findAgain_83 (Nat.le_of_ble_eq_true rfl) rfl ?_
          refine G.locs [3, 4, 2, 1, 0] rfl ?_
          exact l_X9_findAgain_85 Z X hR hq (L_X9_findAgain_41 n) ih FU x2 (0 : Int32) (0 : Int32) (0 : Int32) M hs8 hf
        · replace hf := (if_neg h12).symm.trans hf
          refine G.aload_n 71 1 dX9_findAgain_71 rfl rfl ?_
          refine G.iload_n 72 2 dX9_findAgain_72 rfl rfl ?_
          obtain ⟨q26, e27, hf⟩ := bd_e hf
          refine G.cvI 73 (As := [.int x2]) ck_9 (hs8.k k0_284) (c_X9_worthAgain Z hs8 x2 e27) mk_X9_worthAgain vk_X9_worthAgain rfl wd_1619 hR (by decide +kernel) ⟨rfl, rfl⟩ rfl (Nat.le_of_ble_eq_true rfl) dX9_findAgain_73 (fun hs24 => ?_)
          refine G.goto 76 80 dX9_findAgain_76 (by decide) ?_
          refine G.istore 80 [(4, .int q26.1), (3, .int (0 : Int32)), (0, .ref (zs Z + 284)), (2, .int x2)] dX9_findAgain_80 (Nat.le_of_ble_eq_true rfl) rfl ?_
          refine G.iconst 82 (0 : Int32) dX9_findAgain_82 (by decide +kernel) ?_
          refine G.istore 83 [(5, .int (0 : Int32)), (4, .int q26.1), (3, .int (0 : Int32)), (0, .ref (zs Z + 284)), (2, .int x2)] dX9_findAgain_83 (Nat.le_of_ble_eq_true rfl) rfl ?_
          refine G.locs [3, 4, 2, 1, 0] rfl ?_
          exact l_X9_findAgain_85 Z X hR hq (L_X9_findAgain_41 n) ih FU x2 (0 : Int32) q26.1 (0 : Int32) q26.2 hs24 hf
      · replace hf := (if_neg h7).symm.trans hf
        refine G.aload_n 53 0 dX9_findAgain_53 rfl rfl ?_
        refine G.iload_n 54 1 dX9_findAgain_54 rfl rfl ?_
        obtain ⟨q30, e31, hf⟩ := bd_e hf
        refine G.cvI 55 (As := [.int x2]) ck_9 (hs3.k k0_284) (c_X9_costAgain Z hs3 x2 e31) mk_X9_costAgain vk_X9_costAgain rfl wd_1615 hR (by decide +kernel) ⟨rfl, rfl⟩ rfl (Nat.le_of_ble_eq_true rfl) dX9_findAgain_55 (fun hs28 => ?_)
        refine G.goto 58 62 dX9_findAgain_58 (by decide) ?_
        refine G.istore_n 62 [(3, .int q30), (0, .ref (zs Z + 284)), (2, .int x2)] dX9_findAgain_62 rfl (Nat.le_of_ble_eq_true rfl) rfl ?_
        refine G.aload_n 63 1 dX9_findAgain_63 rfl rfl ?_
        refine G.iload_n 64 2 dX9_findAgain_64 rfl rfl ?_
        obtain ⟨q34, e35, hf⟩ := bd_e hf
        refine G.cvZ 65 (As := [.int x2]) ck_9 (hs28.k k0_284) (c_X9_has Z hs28 x2 e35) mk_X9_has vk_X9_has rfl wd_1445 hR (by decide +kernel) ⟨rfl, rfl⟩ rfl (Nat.le_of_ble_eq_true rfl) dX9_findAgain_65 (fun hs32 z33 => ?_)
        refine G.if_eq 68 79 dX9_findAgain_68 (by decide) (fun h36 => ?_) (fun h36 => ?_)
        · replace hf := (if_pos h36).symm.trans hf
          refine G.iconst 79 (0 : Int32) dX9_findAgain_79 (by decide +kernel) ?_
          refine G.istore 80 [(4, .int (0 : Int32)), (3, .int q30), (0, .ref (zs Z + 284)), (2, .int x2)] dX9_findAgain_80 (Nat.le_of_ble_eq_true rfl) rfl ?_
          refine G.iconst 82 (0 : Int32) dX9_findAgain_82 (by decide +kernel) ?_
          refine G.istore 83 [(5, .int (0 : Int32)), (4, .int (0 : Int32)), (3, .int q30), (0, .ref (zs Z + 284)), (2, .int x2)] dX9_findAgain_83 (Nat.le_of_ble_eq_true rfl) rfl ?_
          refine G.locs [3, 4, 2, 1, 0] rfl ?_
          exact l_X9_findAgain_85 Z X hR hq (L_X9_findAgain_41 n) ih FU x2 q30 (0 : Int32) (0 : Int32) M hs32 hf
        · replace hf := (if_neg h36).symm.trans hf
          refine G.aload_n 71 1 dX9_findAgain_71 rfl rfl ?_
          refine G.iload_n 72 2 dX9_findAgain_72 rfl rfl ?_
          obtain ⟨q39, e40, hf⟩ := bd_e hf
          refine G.cvI 73 (As := [.int x2]) ck_9 (hs32.k k0_284) (c_X9_worthAgain Z hs32 x2 e40) mk_X9_worthAgain vk_X9_worthAgain rfl wd_1619 hR (by decide +kernel) ⟨rfl, rfl⟩ rfl (Nat.le_of_ble_eq_true rfl) dX9_findAgain_73 (fun hs37 => ?_)
          refine G.goto 76 80 dX9_findAgain_76 (by decide) ?_
          refine G.istore 80 [(4, .int q39.1), (3, .int q30), (0, .ref (zs Z + 284)), (2, .int x2)] dX9_findAgain_80 (Nat.le_of_ble_eq_true rfl) rfl ?_
          refine G.iconst 82 (0 : Int32) dX9_findAgain_82 (by decide +kernel) ?_
          refine G.istore 83 [(5, .int (0 : Int32)), (4, .int q39.1), (3, .int q30), (0, .ref (zs Z + 284)), (2, .int x2)] dX9_findAgain_83 (Nat.le_of_ble_eq_true rfl) rfl ?_
          refine G.locs [3, 4, 2, 1, 0] rfl ?_
          exact l_X9_findAgain_85 Z X hR hq (L_X9_findAgain_41 n) ih FU x2 q30 q39.1 (0 : Int32) q39.2 hs37 hf
set_option maxRecDepth 100000 in
set_option maxHeartbeats 4000000 in
theorem b_X9_findAgain_37 (Z : Sys) (X : Cx) (hR : xR X = rm_X9_findAgain) {q : Mem} (hq : RetOk Z X none False (PostV q) 0 0) (x1 : Int32) {M : Mem} (hs : St M) (hf : B_X9_findAgain_37 x1 M = some q) : G Z X Y_X9_findAgain False 0 0 37 [(0, .ref (zs Z + 284)), (1, .int x1)] [] M := by
  unfold B_X9_findAgain_37 at hf
  refine G.iload_n 37 1 dX9_findAgain_37 rfl rfl ?_
  refine G.iconst 38 (1 : Int32) dX9_findAgain_38 (by decide +kernel) ?_
  refine G.isub 39 dX9_findAgain_39 ?_
  refine G.istore_n 40 [(2, .int (x1 - (1 : Int32))), (0, .ref (zs Z + 284)), (1, .int x1)] dX9_findAgain_40 rfl (Nat.le_of_ble_eq_true rfl) rfl ?_
  refine G.locs [1, 0] rfl ?_
  exact l_X9_findAgain_41 Z X hR hq FU (x1 - (1 : Int32)) M hs hf
set_option maxRecDepth 100000 in
set_option maxHeartbeats 4000000 in
theorem l_X9_findAgain_11 (Z : Sys) (X : Cx) (hR : xR X = rm_X9_findAgain) {q : Mem} (hq : RetOk Z X none False (PostV q) 0 0) : ∀ (n : Nat) (x1 : Int32) (x2 : Int32) (M : Mem) (hs : St M) (hf : L_X9_findAgain_11 n x1 x2 M = some q), G Z X Y_X9_findAgain False 0 0 11 [(0, .ref (zs Z + 284)), (1, .int x1), (2, .int x2)] [] M := by
  intro n
  induction n with
  | zero => intro x1 x2 M hs  hf; cases hf
  | succ n ih =>
    intro x1 x2 M hs  hf
    unfold L_X9_findAgain_11 at hf
    refine G.iload_n 11 2 dX9_findAgain_11 rfl rfl ?_
    refine G.sipush 12 (301 : Int32) dX9_findAgain_12 (by decide +kernel) ?_
    refine G.icmp_ge 15 37 dX9_findAgain_15 (by decide) (fun h1 => ?_) (fun h1 => ?_)
    · replace hf := (if_pos h1).symm.trans hf
      refine G.locs [0, 1] rfl ?_
      exact b_X9_findAgain_37 Z X hR hq x1 hs hf
    · replace hf := (if_neg h1).symm.trans hf
      refine G.aload_n 18 0 dX9_findAgain_18 rfl rfl ?_
      refine G.getp 19 ck_9 15 295 (hs.k k0_284) (pc_9_15 hs) (by decide) (by decide +kernel) wd_1320 dX9_findAgain_19 ?_
      refine G.sipush 22 (301 : Int32) dX9_findAgain_22 (by decide +kernel) ?_
      refine G.iload_n 25 1 dX9_findAgain_25 rfl rfl ?_
      refine G.imul 26 dX9_findAgain_26 ?_
      refine G.iload_n 27 2 dX9_findAgain_27 rfl rfl ?_
      refine G.iadd 28 dX9_findAgain_28 ?_
      refine G.iconst 29 (0 : Int32) dX9_findAgain_29 (by decide +kernel) ?_
      obtain ⟨g41, hf⟩ := gd_e hf
      refine G.ist 30 (((301 : Int32) * x1) + x2).toNatClampNeg (hs.k k0_295) g41 rfl dX9_findAgain_30 ?_
      refine G.iinc 31 2 (x2 + 1) [(2, .int (x2 + 1)), (0, .ref (zs Z + 284)), (1, .int x1)] dX9_findAgain_31 rfl (congrArg (fun z => x2 + z) (by decide +kernel)) (Nat.le_of_ble_eq_true rfl) rfl ?_
      refine G.goto 34 11 dX9_findAgain_34 (by decide) ?_
      refine G.locs [1, 2, 0] rfl ?_
      exact ih x1 (x2 + 1) (sI M 295 (((301 : Int32) * x1) + x2).toNatClampNeg (0 : Int32)) (St.i hs) hf
set_option maxRecDepth 100000 in
set_option maxHeartbeats 4000000 in
theorem c_X9_findAgain (Z : Sys) {M : Mem} (hs : St M) {q : Mem} (hf : f_X9_findAgain M = some q) : Ct Z yX9_findAgain cX9_findAgain 7 none rm_X9_findAgain [.ref (zs Z + 284)] M False (PostV q) := by
  refine Ct.of (by decide +kernel) (Nat.le_of_ble_eq_true rfl) (fun X hR hq _ => ?_)
  show G Z X Y_X9_findAgain False 0 0 0 [(0, .ref (zs Z + 284))] [] M
  replace hq : RetOk Z X none False (PostV q) 0 0 := hq
  unfold f_X9_findAgain at hf
  refine G.aload_n 0 0 dX9_findAgain_0 rfl rfl ?_
  refine G.getp 1 ck_9 0 285 (hs.k k0_284) (pc_9_0 hs) (by decide) (by decide +kernel) wd_1305 dX9_findAgain_1 ?_
  refine G.sipush 4 (1192 : Int32) dX9_findAgain_4 (by decide +kernel) ?_
  refine G.ia 7 1192 (hs.k k0_285) (by decide +kernel) (by decide +kernel) dX9_findAgain_7 ?_
  refine G.istore_n 8 [(1, .int (mI M 285 1192)), (0, .ref (zs Z + 284))] dX9_findAgain_8 rfl (Nat.le_of_ble_eq_true rfl) rfl ?_
  refine G.iconst 9 (0 : Int32) dX9_findAgain_9 (by decide +kernel) ?_
  refine G.istore_n 10 [(2, .int (0 : Int32)), (1, .int (mI M 285 1192)), (0, .ref (zs Z + 284))] dX9_findAgain_10 rfl (Nat.le_of_ble_eq_true rfl) rfl ?_
  refine G.locs [2, 1, 0] rfl ?_
  exact l_X9_findAgain_11 Z X hR hq FU (mI M 285 1192) (0 : Int32) M hs hf
abbrev Y_X9_again : My := (cX9_again, RX9, 6)
def rm_X9_again : Room := { frames := 7, cells := 0, slots := 0, locals := 335 }
theorem dX9_again_0 : decode cX9_again 0 = .ok (.iload_n 1, 1) := by decide +kernel
theorem dX9_again_1 : decode cX9_again 1 = .ok (.i2l, 1) := by decide +kernel
theorem dX9_again_2 : decode cX9_again 2 = .ok (.lconst 0, 1) := by decide +kernel
theorem dX9_again_3 : decode cX9_again 3 = .ok (.ldc2_w 190, 3) := by decide +kernel
theorem dX9_again_6 : decode cX9_again 6 = .ok (.invokestatic 62, 3) := by decide +kernel
theorem dX9_again_9 : decode cX9_again 9 = .ok (.ifCond .eq 13, 3) := by decide +kernel
theorem dX9_again_12 : decode cX9_again 12 = .ok (.iload_n 2, 1) := by decide +kernel
theorem dX9_again_13 : decode cX9_again 13 = .ok (.i2l, 1) := by decide +kernel
theorem dX9_again_14 : decode cX9_again 14 = .ok (.lconst 0, 1) := by decide +kernel
theorem dX9_again_15 : decode cX9_again 15 = .ok (.lconst 1, 1) := by decide +kernel
theorem dX9_again_16 : decode cX9_again 16 = .ok (.invokestatic 62, 3) := by decide +kernel
theorem dX9_again_19 : decode cX9_again 19 = .ok (.ifCond .ne 5, 3) := by decide +kernel
theorem dX9_again_22 : decode cX9_again 22 = .ok (.iconst (-1), 1) := by decide +kernel
theorem dX9_again_23 : decode cX9_again 23 = .ok (.ireturn, 1) := by decide +kernel
theorem dX9_again_24 : decode cX9_again 24 = .ok (.aload_n 0, 1) := by decide +kernel
theorem dX9_again_25 : decode cX9_again 25 = .ok (.invokevirtual 192, 3) := by decide +kernel
theorem dX9_again_28 : decode cX9_again 28 = .ok (.iload_n 2, 1) := by decide +kernel
theorem dX9_again_29 : decode cX9_again 29 = .ok (.ifCond .ne 10, 3) := by decide +kernel
theorem dX9_again_32 : decode cX9_again 32 = .ok (.aload_n 0, 1) := by decide +kernel
theorem dX9_again_33 : decode cX9_again 33 = .ok (.getfield 40, 3) := by decide +kernel
theorem dX9_again_36 : decode cX9_again 36 = .ok (.iload_n 1, 1) := by decide +kernel
theorem dX9_again_37 : decode cX9_again 37 = .ok (.iaload, 1) := by decide +kernel
theorem dX9_again_38 : decode cX9_again 38 = .ok (.ireturn, 1) := by decide +kernel
theorem dX9_again_39 : decode cX9_again 39 = .ok (.iconst 0, 1) := by decide +kernel
theorem dX9_again_40 : decode cX9_again 40 = .ok (.istore_n 3, 1) := by decide +kernel
theorem dX9_again_41 : decode cX9_again 41 = .ok (.iload_n 1, 1) := by decide +kernel
theorem dX9_again_42 : decode cX9_again 42 = .ok (.istore 4, 2) := by decide +kernel
theorem dX9_again_44 : decode cX9_again 44 = .ok (.iconst 0, 1) := by decide +kernel
theorem dX9_again_45 : decode cX9_again 45 = .ok (.istore 5, 2) := by decide +kernel
theorem dX9_again_47 : decode cX9_again 47 = .ok (.iload 5, 2) := by decide +kernel
theorem dX9_again_49 : decode cX9_again 49 = .ok (.aload_n 0, 1) := by decide +kernel
theorem dX9_again_50 : decode cX9_again 50 = .ok (.getfield 9, 3) := by decide +kernel
theorem dX9_again_53 : decode cX9_again 53 = .ok (.sipush 1192, 3) := by decide +kernel
theorem dX9_again_56 : decode cX9_again 56 = .ok (.iaload, 1) := by decide +kernel
theorem dX9_again_57 : decode cX9_again 57 = .ok (.if_icmp .ge 63, 3) := by decide +kernel
theorem dX9_again_60 : decode cX9_again 60 = .ok (.aload_n 0, 1) := by decide +kernel
theorem dX9_again_61 : decode cX9_again 61 = .ok (.getfield 40, 3) := by decide +kernel
theorem dX9_again_64 : decode cX9_again 64 = .ok (.sipush 301, 3) := by decide +kernel
theorem dX9_again_67 : decode cX9_again 67 = .ok (.iload 5, 2) := by decide +kernel
theorem dX9_again_69 : decode cX9_again 69 = .ok (.iconst 1, 1) := by decide +kernel
theorem dX9_again_70 : decode cX9_again 70 = .ok (.iadd, 1) := by decide +kernel
theorem dX9_again_71 : decode cX9_again 71 = .ok (.imul, 1) := by decide +kernel
theorem dX9_again_72 : decode cX9_again 72 = .ok (.iload 4, 2) := by decide +kernel
theorem dX9_again_74 : decode cX9_again 74 = .ok (.iadd, 1) := by decide +kernel
theorem dX9_again_75 : decode cX9_again 75 = .ok (.iaload, 1) := by decide +kernel
theorem dX9_again_76 : decode cX9_again 76 = .ok (.aload_n 0, 1) := by decide +kernel
theorem dX9_again_77 : decode cX9_again 77 = .ok (.getfield 40, 3) := by decide +kernel
theorem dX9_again_80 : decode cX9_again 80 = .ok (.sipush 301, 3) := by decide +kernel
theorem dX9_again_83 : decode cX9_again 83 = .ok (.iload 5, 2) := by decide +kernel
theorem dX9_again_85 : decode cX9_again 85 = .ok (.imul, 1) := by decide +kernel
theorem dX9_again_86 : decode cX9_again 86 = .ok (.iload 4, 2) := by decide +kernel
theorem dX9_again_88 : decode cX9_again 88 = .ok (.iadd, 1) := by decide +kernel
theorem dX9_again_89 : decode cX9_again 89 = .ok (.iaload, 1) := by decide +kernel
theorem dX9_again_90 : decode cX9_again 90 = .ok (.if_icmp .ne 6, 3) := by decide +kernel
theorem dX9_again_93 : decode cX9_again 93 = .ok (.goto 21, 3) := by decide +kernel
theorem dX9_again_96 : decode cX9_again 96 = .ok (.iload_n 3, 1) := by decide +kernel
theorem dX9_again_97 : decode cX9_again 97 = .ok (.iconst 1, 1) := by decide +kernel
theorem dX9_again_98 : decode cX9_again 98 = .ok (.iload 5, 2) := by decide +kernel
theorem dX9_again_100 : decode cX9_again 100 = .ok (.ishl, 1) := by decide +kernel
theorem dX9_again_101 : decode cX9_again 101 = .ok (.ior, 1) := by decide +kernel
theorem dX9_again_102 : decode cX9_again 102 = .ok (.istore_n 3, 1) := by decide +kernel
theorem dX9_again_103 : decode cX9_again 103 = .ok (.iload 4, 2) := by decide +kernel
theorem dX9_again_105 : decode cX9_again 105 = .ok (.aload_n 0, 1) := by decide +kernel
theorem dX9_again_106 : decode cX9_again 106 = .ok (.iload 5, 2) := by decide +kernel
theorem dX9_again_108 : decode cX9_again 108 = .ok (.invokevirtual 184, 3) := by decide +kernel
theorem dX9_again_111 : decode cX9_again 111 = .ok (.isub, 1) := by decide +kernel
theorem dX9_again_112 : decode cX9_again 112 = .ok (.istore 4, 2) := by decide +kernel
theorem dX9_again_114 : decode cX9_again 114 = .ok (.iinc 5 1, 3) := by decide +kernel
theorem dX9_again_117 : decode cX9_again 117 = .ok (.goto (-70), 3) := by decide +kernel
theorem dX9_again_120 : decode cX9_again 120 = .ok (.iload_n 3, 1) := by decide +kernel
theorem dX9_again_121 : decode cX9_again 121 = .ok (.ireturn, 1) := by decide +kernel
def B_X9_again_114 (rc_47 : Int32 → Int32 → Int32 → Mem → Option (Int32 × Mem)) (x3 : Int32) (x4 : Int32) (x5 : Int32) (M : Mem) : Option (Int32 × Mem) := rc_47 x3 x4 (x5 + 1) M
def L_X9_again_47 : Nat → Int32 → Int32 → Int32 → Mem → Option (Int32 × Mem)
  | 0, _, _, _, _ => none
  | n + 1, x3, x4, x5, M => if (mI M 285 1192) ≤ x5 then some (x3, M) else gd (inR (((301 : Int32) * (x5 + (1 : Int32))) + x4) 9331) (gd (inR (((301 : Int32) * x5) + x4) 9331) (if (mI M 295 (((301 : Int32) * (x5 + (1 : Int32))) + x4).toNatClampNeg) = (mI M 295 (((301 : Int32) * x5) + x4).toNatClampNeg) then B_X9_again_114 (L_X9_again_47 n) x3 x4 x5 M else (f_X9_costAgain x5 M).bind fun q18 => B_X9_again_114 (L_X9_again_47 n) (x3 ||| ((1 : Int32) <<< (x5 &&& 31))) (x4 - q18) x5 M))
def f_X9_again (x1 : Int32) (x2 : Int32) (M : Mem) : Option (Int32 × Mem) := if (f_X9_isIn x1.toInt64 (0 : Int64) (300 : Int64)) = 0 then some ((-1 : Int32), M) else if (f_X9_isIn x2.toInt64 (0 : Int64) (1 : Int64)) = 0 then some ((-1 : Int32), M) else (f_X9_findAgain M).bind fun q9 => if x2 = 0 then gd (inR x1 9331) (some ((mI q9 295 x1.toNatClampNeg), q9)) else L_X9_again_47 FU (0 : Int32) x1 (0 : Int32) q9
set_option maxRecDepth 100000 in
set_option maxHeartbeats 4000000 in
theorem b_X9_again_114 (Z : Sys) (X : Cx) (hR : xR X = rm_X9_again) {q : Int32 × Mem} (hq : RetOk Z X (some .int) False (PostI q.1 q.2) 0 0) (rc_47 : Int32 → Int32 → Int32 → Mem → Option (Int32 × Mem)) (hrc_47 : ∀ (x3 : Int32) (x4 : Int32) (x5 : Int32) (M : Mem), St M → rc_47 x3 x4 x5 M = some q → G Z X Y_X9_again False 0 0 47 [(0, .ref (zs Z + 284)), (3, .int x3), (4, .int x4), (5, .int x5)] [] M) (x3 : Int32) (x4 : Int32) (x5 : Int32) {M : Mem} (hs : St M) (hf : B_X9_again_114 rc_47 x3 x4 x5 M = some q) : G Z X Y_X9_again False 0 0 114 [(0, .ref (zs Z + 284)), (3, .int x3), (4, .int x4), (5, .int x5)] [] M := by
  unfold B_X9_again_114 at hf
  refine G.iinc 114 3 (x5 + 1) [(5, .int (x5 + 1)), (0, .ref (zs Z + 284)), (3, .int x3), (4, .int x4)] dX9_again_114 rfl (congrArg (fun z => x5 + z) (by decide +kernel)) (Nat.le_of_ble_eq_true rfl) rfl ?_
  refine G.goto 117 47 dX9_again_117 (by decide) ?_
  refine G.locs [1, 2, 3, 0] rfl ?_
  exact hrc_47 x3 x4 (x5 + 1) M hs hf
set_option maxRecDepth 100000 in
set_option maxHeartbeats 4000000 in
theorem l_X9_again_47 (Z : Sys) (X : Cx) (hR : xR X = rm_X9_again) {q : Int32 × Mem} (hq : RetOk Z X (some .int) False (PostI q.1 q.2) 0 0) : ∀ (n : Nat) (x3 : Int32) (x4 : Int32) (x5 : Int32) (M : Mem) (hs : St M) (hf : L_X9_again_47 n x3 x4 x5 M = some q), G Z X Y_X9_again False 0 0 47 [(0, .ref (zs Z + 284)), (3, .int x3), (4, .int x4), (5, .int x5)] [] M := by
  intro n
  induction n with
  | zero => intro x3 x4 x5 M hs  hf; cases hf
  | succ n ih =>
    intro x3 x4 x5 M hs  hf
    unfold L_X9_again_47 at hf
    refine G.iload 47 3 dX9_again_47 rfl ?_
    refine G.aload_n 49 0 dX9_again_49 rfl rfl ?_
    refine G.getp 50 ck_9 0 285 (hs.k k0_284) (pc_9_0 hs) (by decide) (by decide +kernel) wd_1305 dX9_again_50 ?_
    refine G.sipush 53 (1192 : Int32) dX9_again_53 (by decide +kernel) ?_
    refine G.ia 56 1192 (hs.k k0_285) (by decide +kernel) (by decide +kernel) dX9_again_56 ?_
    refine G.icmp_ge 57 120 dX9_again_57 (by decide) (fun h12 => ?_) (fun h12 => ?_)
    · replace hf := (if_pos h12).symm.trans hf
      refine G.iload_n 120 1 dX9_again_120 rfl rfl ?_
      (have hf9 := Option.some.inj hf; subst hf9)
      exact G.rI 121 hq dX9_again_121 hs
    · replace hf := (if_neg h12).symm.trans hf
      refine G.aload_n 60 0 dX9_again_60 rfl rfl ?_
      refine G.getp 61 ck_9 15 295 (hs.k k0_284) (pc_9_15 hs) (by decide) (by decide +kernel) wd_1320 dX9_again_61 ?_
      refine G.sipush 64 (301 : Int32) dX9_again_64 (by decide +kernel) ?_
      refine G.iload 67 3 dX9_again_67 rfl ?_
      refine G.iconst 69 (1 : Int32) dX9_again_69 (by decide +kernel) ?_
      refine G.iadd 70 dX9_again_70 ?_
      refine G.imul 71 dX9_again_71 ?_
      refine G.iload 72 2 dX9_again_72 rfl ?_
      refine G.iadd 74 dX9_again_74 ?_
      obtain ⟨g13, hf⟩ := gd_e hf
      refine G.ia 75 (((301 : Int32) * (x5 + (1 : Int32))) + x4).toNatClampNeg (hs.k k0_295) g13 rfl dX9_again_75 ?_
      refine G.aload_n 76 0 dX9_again_76 rfl rfl ?_
      refine G.getp 77 ck_9 15 295 (hs.k k0_284) (pc_9_15 hs) (by decide) (by decide +kernel) wd_1320 dX9_again_77 ?_
      refine G.sipush 80 (301 : Int32) dX9_again_80 (by decide +kernel) ?_
      refine G.iload 83 3 dX9_again_83 rfl ?_
      refine G.imul 85 dX9_again_85 ?_
      refine G.iload 86 2 dX9_again_86 rfl ?_
      refine G.iadd 88 dX9_again_88 ?_
      obtain ⟨g14, hf⟩ := gd_e hf
      refine G.ia 89 (((301 : Int32) * x5) + x4).toNatClampNeg (hs.k k0_295) g14 rfl dX9_again_89 ?_
      refine G.icmp_ne 90 96 dX9_again_90 (by decide) (fun h15 => ?_) (fun h15 => ?_)
      · replace hf := (if_neg h15).symm.trans hf
        refine G.iload_n 96 1 dX9_again_96 rfl rfl ?_
        refine G.iconst 97 (1 : Int32) dX9_again_97 (by decide +kernel) ?_
        refine G.iload 98 3 dX9_again_98 rfl ?_
        refine G.ishl 100 dX9_again_100 ?_
        refine G.ior 101 dX9_again_101 ?_
        refine G.istore_n 102 [(3, .int (x3 ||| ((1 : Int32) <<< (x5 &&& 31)))), (0, .ref (zs Z + 284)), (4, .int x4), (5, .int x5)] dX9_again_102 rfl (Nat.le_of_ble_eq_true rfl) rfl ?_
        refine G.iload 103 2 dX9_again_103 rfl ?_
        refine G.aload_n 105 1 dX9_again_105 rfl rfl ?_
        refine G.iload 106 3 dX9_again_106 rfl ?_
        obtain ⟨q18, e19, hf⟩ := bd_e hf
        refine G.cvI 108 (As := [.int x5]) ck_9 (hs.k k0_284) (c_X9_costAgain Z hs x5 e19) mk_X9_costAgain vk_X9_costAgain rfl wd_1615 hR (by decide +kernel) ⟨rfl, rfl⟩ rfl (Nat.le_of_ble_eq_true rfl) dX9_again_108 (fun hs16 => ?_)
        refine G.isub 111 dX9_again_111 ?_
        refine G.istore 112 [(4, .int (x4 - q18)), (3, .int (x3 ||| ((1 : Int32) <<< (x5 &&& 31)))), (0, .ref (zs Z + 284)), (5, .int x5)] dX9_again_112 (Nat.le_of_ble_eq_true rfl) rfl ?_
        refine G.locs [2, 1, 0, 3] rfl ?_
        exact b_X9_again_114 Z X hR hq (L_X9_again_47 n) ih (x3 ||| ((1 : Int32) <<< (x5 &&& 31))) (x4 - q18) x5 hs16 hf
      · replace hf := (if_pos h15).symm.trans hf
        refine G.goto 93 114 dX9_again_93 (by decide) ?_
        exact b_X9_again_114 Z X hR hq (L_X9_again_47 n) ih x3 x4 x5 hs hf
set_option maxRecDepth 100000 in
set_option maxHeartbeats 4000000 in
theorem c_X9_again (Z : Sys) {M : Mem} (hs : St M) (x1 : Int32) (x2 : Int32) {q : Int32 × Mem} (hf : f_X9_again x1 x2 M = some q) : Ct Z yX9_again cX9_again 6 (some .int) rm_X9_again [.ref (zs Z + 284), .int x1, .int x2] M False (PostI q.1 q.2) := by
  refine Ct.of (by decide +kernel) (Nat.le_of_ble_eq_true rfl) (fun X hR hq _ => ?_)
  show G Z X Y_X9_again False 0 0 0 [(0, .ref (zs Z + 284)), (1, .int x1), (2, .int x2)] [] M
  replace hq : RetOk Z X (some .int) False (PostI q.1 q.2) 0 0 := hq
  unfold f_X9_again at hf
  refine G.iload_n 0 1 dX9_again_0 rfl rfl ?_
  refine G.i2l 1 dX9_again_1 ?_
  refine G.lconst 2 (0 : Int64) dX9_again_2 (by decide +kernel) ?_
  refine G.ldc2 3 (300 : Int64) wd_1610 dX9_again_3 ?_
  refine G.csZ 6 (As := [.long x1.toInt64, .long (0 : Int64), .long (300 : Int64)]) (c_X9_isIn Z hs x1.toInt64 (0 : Int64) (300 : Int64) rfl) mk_X9_isIn wd_1400 wd_1399 hR (by decide +kernel) ⟨rfl, rfl⟩ rfl (Nat.le_of_ble_eq_true rfl) dX9_again_6 (fun hs1 z2 => ?_)
  refine G.if_eq 9 22 dX9_again_9 (by decide) (fun h3 => ?_) (fun h3 => ?_)
  · replace hf := (if_pos h3).symm.trans hf
    refine G.iconst 22 (-1 : Int32) dX9_again_22 (by decide +kernel) ?_
    (have hf9 := Option.some.inj hf; subst hf9)
    exact G.rI 23 hq dX9_again_23 hs1
  · replace hf := (if_neg h3).symm.trans hf
    refine G.iload_n 12 2 dX9_again_12 rfl rfl ?_
    refine G.i2l 13 dX9_again_13 ?_
    refine G.lconst 14 (0 : Int64) dX9_again_14 (by decide +kernel) ?_
    refine G.lconst 15 (1 : Int64) dX9_again_15 (by decide +kernel) ?_
    refine G.csZ 16 (As := [.long x2.toInt64, .long (0 : Int64), .long (1 : Int64)]) (c_X9_isIn Z hs1 x2.toInt64 (0 : Int64) (1 : Int64) rfl) mk_X9_isIn wd_1400 wd_1399 hR (by decide +kernel) ⟨rfl, rfl⟩ rfl (Nat.le_of_ble_eq_true rfl) dX9_again_16 (fun hs4 z5 => ?_)
    refine G.if_ne 19 24 dX9_again_19 (by decide) (fun h6 => ?_) (fun h6 => ?_)
    · replace hf := (if_neg h6).symm.trans hf
      refine G.aload_n 24 0 dX9_again_24 rfl rfl ?_
      obtain ⟨q9, e10, hf⟩ := bd_e hf
      refine G.cvV 25 (As := []) ck_9 (hs4.k k0_284) (c_X9_findAgain Z hs4 e10) mk_X9_findAgain vk_X9_findAgain rfl wd_1611 hR (by decide +kernel) ⟨rfl, rfl⟩ rfl (Nat.le_of_ble_eq_true rfl) dX9_again_25 (fun hs7 => ?_)
      refine G.iload_n 28 2 dX9_again_28 rfl rfl ?_
      refine G.if_ne 29 39 dX9_again_29 (by decide) (fun h11 => ?_) (fun h11 => ?_)
      · replace hf := (if_neg h11).symm.trans hf
        refine G.iconst 39 (0 : Int32) dX9_again_39 (by decide +kernel) ?_
        refine G.istore_n 40 [(3, .int (0 : Int32)), (0, .ref (zs Z + 284)), (1, .int x1), (2, .int x2)] dX9_again_40 rfl (Nat.le_of_ble_eq_true rfl) rfl ?_
        refine G.iload_n 41 2 dX9_again_41 rfl rfl ?_
        refine G.istore 42 [(4, .int x1), (3, .int (0 : Int32)), (0, .ref (zs Z + 284)), (1, .int x1), (2, .int x2)] dX9_again_42 (Nat.le_of_ble_eq_true rfl) rfl ?_
        refine G.iconst 44 (0 : Int32) dX9_again_44 (by decide +kernel) ?_
        refine G.istore 45 [(5, .int (0 : Int32)), (4, .int x1), (3, .int (0 : Int32)), (0, .ref (zs Z + 284)), (1, .int x1), (2, .int x2)] dX9_again_45 (Nat.le_of_ble_eq_true rfl) rfl ?_
        refine G.locs [3, 2, 1, 0] rfl ?_
        exact l_X9_again_47 Z X hR hq FU (0 : Int32) x1 (0 : Int32) q9 hs7 hf
      · replace hf := (if_pos h11).symm.trans hf
        refine G.aload_n 32 0 dX9_again_32 rfl rfl ?_
        refine G.getp 33 ck_9 15 295 (hs7.k k0_284) (pc_9_15 hs7) (by decide) (by decide +kernel) wd_1320 dX9_again_33 ?_
        refine G.iload_n 36 1 dX9_again_36 rfl rfl ?_
        obtain ⟨g20, hf⟩ := gd_e hf
        refine G.ia 37 x1.toNatClampNeg (hs7.k k0_295) g20 rfl dX9_again_37 ?_
        (have hf9 := Option.some.inj hf; subst hf9)
        exact G.rI 38 hq dX9_again_38 hs7
    · replace hf := (if_pos h6).symm.trans hf
      refine G.iconst 22 (-1 : Int32) dX9_again_22 (by decide +kernel) ?_
      (have hf9 := Option.some.inj hf; subst hf9)
      exact G.rI 23 hq dX9_again_23 hs4
abbrev Y_X9_sign : My := (cX9_sign, RX9, 1)
def rm_X9_sign : Room := { frames := 1, cells := 0, slots := 0, locals := 200 }
theorem dX9_sign_0 : decode cX9_sign 0 = .ok (.aload_n 0, 1) := by decide +kernel
theorem dX9_sign_1 : decode cX9_sign 1 = .ok (.getfield 221, 3) := by decide +kernel
theorem dX9_sign_4 : decode cX9_sign 4 = .ok (.aload_n 0, 1) := by decide +kernel
theorem dX9_sign_5 : decode cX9_sign 5 = .ok (.getfield 224, 3) := by decide +kernel
theorem dX9_sign_8 : decode cX9_sign 8 = .ok (.if_icmp .ge 20, 3) := by decide +kernel
theorem dX9_sign_11 : decode cX9_sign 11 = .ok (.aload_n 0, 1) := by decide +kernel
theorem dX9_sign_12 : decode cX9_sign 12 = .ok (.getfield 55, 3) := by decide +kernel
theorem dX9_sign_15 : decode cX9_sign 15 = .ok (.aload_n 0, 1) := by decide +kernel
theorem dX9_sign_16 : decode cX9_sign 16 = .ok (.getfield 227, 3) := by decide +kernel
theorem dX9_sign_19 : decode cX9_sign 19 = .ok (.aload_n 0, 1) := by decide +kernel
theorem dX9_sign_20 : decode cX9_sign 20 = .ok (.getfield 221, 3) := by decide +kernel
theorem dX9_sign_23 : decode cX9_sign 23 = .ok (.iadd, 1) := by decide +kernel
theorem dX9_sign_24 : decode cX9_sign 24 = .ok (.iaload, 1) := by decide +kernel
theorem dX9_sign_25 : decode cX9_sign 25 = .ok (.goto 6, 3) := by decide +kernel
theorem dX9_sign_28 : decode cX9_sign 28 = .ok (.sipush (-1000), 3) := by decide +kernel
theorem dX9_sign_31 : decode cX9_sign 31 = .ok (.ireturn, 1) := by decide +kernel
def f_X9_sign (M : Mem) : Option Int32 := if (mI M 284 23) ≤ (mI M 284 21) then some (-1000 : Int32) else gd (inR ((mI M 284 22) + (mI M 284 21)) (ln (tx M))) (some (mI M (tx M) ((mI M 284 22) + (mI M 284 21)).toNatClampNeg))
set_option maxRecDepth 100000 in
set_option maxHeartbeats 4000000 in
theorem c_X9_sign (Z : Sys) {M : Mem} (hs : St M) {q : Int32} (hf : f_X9_sign M = some q) : Ct Z yX9_sign cX9_sign 1 (some .int) rm_X9_sign [.ref (zs Z + 284)] M False (PostI q M) := by
  refine Ct.of (by decide +kernel) (Nat.le_of_ble_eq_true rfl) (fun X hR hq _ => ?_)
  show G Z X Y_X9_sign False 0 0 0 [(0, .ref (zs Z + 284))] [] M
  replace hq : RetOk Z X (some .int) False (PostI q M) 0 0 := hq
  unfold f_X9_sign at hf
  refine G.aload_n 0 0 dX9_sign_0 rfl rfl ?_
  refine G.geti 1 ck_9 21 (hs.k k0_284) (by decide) (by decide +kernel) wd_1326 dX9_sign_1 ?_
  refine G.aload_n 4 0 dX9_sign_4 rfl rfl ?_
  refine G.geti 5 ck_9 23 (hs.k k0_284) (by decide) (by decide +kernel) wd_1328 dX9_sign_5 ?_
  refine G.icmp_ge 8 28 dX9_sign_8 (by decide) (fun h1 => ?_) (fun h1 => ?_)
  · replace hf := (if_pos h1).symm.trans hf
    refine G.sipush 28 (-1000 : Int32) dX9_sign_28 (by decide +kernel) ?_
    (have hf9 := Option.some.inj hf; subst hf9)
    exact G.rI 31 hq dX9_sign_31 hs
  · replace hf := (if_neg h1).symm.trans hf
    refine G.aload_n 11 0 dX9_sign_11 rfl rfl ?_
    refine G.getp 12 ck_9 26 (tx M) (hs.k k0_284) (pt_x hs) (by decide) (by decide +kernel) wd_1331 dX9_sign_12 ?_
    refine G.aload_n 15 0 dX9_sign_15 rfl rfl ?_
    refine G.geti 16 ck_9 22 (hs.k k0_284) (by decide) (by decide +kernel) wd_1327 dX9_sign_16 ?_
    refine G.aload_n 19 0 dX9_sign_19 rfl rfl ?_
    refine G.geti 20 ck_9 21 (hs.k k0_284) (by decide) (by decide +kernel) wd_1326 dX9_sign_20 ?_
    refine G.iadd 23 dX9_sign_23 ?_
    obtain ⟨g2, hf⟩ := gd_e hf
    refine G.ia 24 ((mI M 284 22) + (mI M 284 21)).toNatClampNeg (hs.k (kd_x hs)) g2 rfl dX9_sign_24 ?_
    refine G.goto 25 31 dX9_sign_25 (by decide) ?_
    (have hf9 := Option.some.inj hf; subst hf9)
    exact G.rI 31 hq dX9_sign_31 hs
abbrev Y_X9_takes : My := (cX9_takes, RX9, 2)
def rm_X9_takes : Room := { frames := 2, cells := 0, slots := 0, locals := 220 }
theorem dX9_takes_0 : decode cX9_takes 0 = .ok (.aload_n 0, 1) := by decide +kernel
theorem dX9_takes_1 : decode cX9_takes 1 = .ok (.getfield 230, 3) := by decide +kernel
theorem dX9_takes_4 : decode cX9_takes 4 = .ok (.ifCond .eq 11, 3) := by decide +kernel
theorem dX9_takes_7 : decode cX9_takes 7 = .ok (.aload_n 0, 1) := by decide +kernel
theorem dX9_takes_8 : decode cX9_takes 8 = .ok (.invokevirtual 234, 3) := by decide +kernel
theorem dX9_takes_11 : decode cX9_takes 11 = .ok (.iload_n 1, 1) := by decide +kernel
theorem dX9_takes_12 : decode cX9_takes 12 = .ok (.if_icmp .eq 5, 3) := by decide +kernel
theorem dX9_takes_15 : decode cX9_takes 15 = .ok (.iconst 0, 1) := by decide +kernel
theorem dX9_takes_16 : decode cX9_takes 16 = .ok (.ireturn, 1) := by decide +kernel
theorem dX9_takes_17 : decode cX9_takes 17 = .ok (.aload_n 0, 1) := by decide +kernel
theorem dX9_takes_18 : decode cX9_takes 18 = .ok (.dup, 1) := by decide +kernel
theorem dX9_takes_19 : decode cX9_takes 19 = .ok (.getfield 221, 3) := by decide +kernel
theorem dX9_takes_22 : decode cX9_takes 22 = .ok (.iconst 1, 1) := by decide +kernel
theorem dX9_takes_23 : decode cX9_takes 23 = .ok (.iadd, 1) := by decide +kernel
theorem dX9_takes_24 : decode cX9_takes 24 = .ok (.putfield 221, 3) := by decide +kernel
theorem dX9_takes_27 : decode cX9_takes 27 = .ok (.iconst 1, 1) := by decide +kernel
theorem dX9_takes_28 : decode cX9_takes 28 = .ok (.ireturn, 1) := by decide +kernel
def f_X9_takes (x1 : Int32) (M : Mem) : Option (Int32 × Mem) := if (mI M 284 27) = 0 then some ((0 : Int32), M) else (f_X9_sign M).bind fun q4 => if q4 = x1 then some ((1 : Int32), (sI M 284 21 ((mI M 284 21) + (1 : Int32)))) else some ((0 : Int32), M)
set_option maxRecDepth 100000 in
set_option maxHeartbeats 4000000 in
theorem c_X9_takes (Z : Sys) {M : Mem} (hs : St M) (x1 : Int32) {q : Int32 × Mem} (hf : f_X9_takes x1 M = some q) : Ct Z yX9_takes cX9_takes 2 (some .boolean) rm_X9_takes [.ref (zs Z + 284), .int x1] M False (PostZ q.1 q.2) := by
  refine Ct.of (by decide +kernel) (Nat.le_of_ble_eq_true rfl) (fun X hR hq _ => ?_)
  show G Z X Y_X9_takes False 0 0 0 [(0, .ref (zs Z + 284)), (1, .int x1)] [] M
  replace hq : RetOk Z X (some .boolean) False (PostZ q.1 q.2) 0 0 := hq
  unfold f_X9_takes at hf
  refine G.aload_n 0 0 dX9_takes_0 rfl rfl ?_
  refine G.geti 1 ck_9 27 (hs.k k0_284) (by decide) (by decide +kernel) wd_1332 dX9_takes_1 ?_
  refine G.if_eq 4 15 dX9_takes_4 (by decide) (fun h1 => ?_) (fun h1 => ?_)
  · replace hf := (if_pos h1).symm.trans hf
    refine G.iconst 15 (0 : Int32) dX9_takes_15 (by decide +kernel) ?_
    (have hf9 := Option.some.inj hf; subst hf9)
    exact G.rZ 16 hq dX9_takes_16 hs (Or.inl rfl)
  · replace hf := (if_neg h1).symm.trans hf
    refine G.aload_n 7 0 dX9_takes_7 rfl rfl ?_
    obtain ⟨q4, e5, hf⟩ := bd_e hf
    refine G.cvI 8 (As := []) ck_9 (hs.k k0_284) (c_X9_sign Z hs e5) mk_X9_sign vk_X9_sign rfl wd_1673 hR (by decide +kernel) ⟨rfl, rfl⟩ rfl (Nat.le_of_ble_eq_true rfl) dX9_takes_8 (fun hs2 => ?_)
    refine G.iload_n 11 1 dX9_takes_11 rfl rfl ?_
    refine G.icmp_eq 12 17 dX9_takes_12 (by decide) (fun h6 => ?_) (fun h6 => ?_)
    · replace hf := (if_pos h6).symm.trans hf
      refine G.aload_n 17 0 dX9_takes_17 rfl rfl ?_
      refine G.dup 18 dX9_takes_18 rfl ?_
      refine G.geti 19 ck_9 21 (hs2.k k0_284) (by decide) (by decide +kernel) wd_1326 dX9_takes_19 ?_
      refine G.iconst 22 (1 : Int32) dX9_takes_22 (by decide +kernel) ?_
      refine G.iadd 23 dX9_takes_23 ?_
      refine G.puti 24 ck_9 21 (hs2.k k0_284) (by decide) (by decide +kernel) rfl wd_1326 rfl rfl dX9_takes_24 ?_
      refine G.iconst 27 (1 : Int32) dX9_takes_27 (by decide +kernel) ?_
      (have hf9 := Option.some.inj hf; subst hf9)
      exact G.rZ 28 hq dX9_takes_28 (St.i hs2) (Or.inr rfl)
    · replace hf := (if_neg h6).symm.trans hf
      refine G.iconst 15 (0 : Int32) dX9_takes_15 (by decide +kernel) ?_
      (have hf9 := Option.some.inj hf; subst hf9)
      exact G.rZ 16 hq dX9_takes_16 hs2 (Or.inl rfl)
abbrev Y_X9_breaks : My := (cX9_breaks, RX9, 1)
def rm_X9_breaks : Room := { frames := 1, cells := 0, slots := 0, locals := 200 }
theorem dX9_breaks_0 : decode cX9_breaks 0 = .ok (.aload_n 0, 1) := by decide +kernel
theorem dX9_breaks_1 : decode cX9_breaks 1 = .ok (.iconst 0, 1) := by decide +kernel
theorem dX9_breaks_2 : decode cX9_breaks 2 = .ok (.putfield 230, 3) := by decide +kernel
theorem dX9_breaks_5 : decode cX9_breaks 5 = .ok (.iconst 0, 1) := by decide +kernel
theorem dX9_breaks_6 : decode cX9_breaks 6 = .ok (.ireturn, 1) := by decide +kernel
def f_X9_breaks (M : Mem) : Option (Int32 × Mem) := some ((0 : Int32), (sI M 284 27 (0 : Int32)))
set_option maxRecDepth 100000 in
set_option maxHeartbeats 4000000 in
theorem c_X9_breaks (Z : Sys) {M : Mem} (hs : St M) {q : Int32 × Mem} (hf : f_X9_breaks M = some q) : Ct Z yX9_breaks cX9_breaks 1 (some .boolean) rm_X9_breaks [.ref (zs Z + 284)] M False (PostZ q.1 q.2) := by
  refine Ct.of (by decide +kernel) (Nat.le_of_ble_eq_true rfl) (fun X hR hq _ => ?_)
  show G Z X Y_X9_breaks False 0 0 0 [(0, .ref (zs Z + 284))] [] M
  replace hq : RetOk Z X (some .boolean) False (PostZ q.1 q.2) 0 0 := hq
  unfold f_X9_breaks at hf
  refine G.aload_n 0 0 dX9_breaks_0 rfl rfl ?_
  refine G.iconst 1 (0 : Int32) dX9_breaks_1 (by decide +kernel) ?_
  refine G.puti 2 ck_9 27 (hs.k k0_284) (by decide) (by decide +kernel) rfl wd_1332 rfl rfl dX9_breaks_2 ?_
  refine G.iconst 5 (0 : Int32) dX9_breaks_5 (by decide +kernel) ?_
  (have hf9 := Option.some.inj hf; subst hf9)
  exact G.rZ 6 hq dX9_breaks_6 (St.i hs) (Or.inl rfl)
abbrev Y_X9_or : My := (cX9_or, RX9, 3)
theorem dX9_or_0 : decode cX9_or 0 = .ok (.aload_n 0, 1) := by decide +kernel
theorem dX9_or_1 : decode cX9_or 1 = .ok (.invokevirtual 237, 3) := by decide +kernel
theorem dX9_or_4 : decode cX9_or 4 = .ok (.istore_n 1, 1) := by decide +kernel
theorem dX9_or_5 : decode cX9_or 5 = .ok (.aload_n 0, 1) := by decide +kernel
theorem dX9_or_6 : decode cX9_or 6 = .ok (.bipush 124, 2) := by decide +kernel
theorem dX9_or_8 : decode cX9_or 8 = .ok (.invokevirtual 241, 3) := by decide +kernel
theorem dX9_or_11 : decode cX9_or 11 = .ok (.ifCond .eq 25, 3) := by decide +kernel
theorem dX9_or_14 : decode cX9_or 14 = .ok (.aload_n 0, 1) := by decide +kernel
theorem dX9_or_15 : decode cX9_or 15 = .ok (.invokevirtual 237, 3) := by decide +kernel
theorem dX9_or_18 : decode cX9_or 18 = .ok (.istore_n 2, 1) := by decide +kernel
theorem dX9_or_19 : decode cX9_or 19 = .ok (.iload_n 1, 1) := by decide +kernel
theorem dX9_or_20 : decode cX9_or 20 = .ok (.ifCond .ne 7, 3) := by decide +kernel
theorem dX9_or_23 : decode cX9_or 23 = .ok (.iload_n 2, 1) := by decide +kernel
theorem dX9_or_24 : decode cX9_or 24 = .ok (.ifCond .eq 7, 3) := by decide +kernel
theorem dX9_or_27 : decode cX9_or 27 = .ok (.iconst 1, 1) := by decide +kernel
theorem dX9_or_28 : decode cX9_or 28 = .ok (.goto 4, 3) := by decide +kernel
theorem dX9_or_31 : decode cX9_or 31 = .ok (.iconst 0, 1) := by decide +kernel
theorem dX9_or_32 : decode cX9_or 32 = .ok (.istore_n 1, 1) := by decide +kernel
theorem dX9_or_33 : decode cX9_or 33 = .ok (.goto (-28), 3) := by decide +kernel
theorem dX9_or_36 : decode cX9_or 36 = .ok (.iload_n 1, 1) := by decide +kernel
theorem dX9_or_37 : decode cX9_or 37 = .ok (.ireturn, 1) := by decide +kernel
def B_X9_or_27 (rec : Nat → Mem → Option (Int32 × Mem)) (rc_5 : Int32 → Mem → Option (Int32 × Mem)) (M : Mem) : Option (Int32 × Mem) := rc_5 (1 : Int32) M
def L_X9_or_5 (rec : Nat → Mem → Option (Int32 × Mem)) : Nat → Int32 → Mem → Option (Int32 × Mem)
  | 0, _, _ => none
  | n + 1, x1, M => (f_X9_takes (124 : Int32) M).bind fun q7 => if q7.1 = 0 then gd (x1 = 0 ∨ x1 = 1) (some (x1, q7.2)) else (rec 1 q7.2).bind fun q13 => if x1 = 0 then if q13.1 = 0 then L_X9_or_5 rec n (0 : Int32) q13.2 else B_X9_or_27 rec (L_X9_or_5 rec n) q13.2 else B_X9_or_27 rec (L_X9_or_5 rec n) q13.2
def f_X9_or (rec : Nat → Mem → Option (Int32 × Mem)) (M : Mem) : Option (Int32 × Mem) := (rec 1 M).bind fun q3 => L_X9_or_5 rec FU q3.1 q3.2
set_option maxRecDepth 100000 in
set_option maxHeartbeats 4000000 in
theorem b_X9_or_27 (Z : Sys) (X : Cx) (d : Nat) (hR : xR X = (rmP (d + 1))) (rec : Nat → Mem → Option (Int32 × Mem)) (hrec : RecOk Z d rec) {q : Int32 × Mem} (hq : RetOk Z X (some .boolean) False (PostZ q.1 q.2) 0 0) (rc_5 : Int32 → Mem → Option (Int32 × Mem)) (hrc_5 : ∀ (x1 : Int32) (M : Mem), St M → rc_5 x1 M = some q → G Z X Y_X9_or False 0 0 5 [(0, .ref (zs Z + 284)), (1, .int x1)] [] M) {M : Mem} (hs : St M) (hf : B_X9_or_27 rec rc_5 M = some q) : G Z X Y_X9_or False 0 0 27 [(0, .ref (zs Z + 284))] [] M := by
  unfold B_X9_or_27 at hf
  refine G.iconst 27 (1 : Int32) dX9_or_27 (by decide +kernel) ?_
  refine G.goto 28 32 dX9_or_28 (by decide) ?_
  refine G.istore_n 32 [(1, .int (1 : Int32)), (0, .ref (zs Z + 284))] dX9_or_32 rfl (Nat.le_of_ble_eq_true rfl) rfl ?_
  refine G.goto 33 5 dX9_or_33 (by decide) ?_
  refine G.locs [1, 0] rfl ?_
  exact hrc_5 (1 : Int32) M hs hf
set_option maxRecDepth 100000 in
set_option maxHeartbeats 4000000 in
theorem l_X9_or_5 (Z : Sys) (X : Cx) (d : Nat) (hR : xR X = (rmP (d + 1))) (rec : Nat → Mem → Option (Int32 × Mem)) (hrec : RecOk Z d rec) {q : Int32 × Mem} (hq : RetOk Z X (some .boolean) False (PostZ q.1 q.2) 0 0) : ∀ (n : Nat) (x1 : Int32) (M : Mem) (hs : St M) (hf : L_X9_or_5 rec n x1 M = some q), G Z X Y_X9_or False 0 0 5 [(0, .ref (zs Z + 284)), (1, .int x1)] [] M := by
  intro n
  induction n with
  | zero => intro x1 M hs  hf; cases hf
  | succ n ih =>
    intro x1 M hs  hf
    unfold L_X9_or_5 at hf
    refine G.aload_n 5 0 dX9_or_5 rfl rfl ?_
    refine G.bipush 6 (124 : Int32) dX9_or_6 (by decide +kernel) ?_
    obtain ⟨q7, e8, hf⟩ := bd_e hf
    refine G.cvZ 8 (As := [.int (124 : Int32)]) ck_9 (hs.k k0_284) (c_X9_takes Z hs (124 : Int32) e8) mk_X9_takes vk_X9_takes rfl wd_1679 hR (rmP_c (by decide +kernel)) ⟨rfl, rfl⟩ rfl (Nat.le_of_ble_eq_true rfl) dX9_or_8 (fun hs5 z6 => ?_)
    refine G.if_eq 11 36 dX9_or_11 (by decide) (fun h9 => ?_) (fun h9 => ?_)
    · replace hf := (if_pos h9).symm.trans hf
      refine G.iload_n 36 1 dX9_or_36 rfl rfl ?_
      obtain ⟨g10, hf⟩ := gd_e hf
      (have hf9 := Option.some.inj hf; subst hf9)
      exact G.rZ 37 hq dX9_or_37 hs5 g10
    · replace hf := (if_neg h9).symm.trans hf
      refine G.aload_n 14 0 dX9_or_14 rfl rfl ?_
      obtain ⟨q13, e14, hf⟩ := bd_e hf
      refine G.cvZ 15 (As := []) ck_9 (hs5.k k0_284) (hrec.a hs5 e14) mk_X9_and vk_X9_and rfl wd_1687 hR (rmP_r (by decide)) ⟨rfl, rfl⟩ rfl (Nat.le_of_ble_eq_true rfl) dX9_or_15 (fun hs11 z12 => ?_)
      refine G.istore_n 18 [(2, .int q13.1), (0, .ref (zs Z + 284)), (1, .int x1)] dX9_or_18 rfl (Nat.le_of_ble_eq_true rfl) rfl ?_
      refine G.iload_n 19 2 dX9_or_19 rfl rfl ?_
      refine G.if_ne 20 27 dX9_or_20 (by decide) (fun h15 => ?_) (fun h15 => ?_)
      · replace hf := (if_neg h15).symm.trans hf
        refine G.locs [1] rfl ?_
        exact b_X9_or_27 Z X d hR rec hrec hq (L_X9_or_5 rec n) ih hs11 hf
      · replace hf := (if_pos h15).symm.trans hf
        refine G.iload_n 23 0 dX9_or_23 rfl rfl ?_
        refine G.if_eq 24 31 dX9_or_24 (by decide) (fun h16 => ?_) (fun h16 => ?_)
        · replace hf := (if_pos h16).symm.trans hf
          refine G.iconst 31 (0 : Int32) dX9_or_31 (by decide +kernel) ?_
          refine G.istore_n 32 [(1, .int (0 : Int32)), (2, .int q13.1), (0, .ref (zs Z + 284))] dX9_or_32 rfl (Nat.le_of_ble_eq_true rfl) rfl ?_
          refine G.goto 33 5 dX9_or_33 (by decide) ?_
          refine G.locs [2, 0] rfl ?_
          exact ih (0 : Int32) q13.2 hs11 hf
        · replace hf := (if_neg h16).symm.trans hf
          refine G.locs [1] rfl ?_
          exact b_X9_or_27 Z X d hR rec hrec hq (L_X9_or_5 rec n) ih hs11 hf
set_option maxRecDepth 100000 in
set_option maxHeartbeats 4000000 in
theorem c_X9_or (Z : Sys) (d : Nat) (rec : Nat → Mem → Option (Int32 × Mem)) (hrec : RecOk Z d rec) {M : Mem} (hs : St M) {q : Int32 × Mem} (hf : f_X9_or rec M = some q) : Ct Z yX9_or cX9_or 3 (some .boolean) (rmP (d + 1)) [.ref (zs Z + 284)] M False (PostZ q.1 q.2) := by
  refine Ct.of (by decide +kernel) (Nat.le_of_ble_eq_true rfl) (fun X hR hq _ => ?_)
  show G Z X Y_X9_or False 0 0 0 [(0, .ref (zs Z + 284))] [] M
  replace hq : RetOk Z X (some .boolean) False (PostZ q.1 q.2) 0 0 := hq
  unfold f_X9_or at hf
  refine G.aload_n 0 0 dX9_or_0 rfl rfl ?_
  obtain ⟨q3, e4, hf⟩ := bd_e hf
  refine G.cvZ 1 (As := []) ck_9 (hs.k k0_284) (hrec.a hs e4) mk_X9_and vk_X9_and rfl wd_1687 hR (rmP_r (by decide)) ⟨rfl, rfl⟩ rfl (Nat.le_of_ble_eq_true rfl) dX9_or_1 (fun hs1 z2 => ?_)
  refine G.istore_n 4 [(1, .int q3.1), (0, .ref (zs Z + 284))] dX9_or_4 rfl (Nat.le_of_ble_eq_true rfl) rfl ?_
  refine G.locs [1, 0] rfl ?_
  exact l_X9_or_5 Z X d hR rec hrec hq FU q3.1 q3.2 hs1 hf
abbrev Y_X9_isDigit : My := (cX9_isDigit, RX9, 1)
def rm_X9_isDigit : Room := { frames := 1, cells := 0, slots := 0, locals := 200 }
theorem dX9_isDigit_0 : decode cX9_isDigit 0 = .ok (.iload_n 0, 1) := by decide +kernel
theorem dX9_isDigit_1 : decode cX9_isDigit 1 = .ok (.bipush 48, 2) := by decide +kernel
theorem dX9_isDigit_3 : decode cX9_isDigit 3 = .ok (.if_icmp .lt 13, 3) := by decide +kernel
theorem dX9_isDigit_6 : decode cX9_isDigit 6 = .ok (.iload_n 0, 1) := by decide +kernel
theorem dX9_isDigit_7 : decode cX9_isDigit 7 = .ok (.bipush 57, 2) := by decide +kernel
theorem dX9_isDigit_9 : decode cX9_isDigit 9 = .ok (.if_icmp .gt 7, 3) := by decide +kernel
theorem dX9_isDigit_12 : decode cX9_isDigit 12 = .ok (.iconst 1, 1) := by decide +kernel
theorem dX9_isDigit_13 : decode cX9_isDigit 13 = .ok (.goto 4, 3) := by decide +kernel
theorem dX9_isDigit_16 : decode cX9_isDigit 16 = .ok (.iconst 0, 1) := by decide +kernel
theorem dX9_isDigit_17 : decode cX9_isDigit 17 = .ok (.ireturn, 1) := by decide +kernel
def f_X9_isDigit (x0 : Int32) : Int32 := if x0 < (48 : Int32) then (0 : Int32) else if (57 : Int32) < x0 then (0 : Int32) else (1 : Int32)
set_option maxRecDepth 100000 in
set_option maxHeartbeats 4000000 in
theorem c_X9_isDigit (Z : Sys) {M : Mem} (hs : St M) (x0 : Int32) {q : Int32} (hf : f_X9_isDigit x0 = q) : Ct Z yX9_isDigit cX9_isDigit 1 (some .boolean) rm_X9_isDigit [.int x0] M False (PostZ q M) := by
  refine Ct.of (by decide +kernel) (Nat.le_of_ble_eq_true rfl) (fun X hR hq _ => ?_)
  show G Z X Y_X9_isDigit False 0 0 0 [(0, .int x0)] [] M
  replace hq : RetOk Z X (some .boolean) False (PostZ q M) 0 0 := hq
  unfold f_X9_isDigit at hf
  refine G.iload_n 0 0 dX9_isDigit_0 rfl rfl ?_
  refine G.bipush 1 (48 : Int32) dX9_isDigit_1 (by decide +kernel) ?_
  refine G.icmp_lt 3 16 dX9_isDigit_3 (by decide) (fun h1 => ?_) (fun h1 => ?_)
  · replace hf := (if_pos h1).symm.trans hf
    refine G.iconst 16 (0 : Int32) dX9_isDigit_16 (by decide +kernel) ?_
    subst hf
    exact G.rZ 17 hq dX9_isDigit_17 hs (Or.inl rfl)
  · replace hf := (if_neg h1).symm.trans hf
    refine G.iload_n 6 0 dX9_isDigit_6 rfl rfl ?_
    refine G.bipush 7 (57 : Int32) dX9_isDigit_7 (by decide +kernel) ?_
    refine G.icmp_gt 9 16 dX9_isDigit_9 (by decide) (fun h2 => ?_) (fun h2 => ?_)
    · replace hf := (if_pos h2).symm.trans hf
      refine G.iconst 16 (0 : Int32) dX9_isDigit_16 (by decide +kernel) ?_
      subst hf
      exact G.rZ 17 hq dX9_isDigit_17 hs (Or.inl rfl)
    · replace hf := (if_neg h2).symm.trans hf
      refine G.iconst 12 (1 : Int32) dX9_isDigit_12 (by decide +kernel) ?_
      refine G.goto 13 17 dX9_isDigit_13 (by decide) ?_
      subst hf
      exact G.rZ 17 hq dX9_isDigit_17 hs (Or.inr rfl)
abbrev Y_X9_fieldOf : My := (cX9_fieldOf, RX9, 2)
def rm_X9_fieldOf : Room := { frames := 3, cells := 0, slots := 0, locals := 243 }
theorem dX9_fieldOf_0 : decode cX9_fieldOf 0 = .ok (.iload_n 1, 1) := by decide +kernel
theorem dX9_fieldOf_1 : decode cX9_fieldOf 1 = .ok (.tableswitch 191 99 119 #[99, 151, 161, 191, 191, 191, 191, 191, 141, 121, 191, 191, 110, 191, 191, 191, 171, 131, 191, 191, 180], 99) := by decide +kernel
theorem dX9_fieldOf_100 : decode cX9_fieldOf 100 = .ok (.aload_n 0, 1) := by decide +kernel
theorem dX9_fieldOf_101 : decode cX9_fieldOf 101 = .ok (.aload_n 0, 1) := by decide +kernel
theorem dX9_fieldOf_102 : decode cX9_fieldOf 102 = .ok (.getfield 268, 3) := by decide +kernel
theorem dX9_fieldOf_105 : decode cX9_fieldOf 105 = .ok (.bipush 9, 2) := by decide +kernel
theorem dX9_fieldOf_107 : decode cX9_fieldOf 107 = .ok (.invokevirtual 76, 3) := by decide +kernel
theorem dX9_fieldOf_110 : decode cX9_fieldOf 110 = .ok (.ireturn, 1) := by decide +kernel
theorem dX9_fieldOf_111 : decode cX9_fieldOf 111 = .ok (.aload_n 0, 1) := by decide +kernel
theorem dX9_fieldOf_112 : decode cX9_fieldOf 112 = .ok (.aload_n 0, 1) := by decide +kernel
theorem dX9_fieldOf_113 : decode cX9_fieldOf 113 = .ok (.getfield 268, 3) := by decide +kernel
theorem dX9_fieldOf_116 : decode cX9_fieldOf 116 = .ok (.bipush 10, 2) := by decide +kernel
theorem dX9_fieldOf_118 : decode cX9_fieldOf 118 = .ok (.invokevirtual 76, 3) := by decide +kernel
theorem dX9_fieldOf_121 : decode cX9_fieldOf 121 = .ok (.ireturn, 1) := by decide +kernel
theorem dX9_fieldOf_122 : decode cX9_fieldOf 122 = .ok (.aload_n 0, 1) := by decide +kernel
theorem dX9_fieldOf_123 : decode cX9_fieldOf 123 = .ok (.aload_n 0, 1) := by decide +kernel
theorem dX9_fieldOf_124 : decode cX9_fieldOf 124 = .ok (.getfield 268, 3) := by decide +kernel
theorem dX9_fieldOf_127 : decode cX9_fieldOf 127 = .ok (.iconst 0, 1) := by decide +kernel
theorem dX9_fieldOf_128 : decode cX9_fieldOf 128 = .ok (.invokevirtual 76, 3) := by decide +kernel
theorem dX9_fieldOf_131 : decode cX9_fieldOf 131 = .ok (.ireturn, 1) := by decide +kernel
theorem dX9_fieldOf_132 : decode cX9_fieldOf 132 = .ok (.aload_n 0, 1) := by decide +kernel
theorem dX9_fieldOf_133 : decode cX9_fieldOf 133 = .ok (.aload_n 0, 1) := by decide +kernel
theorem dX9_fieldOf_134 : decode cX9_fieldOf 134 = .ok (.getfield 268, 3) := by decide +kernel
theorem dX9_fieldOf_137 : decode cX9_fieldOf 137 = .ok (.iconst 1, 1) := by decide +kernel
theorem dX9_fieldOf_138 : decode cX9_fieldOf 138 = .ok (.invokevirtual 76, 3) := by decide +kernel
theorem dX9_fieldOf_141 : decode cX9_fieldOf 141 = .ok (.ireturn, 1) := by decide +kernel
theorem dX9_fieldOf_142 : decode cX9_fieldOf 142 = .ok (.aload_n 0, 1) := by decide +kernel
theorem dX9_fieldOf_143 : decode cX9_fieldOf 143 = .ok (.aload_n 0, 1) := by decide +kernel
theorem dX9_fieldOf_144 : decode cX9_fieldOf 144 = .ok (.getfield 268, 3) := by decide +kernel
theorem dX9_fieldOf_147 : decode cX9_fieldOf 147 = .ok (.iconst 2, 1) := by decide +kernel
theorem dX9_fieldOf_148 : decode cX9_fieldOf 148 = .ok (.invokevirtual 76, 3) := by decide +kernel
theorem dX9_fieldOf_151 : decode cX9_fieldOf 151 = .ok (.ireturn, 1) := by decide +kernel
theorem dX9_fieldOf_152 : decode cX9_fieldOf 152 = .ok (.aload_n 0, 1) := by decide +kernel
theorem dX9_fieldOf_153 : decode cX9_fieldOf 153 = .ok (.aload_n 0, 1) := by decide +kernel
theorem dX9_fieldOf_154 : decode cX9_fieldOf 154 = .ok (.getfield 268, 3) := by decide +kernel
theorem dX9_fieldOf_157 : decode cX9_fieldOf 157 = .ok (.iconst 3, 1) := by decide +kernel
theorem dX9_fieldOf_158 : decode cX9_fieldOf 158 = .ok (.invokevirtual 76, 3) := by decide +kernel
theorem dX9_fieldOf_161 : decode cX9_fieldOf 161 = .ok (.ireturn, 1) := by decide +kernel
theorem dX9_fieldOf_162 : decode cX9_fieldOf 162 = .ok (.aload_n 0, 1) := by decide +kernel
theorem dX9_fieldOf_163 : decode cX9_fieldOf 163 = .ok (.aload_n 0, 1) := by decide +kernel
theorem dX9_fieldOf_164 : decode cX9_fieldOf 164 = .ok (.getfield 268, 3) := by decide +kernel
theorem dX9_fieldOf_167 : decode cX9_fieldOf 167 = .ok (.iconst 4, 1) := by decide +kernel
theorem dX9_fieldOf_168 : decode cX9_fieldOf 168 = .ok (.invokevirtual 76, 3) := by decide +kernel
theorem dX9_fieldOf_171 : decode cX9_fieldOf 171 = .ok (.ireturn, 1) := by decide +kernel
theorem dX9_fieldOf_172 : decode cX9_fieldOf 172 = .ok (.aload_n 0, 1) := by decide +kernel
theorem dX9_fieldOf_173 : decode cX9_fieldOf 173 = .ok (.aload_n 0, 1) := by decide +kernel
theorem dX9_fieldOf_174 : decode cX9_fieldOf 174 = .ok (.getfield 268, 3) := by decide +kernel
theorem dX9_fieldOf_177 : decode cX9_fieldOf 177 = .ok (.invokevirtual 100, 3) := by decide +kernel
theorem dX9_fieldOf_180 : decode cX9_fieldOf 180 = .ok (.ireturn, 1) := by decide +kernel
theorem dX9_fieldOf_181 : decode cX9_fieldOf 181 = .ok (.aload_n 0, 1) := by decide +kernel
theorem dX9_fieldOf_182 : decode cX9_fieldOf 182 = .ok (.aload_n 0, 1) := by decide +kernel
theorem dX9_fieldOf_183 : decode cX9_fieldOf 183 = .ok (.getfield 268, 3) := by decide +kernel
theorem dX9_fieldOf_186 : decode cX9_fieldOf 186 = .ok (.bipush 11, 2) := by decide +kernel
theorem dX9_fieldOf_188 : decode cX9_fieldOf 188 = .ok (.invokevirtual 76, 3) := by decide +kernel
theorem dX9_fieldOf_191 : decode cX9_fieldOf 191 = .ok (.ireturn, 1) := by decide +kernel
theorem dX9_fieldOf_192 : decode cX9_fieldOf 192 = .ok (.aload_n 0, 1) := by decide +kernel
theorem dX9_fieldOf_193 : decode cX9_fieldOf 193 = .ok (.getfield 268, 3) := by decide +kernel
theorem dX9_fieldOf_196 : decode cX9_fieldOf 196 = .ok (.ireturn, 1) := by decide +kernel
def f_X9_fieldOf (x1 : Int32) (M : Mem) : Option Int32 := if x1 = (99 : Int32) then (f_X9_get (mI M 284 25) (9 : Int32) M).bind fun q4 => some q4 else if x1 = (100 : Int32) then (f_X9_get (mI M 284 25) (3 : Int32) M).bind fun q9 => some q9 else if x1 = (101 : Int32) then (f_X9_get (mI M 284 25) (4 : Int32) M).bind fun q14 => some q14 else if x1 = (102 : Int32) then some (mI M 284 25) else if x1 = (103 : Int32) then some (mI M 284 25) else if x1 = (104 : Int32) then some (mI M 284 25) else if x1 = (105 : Int32) then some (mI M 284 25) else if x1 = (106 : Int32) then some (mI M 284 25) else if x1 = (107 : Int32) then (f_X9_get (mI M 284 25) (2 : Int32) M).bind fun q24 => some q24 else if x1 = (108 : Int32) then (f_X9_get (mI M 284 25) (0 : Int32) M).bind fun q29 => some q29 else if x1 = (109 : Int32) then some (mI M 284 25) else if x1 = (110 : Int32) then some (mI M 284 25) else if x1 = (111 : Int32) then (f_X9_get (mI M 284 25) (10 : Int32) M).bind fun q36 => some q36 else if x1 = (112 : Int32) then some (mI M 284 25) else if x1 = (113 : Int32) then some (mI M 284 25) else if x1 = (114 : Int32) then some (mI M 284 25) else if x1 = (115 : Int32) then (f_X9_share (mI M 284 25) M).bind fun q44 => some q44 else if x1 = (116 : Int32) then (f_X9_get (mI M 284 25) (1 : Int32) M).bind fun q49 => some q49 else if x1 = (117 : Int32) then some (mI M 284 25) else if x1 = (118 : Int32) then some (mI M 284 25) else if x1 = (119 : Int32) then (f_X9_get (mI M 284 25) (11 : Int32) M).bind fun q56 => some q56 else some (mI M 284 25)
set_option maxRecDepth 100000 in
set_option maxHeartbeats 4000000 in
theorem c_X9_fieldOf (Z : Sys) {M : Mem} (hs : St M) (x1 : Int32) {q : Int32} (hf : f_X9_fieldOf x1 M = some q) : Ct Z yX9_fieldOf cX9_fieldOf 2 (some .int) rm_X9_fieldOf [.ref (zs Z + 284), .int x1] M False (PostI q M) := by
  refine Ct.of (by decide +kernel) (Nat.le_of_ble_eq_true rfl) (fun X hR hq _ => ?_)
  show G Z X Y_X9_fieldOf False 0 0 0 [(0, .ref (zs Z + 284)), (1, .int x1)] [] M
  replace hq : RetOk Z X (some .int) False (PostI q M) 0 0 := hq
  unfold f_X9_fieldOf at hf
  refine G.iload_n 0 1 dX9_fieldOf_0 rfl rfl ?_
  by_cases h1 : x1 = (99 : Int32)
  · replace hf := (if_pos h1).symm.trans hf
    refine G.tableIn 1 100 (off := 99) dX9_fieldOf_1 (by rw [h1]; decide +kernel) (by rw [h1]; decide +kernel) (by rw [h1]; decide +kernel) (by decide) ?_
    refine G.aload_n 100 0 dX9_fieldOf_100 rfl rfl ?_
    refine G.aload_n 101 0 dX9_fieldOf_101 rfl rfl ?_
    refine G.geti 102 ck_9 25 (hs.k k0_284) (by decide) (by decide +kernel) wd_1330 dX9_fieldOf_102 ?_
    refine G.bipush 105 (9 : Int32) dX9_fieldOf_105 (by decide +kernel) ?_
    obtain ⟨q4, e5, hf⟩ := bd_e hf
    refine G.cvI 107 (As := [.int (mI M 284 25), .int (9 : Int32)]) ck_9 (hs.k k0_284) (c_X9_get Z hs (mI M 284 25) (9 : Int32) e5) mk_X9_get vk_X9_get rfl wd_1411 hR (by decide +kernel) ⟨rfl, rfl⟩ rfl (Nat.le_of_ble_eq_true rfl) dX9_fieldOf_107 (fun hs2 => ?_)
    (have hf9 := Option.some.inj hf; subst hf9)
    exact G.rI 110 hq dX9_fieldOf_110 hs2
  · replace hf := (if_neg h1).symm.trans hf
    by_cases h6 : x1 = (100 : Int32)
    · replace hf := (if_pos h6).symm.trans hf
      refine G.tableIn 1 152 (off := 151) dX9_fieldOf_1 (by rw [h6]; decide +kernel) (by rw [h6]; decide +kernel) (by rw [h6]; decide +kernel) (by decide) ?_
      refine G.aload_n 152 0 dX9_fieldOf_152 rfl rfl ?_
      refine G.aload_n 153 0 dX9_fieldOf_153 rfl rfl ?_
      refine G.geti 154 ck_9 25 (hs.k k0_284) (by decide) (by decide +kernel) wd_1330 dX9_fieldOf_154 ?_
      refine G.iconst 157 (3 : Int32) dX9_fieldOf_157 (by decide +kernel) ?_
      obtain ⟨q9, e10, hf⟩ := bd_e hf
      refine G.cvI 158 (As := [.int (mI M 284 25), .int (3 : Int32)]) ck_9 (hs.k k0_284) (c_X9_get Z hs (mI M 284 25) (3 : Int32) e10) mk_X9_get vk_X9_get rfl wd_1411 hR (by decide +kernel) ⟨rfl, rfl⟩ rfl (Nat.le_of_ble_eq_true rfl) dX9_fieldOf_158 (fun hs7 => ?_)
      (have hf9 := Option.some.inj hf; subst hf9)
      exact G.rI 161 hq dX9_fieldOf_161 hs7
    · replace hf := (if_neg h6).symm.trans hf
      by_cases h11 : x1 = (101 : Int32)
      · replace hf := (if_pos h11).symm.trans hf
        refine G.tableIn 1 162 (off := 161) dX9_fieldOf_1 (by rw [h11]; decide +kernel) (by rw [h11]; decide +kernel) (by rw [h11]; decide +kernel) (by decide) ?_
        refine G.aload_n 162 0 dX9_fieldOf_162 rfl rfl ?_
        refine G.aload_n 163 0 dX9_fieldOf_163 rfl rfl ?_
        refine G.geti 164 ck_9 25 (hs.k k0_284) (by decide) (by decide +kernel) wd_1330 dX9_fieldOf_164 ?_
        refine G.iconst 167 (4 : Int32) dX9_fieldOf_167 (by decide +kernel) ?_
        obtain ⟨q14, e15, hf⟩ := bd_e hf
        refine G.cvI 168 (As := [.int (mI M 284 25), .int (4 : Int32)]) ck_9 (hs.k k0_284) (c_X9_get Z hs (mI M 284 25) (4 : Int32) e15) mk_X9_get vk_X9_get rfl wd_1411 hR (by decide +kernel) ⟨rfl, rfl⟩ rfl (Nat.le_of_ble_eq_true rfl) dX9_fieldOf_168 (fun hs12 => ?_)
        (have hf9 := Option.some.inj hf; subst hf9)
        exact G.rI 171 hq dX9_fieldOf_171 hs12
      · replace hf := (if_neg h11).symm.trans hf
        by_cases h16 : x1 = (102 : Int32)
        · replace hf := (if_pos h16).symm.trans hf
          refine G.tableIn 1 192 (off := 191) dX9_fieldOf_1 (by rw [h16]; decide +kernel) (by rw [h16]; decide +kernel) (by rw [h16]; decide +kernel) (by decide) ?_
          refine G.aload_n 192 0 dX9_fieldOf_192 rfl rfl ?_
          refine G.geti 193 ck_9 25 (hs.k k0_284) (by decide) (by decide +kernel) wd_1330 dX9_fieldOf_193 ?_
          (have hf9 := Option.some.inj hf; subst hf9)
          exact G.rI 196 hq dX9_fieldOf_196 hs
        · replace hf := (if_neg h16).symm.trans hf
          by_cases h17 : x1 = (103 : Int32)
          · replace hf := (if_pos h17).symm.trans hf
            refine G.tableIn 1 192 (off := 191) dX9_fieldOf_1 (by rw [h17]; decide +kernel) (by rw [h17]; decide +kernel) (by rw [h17]; decide +kernel) (by decide) ?_
            refine G.aload_n 192 0 dX9_fieldOf_192 rfl rfl ?_
            refine G.geti 193 ck_9 25 (hs.k k0_284) (by decide) (by decide +kernel) wd_1330 dX9_fieldOf_193 ?_
            (have hf9 := Option.some.inj hf; subst hf9)
            exact G.rI 196 hq dX9_fieldOf_196 hs
          · replace hf := (if_neg h17).symm.trans hf
            by_cases h18 : x1 = (104 : Int32)
            · replace hf := (if_pos h18).symm.trans hf
              refine G.tableIn 1 192 (off := 191) dX9_fieldOf_1 (by rw [h18]; decide +kernel) (by rw [h18]; decide +kernel) (by rw [h18]; decide +kernel) (by decide) ?_
              refine G.aload_n 192 0 dX9_fieldOf_192 rfl rfl ?_
              refine G.geti 193 ck_9 25 (hs.k k0_284) (by decide) (by decide +kernel) wd_1330 dX9_fieldOf_193 ?_
              (have hf9 := Option.some.inj hf; subst hf9)
              exact G.rI 196 hq dX9_fieldOf_196 hs
            · replace hf := (if_neg h18).symm.trans hf
              by_cases h19 : x1 = (105 : Int32)
              · replace hf := (if_pos h19).symm.trans hf
                refine G.tableIn 1 192 (off := 191) dX9_fieldOf_1 (by rw [h19]; decide +kernel) (by rw [h19]; decide +kernel) (by rw [h19]; decide +kernel) (by decide) ?_
                refine G.aload_n 192 0 dX9_fieldOf_192 rfl rfl ?_
                refine G.geti 193 ck_9 25 (hs.k k0_284) (by decide) (by decide +kernel) wd_1330 dX9_fieldOf_193 ?_
                (have hf9 := Option.some.inj hf; subst hf9)
                exact G.rI 196 hq dX9_fieldOf_196 hs
              · replace hf := (if_neg h19).symm.trans hf
                by_cases h20 : x1 = (106 : Int32)
                · replace hf := (if_pos h20).symm.trans hf
                  refine G.tableIn 1 192 (off := 191) dX9_fieldOf_1 (by rw [h20]; decide +kernel) (by rw [h20]; decide +kernel) (by rw [h20]; decide +kernel) (by decide) ?_
                  refine G.aload_n 192 0 dX9_fieldOf_192 rfl rfl ?_
                  refine G.geti 193 ck_9 25 (hs.k k0_284) (by decide) (by decide +kernel) wd_1330 dX9_fieldOf_193 ?_
                  (have hf9 := Option.some.inj hf; subst hf9)
                  exact G.rI 196 hq dX9_fieldOf_196 hs
                · replace hf := (if_neg h20).symm.trans hf
                  by_cases h21 : x1 = (107 : Int32)
                  · replace hf := (if_pos h21).symm.trans hf
                    refine G.tableIn 1 142 (off := 141) dX9_fieldOf_1 (by rw [h21]; decide +kernel) (by rw [h21]; decide +kernel) (by rw [h21]; decide +kernel) (by decide) ?_
                    refine G.aload_n 142 0 dX9_fieldOf_142 rfl rfl ?_
                    refine G.aload_n 143 0 dX9_fieldOf_143 rfl rfl ?_
                    refine G.geti 144 ck_9 25 (hs.k k0_284) (by decide) (by decide +kernel) wd_1330 dX9_fieldOf_144 ?_
                    refine G.iconst 147 (2 : Int32) dX9_fieldOf_147 (by decide +kernel) ?_
                    obtain ⟨q24, e25, hf⟩ := bd_e hf
                    refine G.cvI 148 (As := [.int (mI M 284 25), .int (2 : Int32)]) ck_9 (hs.k k0_284) (c_X9_get Z hs (mI M 284 25) (2 : Int32) e25) mk_X9_get vk_X9_get rfl wd_1411 hR (by decide +kernel) ⟨rfl, rfl⟩ rfl (Nat.le_of_ble_eq_true rfl) dX9_fieldOf_148 (fun hs22 => ?_)
                    (have hf9 := Option.some.inj hf; subst hf9)
                    exact G.rI 151 hq dX9_fieldOf_151 hs22
                  · replace hf := (if_neg h21).symm.trans hf
                    by_cases h26 : x1 = (108 : Int32)
                    · replace hf := (if_pos h26).symm.trans hf
                      refine G.tableIn 1 122 (off := 121) dX9_fieldOf_1 (by rw [h26]; decide +kernel) (by rw [h26]; decide +kernel) (by rw [h26]; decide +kernel) (by decide) ?_
                      refine G.aload_n 122 0 dX9_fieldOf_122 rfl rfl ?_
                      refine G.aload_n 123 0 dX9_fieldOf_123 rfl rfl ?_
                      refine G.geti 124 ck_9 25 (hs.k k0_284) (by decide) (by decide +kernel) wd_1330 dX9_fieldOf_124 ?_
                      refine G.iconst 127 (0 : Int32) dX9_fieldOf_127 (by decide +kernel) ?_
                      obtain ⟨q29, e30, hf⟩ := bd_e hf
                      refine G.cvI 128 (As := [.int (mI M 284 25), .int (0 : Int32)]) ck_9 (hs.k k0_284) (c_X9_get Z hs (mI M 284 25) (0 : Int32) e30) mk_X9_get vk_X9_get rfl wd_1411 hR (by decide +kernel) ⟨rfl, rfl⟩ rfl (Nat.le_of_ble_eq_true rfl) dX9_fieldOf_128 (fun hs27 => ?_)
                      (have hf9 := Option.some.inj hf; subst hf9)
                      exact G.rI 131 hq dX9_fieldOf_131 hs27
                    · replace hf := (if_neg h26).symm.trans hf
                      by_cases h31 : x1 = (109 : Int32)
                      · replace hf := (if_pos h31).symm.trans hf
                        refine G.tableIn 1 192 (off := 191) dX9_fieldOf_1 (by rw [h31]; decide +kernel) (by rw [h31]; decide +kernel) (by rw [h31]; decide +kernel) (by decide) ?_
                        refine G.aload_n 192 0 dX9_fieldOf_192 rfl rfl ?_
                        refine G.geti 193 ck_9 25 (hs.k k0_284) (by decide) (by decide +kernel) wd_1330 dX9_fieldOf_193 ?_
                        (have hf9 := Option.some.inj hf; subst hf9)
                        exact G.rI 196 hq dX9_fieldOf_196 hs
                      · replace hf := (if_neg h31).symm.trans hf
                        by_cases h32 : x1 = (110 : Int32)
                        · replace hf := (if_pos h32).symm.trans hf
                          refine G.tableIn 1 192 (off := 191) dX9_fieldOf_1 (by rw [h32]; decide +kernel) (by rw [h32]; decide +kernel) (by rw [h32]; decide +kernel) (by decide) ?_
                          refine G.aload_n 192 0 dX9_fieldOf_192 rfl rfl ?_
                          refine G.geti 193 ck_9 25 (hs.k k0_284) (by decide) (by decide +kernel) wd_1330 dX9_fieldOf_193 ?_
                          (have hf9 := Option.some.inj hf; subst hf9)
                          exact G.rI 196 hq dX9_fieldOf_196 hs
                        · replace hf := (if_neg h32).symm.trans hf
                          by_cases h33 : x1 = (111 : Int32)
                          · replace hf := (if_pos h33).symm.trans hf
                            refine G.tableIn 1 111 (off := 110) dX9_fieldOf_1 (by rw [h33]; decide +kernel) (by rw [h33]; decide +kernel) (by rw [h33]; decide +kernel) (by decide) ?_
                            refine G.aload_n 111 0 dX9_fieldOf_111 rfl rfl ?_
                            refine G.aload_n 112 0 dX9_fieldOf_112 rfl rfl ?_
                            refine G.geti 113 ck_9 25 (hs.k k0_284) (by decide) (by decide +kernel) wd_1330 dX9_fieldOf_113 ?_
                            refine G.bipush 116 (10 : Int32) dX9_fieldOf_116 (by decide +kernel) ?_
                            obtain ⟨q36, e37, hf⟩ := bd_e hf
                            refine G.cvI 118 (As := [.int (mI M 284 25), .int (10 : Int32)]) ck_9 (hs.k k0_284) (c_X9_get Z hs (mI M 284 25) (10 : Int32) e37) mk_X9_get vk_X9_get rfl wd_1411 hR (by decide +kernel) ⟨rfl, rfl⟩ rfl (Nat.le_of_ble_eq_true rfl) dX9_fieldOf_118 (fun hs34 => ?_)
                            (have hf9 := Option.some.inj hf; subst hf9)
                            exact G.rI 121 hq dX9_fieldOf_121 hs34
                          · replace hf := (if_neg h33).symm.trans hf
                            by_cases h38 : x1 = (112 : Int32)
                            · replace hf := (if_pos h38).symm.trans hf
                              refine G.tableIn 1 192 (off := 191) dX9_fieldOf_1 (by rw [h38]; decide +kernel) (by rw [h38]; decide +kernel) (by rw [h38]; decide +kernel) (by decide) ?_
                              refine G.aload_n 192 0 dX9_fieldOf_192 rfl rfl ?_
                              refine G.geti 193 ck_9 25 (hs.k k0_284) (by decide) (by decide +kernel) wd_1330 dX9_fieldOf_193 ?_
                              (have hf9 := Option.some.inj hf; subst hf9)
                              exact G.rI 196 hq dX9_fieldOf_196 hs
                            · replace hf := (if_neg h38).symm.trans hf
                              by_cases h39 : x1 = (113 : Int32)
                              · replace hf := (if_pos h39).symm.trans hf
                                refine G.tableIn 1 192 (off := 191) dX9_fieldOf_1 (by rw [h39]; decide +kernel) (by rw [h39]; decide +kernel) (by rw [h39]; decide +kernel) (by decide) ?_
                                refine G.aload_n 192 0 dX9_fieldOf_192 rfl rfl ?_
                                refine G.geti 193 ck_9 25 (hs.k k0_284) (by decide) (by decide +kernel) wd_1330 dX9_fieldOf_193 ?_
                                (have hf9 := Option.some.inj hf; subst hf9)
                                exact G.rI 196 hq dX9_fieldOf_196 hs
                              · replace hf := (if_neg h39).symm.trans hf
                                by_cases h40 : x1 = (114 : Int32)
                                · replace hf := (if_pos h40).symm.trans hf
                                  refine G.tableIn 1 192 (off := 191) dX9_fieldOf_1 (by rw [h40]; decide +kernel) (by rw [h40]; decide +kernel) (by rw [h40]; decide +kernel) (by decide) ?_
                                  refine G.aload_n 192 0 dX9_fieldOf_192 rfl rfl ?_
                                  refine G.geti 193 ck_9 25 (hs.k k0_284) (by decide) (by decide +kernel) wd_1330 dX9_fieldOf_193 ?_
                                  (have hf9 := Option.some.inj hf; subst hf9)
                                  exact G.rI 196 hq dX9_fieldOf_196 hs
                                · replace hf := (if_neg h40).symm.trans hf
                                  by_cases h41 : x1 = (115 : Int32)
                                  · replace hf := (if_pos h41).symm.trans hf
                                    refine G.tableIn 1 172 (off := 171) dX9_fieldOf_1 (by rw [h41]; decide +kernel) (by rw [h41]; decide +kernel) (by rw [h41]; decide +kernel) (by decide) ?_
                                    refine G.aload_n 172 0 dX9_fieldOf_172 rfl rfl ?_
                                    refine G.aload_n 173 0 dX9_fieldOf_173 rfl rfl ?_
                                    refine G.geti 174 ck_9 25 (hs.k k0_284) (by decide) (by decide +kernel) wd_1330 dX9_fieldOf_174 ?_
                                    obtain ⟨q44, e45, hf⟩ := bd_e hf
                                    refine G.cvI 177 (As := [.int (mI M 284 25)]) ck_9 (hs.k k0_284) (c_X9_share Z hs (mI M 284 25) e45) mk_X9_share vk_X9_share rfl wd_1449 hR (by decide +kernel) ⟨rfl, rfl⟩ rfl (Nat.le_of_ble_eq_true rfl) dX9_fieldOf_177 (fun hs42 => ?_)
                                    (have hf9 := Option.some.inj hf; subst hf9)
                                    exact G.rI 180 hq dX9_fieldOf_180 hs42
                                  · replace hf := (if_neg h41).symm.trans hf
                                    by_cases h46 : x1 = (116 : Int32)
                                    · replace hf := (if_pos h46).symm.trans hf
                                      refine G.tableIn 1 132 (off := 131) dX9_fieldOf_1 (by rw [h46]; decide +kernel) (by rw [h46]; decide +kernel) (by rw [h46]; decide +kernel) (by decide) ?_
                                      refine G.aload_n 132 0 dX9_fieldOf_132 rfl rfl ?_
                                      refine G.aload_n 133 0 dX9_fieldOf_133 rfl rfl ?_
                                      refine G.geti 134 ck_9 25 (hs.k k0_284) (by decide) (by decide +kernel) wd_1330 dX9_fieldOf_134 ?_
                                      refine G.iconst 137 (1 : Int32) dX9_fieldOf_137 (by decide +kernel) ?_
                                      obtain ⟨q49, e50, hf⟩ := bd_e hf
                                      refine G.cvI 138 (As := [.int (mI M 284 25), .int (1 : Int32)]) ck_9 (hs.k k0_284) (c_X9_get Z hs (mI M 284 25) (1 : Int32) e50) mk_X9_get vk_X9_get rfl wd_1411 hR (by decide +kernel) ⟨rfl, rfl⟩ rfl (Nat.le_of_ble_eq_true rfl) dX9_fieldOf_138 (fun hs47 => ?_)
                                      (have hf9 := Option.some.inj hf; subst hf9)
                                      exact G.rI 141 hq dX9_fieldOf_141 hs47
                                    · replace hf := (if_neg h46).symm.trans hf
                                      by_cases h51 : x1 = (117 : Int32)
                                      · replace hf := (if_pos h51).symm.trans hf
                                        refine G.tableIn 1 192 (off := 191) dX9_fieldOf_1 (by rw [h51]; decide +kernel) (by rw [h51]; decide +kernel) (by rw [h51]; decide +kernel) (by decide) ?_
                                        refine G.aload_n 192 0 dX9_fieldOf_192 rfl rfl ?_
                                        refine G.geti 193 ck_9 25 (hs.k k0_284) (by decide) (by decide +kernel) wd_1330 dX9_fieldOf_193 ?_
                                        (have hf9 := Option.some.inj hf; subst hf9)
                                        exact G.rI 196 hq dX9_fieldOf_196 hs
                                      · replace hf := (if_neg h51).symm.trans hf
                                        by_cases h52 : x1 = (118 : Int32)
                                        · replace hf := (if_pos h52).symm.trans hf
                                          refine G.tableIn 1 192 (off := 191) dX9_fieldOf_1 (by rw [h52]; decide +kernel) (by rw [h52]; decide +kernel) (by rw [h52]; decide +kernel) (by decide) ?_
                                          refine G.aload_n 192 0 dX9_fieldOf_192 rfl rfl ?_
                                          refine G.geti 193 ck_9 25 (hs.k k0_284) (by decide) (by decide +kernel) wd_1330 dX9_fieldOf_193 ?_
                                          (have hf9 := Option.some.inj hf; subst hf9)
                                          exact G.rI 196 hq dX9_fieldOf_196 hs
                                        · replace hf := (if_neg h52).symm.trans hf
                                          by_cases h53 : x1 = (119 : Int32)
                                          · replace hf := (if_pos h53).symm.trans hf
                                            refine G.tableIn 1 181 (off := 180) dX9_fieldOf_1 (by rw [h53]; decide +kernel) (by rw [h53]; decide +kernel) (by rw [h53]; decide +kernel) (by decide) ?_
                                            refine G.aload_n 181 0 dX9_fieldOf_181 rfl rfl ?_
                                            refine G.aload_n 182 0 dX9_fieldOf_182 rfl rfl ?_
                                            refine G.geti 183 ck_9 25 (hs.k k0_284) (by decide) (by decide +kernel) wd_1330 dX9_fieldOf_183 ?_
                                            refine G.bipush 186 (11 : Int32) dX9_fieldOf_186 (by decide +kernel) ?_
                                            obtain ⟨q56, e57, hf⟩ := bd_e hf
                                            refine G.cvI 188 (As := [.int (mI M 284 25), .int (11 : Int32)]) ck_9 (hs.k k0_284) (c_X9_get Z hs (mI M 284 25) (11 : Int32) e57) mk_X9_get vk_X9_get rfl wd_1411 hR (by decide +kernel) ⟨rfl, rfl⟩ rfl (Nat.le_of_ble_eq_true rfl) dX9_fieldOf_188 (fun hs54 => ?_)
                                            (have hf9 := Option.some.inj hf; subst hf9)
                                            exact G.rI 191 hq dX9_fieldOf_191 hs54
                                          · replace hf := (if_neg h53).symm.trans hf
                                            have t_h1 := ti (99 : Int32) (99) (by decide +kernel) h1
                                            have t_h6 := ti (100 : Int32) (100) (by decide +kernel) h6
                                            have t_h11 := ti (101 : Int32) (101) (by decide +kernel) h11
                                            have t_h16 := ti (102 : Int32) (102) (by decide +kernel) h16
                                            have t_h17 := ti (103 : Int32) (103) (by decide +kernel) h17
                                            have t_h18 := ti (104 : Int32) (104) (by decide +kernel) h18
                                            have t_h19 := ti (105 : Int32) (105) (by decide +kernel) h19
                                            have t_h20 := ti (106 : Int32) (106) (by decide +kernel) h20
                                            have t_h21 := ti (107 : Int32) (107) (by decide +kernel) h21
                                            have t_h26 := ti (108 : Int32) (108) (by decide +kernel) h26
                                            have t_h31 := ti (109 : Int32) (109) (by decide +kernel) h31
                                            have t_h32 := ti (110 : Int32) (110) (by decide +kernel) h32
                                            have t_h33 := ti (111 : Int32) (111) (by decide +kernel) h33
                                            have t_h38 := ti (112 : Int32) (112) (by decide +kernel) h38
                                            have t_h39 := ti (113 : Int32) (113) (by decide +kernel) h39
                                            have t_h40 := ti (114 : Int32) (114) (by decide +kernel) h40
                                            have t_h41 := ti (115 : Int32) (115) (by decide +kernel) h41
                                            have t_h46 := ti (116 : Int32) (116) (by decide +kernel) h46
                                            have t_h51 := ti (117 : Int32) (117) (by decide +kernel) h51
                                            have t_h52 := ti (118 : Int32) (118) (by decide +kernel) h52
                                            have t_h53 := ti (119 : Int32) (119) (by decide +kernel) h53
                                            refine G.tableOut 1 192 dX9_fieldOf_1 (by omega) (by decide) ?_
                                            refine G.aload_n 192 0 dX9_fieldOf_192 rfl rfl ?_
                                            refine G.geti 193 ck_9 25 (hs.k k0_284) (by decide) (by decide +kernel) wd_1330 dX9_fieldOf_193 ?_
                                            (have hf9 := Option.some.inj hf; subst hf9)
                                            exact G.rI 196 hq dX9_fieldOf_196 hs
abbrev Y_X9_atom : My := (cX9_atom, RX9, 4)
def rm_X9_atom : Room := { frames := 4, cells := 0, slots := 0, locals := 264 }
theorem dX9_atom_0 : decode cX9_atom 0 = .ok (.aload_n 0, 1) := by decide +kernel
theorem dX9_atom_1 : decode cX9_atom 1 = .ok (.invokevirtual 234, 3) := by decide +kernel
theorem dX9_atom_4 : decode cX9_atom 4 = .ok (.istore_n 1, 1) := by decide +kernel
theorem dX9_atom_5 : decode cX9_atom 5 = .ok (.aload_n 0, 1) := by decide +kernel
theorem dX9_atom_6 : decode cX9_atom 6 = .ok (.getfield 230, 3) := by decide +kernel
theorem dX9_atom_9 : decode cX9_atom 9 = .ok (.ifCond .ne 5, 3) := by decide +kernel
theorem dX9_atom_12 : decode cX9_atom 12 = .ok (.iconst 0, 1) := by decide +kernel
theorem dX9_atom_13 : decode cX9_atom 13 = .ok (.ireturn, 1) := by decide +kernel
theorem dX9_atom_14 : decode cX9_atom 14 = .ok (.iload_n 1, 1) := by decide +kernel
theorem dX9_atom_15 : decode cX9_atom 15 = .ok (.invokestatic 265, 3) := by decide +kernel
theorem dX9_atom_18 : decode cX9_atom 18 = .ok (.ifCond .eq 70, 3) := by decide +kernel
theorem dX9_atom_21 : decode cX9_atom 21 = .ok (.iload_n 1, 1) := by decide +kernel
theorem dX9_atom_22 : decode cX9_atom 22 = .ok (.bipush 48, 2) := by decide +kernel
theorem dX9_atom_24 : decode cX9_atom 24 = .ok (.isub, 1) := by decide +kernel
theorem dX9_atom_25 : decode cX9_atom 25 = .ok (.istore_n 2, 1) := by decide +kernel
theorem dX9_atom_26 : decode cX9_atom 26 = .ok (.aload_n 0, 1) := by decide +kernel
theorem dX9_atom_27 : decode cX9_atom 27 = .ok (.dup, 1) := by decide +kernel
theorem dX9_atom_28 : decode cX9_atom 28 = .ok (.getfield 221, 3) := by decide +kernel
theorem dX9_atom_31 : decode cX9_atom 31 = .ok (.iconst 1, 1) := by decide +kernel
theorem dX9_atom_32 : decode cX9_atom 32 = .ok (.iadd, 1) := by decide +kernel
theorem dX9_atom_33 : decode cX9_atom 33 = .ok (.putfield 221, 3) := by decide +kernel
theorem dX9_atom_36 : decode cX9_atom 36 = .ok (.iconst 1, 1) := by decide +kernel
theorem dX9_atom_37 : decode cX9_atom 37 = .ok (.istore_n 3, 1) := by decide +kernel
theorem dX9_atom_38 : decode cX9_atom 38 = .ok (.iload_n 3, 1) := by decide +kernel
theorem dX9_atom_39 : decode cX9_atom 39 = .ok (.iconst 4, 1) := by decide +kernel
theorem dX9_atom_40 : decode cX9_atom 40 = .ok (.if_icmp .ge 46, 3) := by decide +kernel
theorem dX9_atom_43 : decode cX9_atom 43 = .ok (.iload_n 2, 1) := by decide +kernel
theorem dX9_atom_44 : decode cX9_atom 44 = .ok (.ifCond .le 42, 3) := by decide +kernel
theorem dX9_atom_47 : decode cX9_atom 47 = .ok (.aload_n 0, 1) := by decide +kernel
theorem dX9_atom_48 : decode cX9_atom 48 = .ok (.invokevirtual 234, 3) := by decide +kernel
theorem dX9_atom_51 : decode cX9_atom 51 = .ok (.invokestatic 265, 3) := by decide +kernel
theorem dX9_atom_54 : decode cX9_atom 54 = .ok (.ifCond .eq 32, 3) := by decide +kernel
theorem dX9_atom_57 : decode cX9_atom 57 = .ok (.bipush 10, 2) := by decide +kernel
theorem dX9_atom_59 : decode cX9_atom 59 = .ok (.iload_n 2, 1) := by decide +kernel
theorem dX9_atom_60 : decode cX9_atom 60 = .ok (.imul, 1) := by decide +kernel
theorem dX9_atom_61 : decode cX9_atom 61 = .ok (.aload_n 0, 1) := by decide +kernel
theorem dX9_atom_62 : decode cX9_atom 62 = .ok (.invokevirtual 234, 3) := by decide +kernel
theorem dX9_atom_65 : decode cX9_atom 65 = .ok (.iadd, 1) := by decide +kernel
theorem dX9_atom_66 : decode cX9_atom 66 = .ok (.bipush 48, 2) := by decide +kernel
theorem dX9_atom_68 : decode cX9_atom 68 = .ok (.isub, 1) := by decide +kernel
theorem dX9_atom_69 : decode cX9_atom 69 = .ok (.istore_n 2, 1) := by decide +kernel
theorem dX9_atom_70 : decode cX9_atom 70 = .ok (.aload_n 0, 1) := by decide +kernel
theorem dX9_atom_71 : decode cX9_atom 71 = .ok (.dup, 1) := by decide +kernel
theorem dX9_atom_72 : decode cX9_atom 72 = .ok (.getfield 221, 3) := by decide +kernel
theorem dX9_atom_75 : decode cX9_atom 75 = .ok (.iconst 1, 1) := by decide +kernel
theorem dX9_atom_76 : decode cX9_atom 76 = .ok (.iadd, 1) := by decide +kernel
theorem dX9_atom_77 : decode cX9_atom 77 = .ok (.putfield 221, 3) := by decide +kernel
theorem dX9_atom_80 : decode cX9_atom 80 = .ok (.iinc 3 1, 3) := by decide +kernel
theorem dX9_atom_83 : decode cX9_atom 83 = .ok (.goto (-45), 3) := by decide +kernel
theorem dX9_atom_86 : decode cX9_atom 86 = .ok (.iload_n 2, 1) := by decide +kernel
theorem dX9_atom_87 : decode cX9_atom 87 = .ok (.ireturn, 1) := by decide +kernel
theorem dX9_atom_88 : decode cX9_atom 88 = .ok (.iload_n 1, 1) := by decide +kernel
theorem dX9_atom_89 : decode cX9_atom 89 = .ok (.bipush 99, 2) := by decide +kernel
theorem dX9_atom_91 : decode cX9_atom 91 = .ok (.if_icmp .eq 64, 3) := by decide +kernel
theorem dX9_atom_94 : decode cX9_atom 94 = .ok (.iload_n 1, 1) := by decide +kernel
theorem dX9_atom_95 : decode cX9_atom 95 = .ok (.bipush 111, 2) := by decide +kernel
theorem dX9_atom_97 : decode cX9_atom 97 = .ok (.if_icmp .eq 58, 3) := by decide +kernel
theorem dX9_atom_100 : decode cX9_atom 100 = .ok (.iload_n 1, 1) := by decide +kernel
theorem dX9_atom_101 : decode cX9_atom 101 = .ok (.bipush 108, 2) := by decide +kernel
theorem dX9_atom_103 : decode cX9_atom 103 = .ok (.if_icmp .eq 52, 3) := by decide +kernel
theorem dX9_atom_106 : decode cX9_atom 106 = .ok (.iload_n 1, 1) := by decide +kernel
theorem dX9_atom_107 : decode cX9_atom 107 = .ok (.bipush 116, 2) := by decide +kernel
theorem dX9_atom_109 : decode cX9_atom 109 = .ok (.if_icmp .eq 46, 3) := by decide +kernel
theorem dX9_atom_112 : decode cX9_atom 112 = .ok (.iload_n 1, 1) := by decide +kernel
theorem dX9_atom_113 : decode cX9_atom 113 = .ok (.bipush 107, 2) := by decide +kernel
theorem dX9_atom_115 : decode cX9_atom 115 = .ok (.if_icmp .eq 40, 3) := by decide +kernel
theorem dX9_atom_118 : decode cX9_atom 118 = .ok (.iload_n 1, 1) := by decide +kernel
theorem dX9_atom_119 : decode cX9_atom 119 = .ok (.bipush 100, 2) := by decide +kernel
theorem dX9_atom_121 : decode cX9_atom 121 = .ok (.if_icmp .eq 34, 3) := by decide +kernel
theorem dX9_atom_124 : decode cX9_atom 124 = .ok (.iload_n 1, 1) := by decide +kernel
theorem dX9_atom_125 : decode cX9_atom 125 = .ok (.bipush 101, 2) := by decide +kernel
theorem dX9_atom_127 : decode cX9_atom 127 = .ok (.if_icmp .eq 28, 3) := by decide +kernel
theorem dX9_atom_130 : decode cX9_atom 130 = .ok (.iload_n 1, 1) := by decide +kernel
theorem dX9_atom_131 : decode cX9_atom 131 = .ok (.bipush 115, 2) := by decide +kernel
theorem dX9_atom_133 : decode cX9_atom 133 = .ok (.if_icmp .eq 22, 3) := by decide +kernel
theorem dX9_atom_136 : decode cX9_atom 136 = .ok (.iload_n 1, 1) := by decide +kernel
theorem dX9_atom_137 : decode cX9_atom 137 = .ok (.bipush 119, 2) := by decide +kernel
theorem dX9_atom_139 : decode cX9_atom 139 = .ok (.if_icmp .eq 16, 3) := by decide +kernel
theorem dX9_atom_142 : decode cX9_atom 142 = .ok (.iload_n 1, 1) := by decide +kernel
theorem dX9_atom_143 : decode cX9_atom 143 = .ok (.bipush 104, 2) := by decide +kernel
theorem dX9_atom_145 : decode cX9_atom 145 = .ok (.if_icmp .eq 10, 3) := by decide +kernel
theorem dX9_atom_148 : decode cX9_atom 148 = .ok (.aload_n 0, 1) := by decide +kernel
theorem dX9_atom_149 : decode cX9_atom 149 = .ok (.iconst 0, 1) := by decide +kernel
theorem dX9_atom_150 : decode cX9_atom 150 = .ok (.putfield 230, 3) := by decide +kernel
theorem dX9_atom_153 : decode cX9_atom 153 = .ok (.iconst 0, 1) := by decide +kernel
theorem dX9_atom_154 : decode cX9_atom 154 = .ok (.ireturn, 1) := by decide +kernel
theorem dX9_atom_155 : decode cX9_atom 155 = .ok (.aload_n 0, 1) := by decide +kernel
theorem dX9_atom_156 : decode cX9_atom 156 = .ok (.dup, 1) := by decide +kernel
theorem dX9_atom_157 : decode cX9_atom 157 = .ok (.getfield 221, 3) := by decide +kernel
theorem dX9_atom_160 : decode cX9_atom 160 = .ok (.iconst 1, 1) := by decide +kernel
theorem dX9_atom_161 : decode cX9_atom 161 = .ok (.iadd, 1) := by decide +kernel
theorem dX9_atom_162 : decode cX9_atom 162 = .ok (.putfield 221, 3) := by decide +kernel
theorem dX9_atom_165 : decode cX9_atom 165 = .ok (.aload_n 0, 1) := by decide +kernel
theorem dX9_atom_166 : decode cX9_atom 166 = .ok (.getfield 268, 3) := by decide +kernel
theorem dX9_atom_169 : decode cX9_atom 169 = .ok (.ifCond .ge 7, 3) := by decide +kernel
theorem dX9_atom_172 : decode cX9_atom 172 = .ok (.iconst 0, 1) := by decide +kernel
theorem dX9_atom_173 : decode cX9_atom 173 = .ok (.goto 8, 3) := by decide +kernel
theorem dX9_atom_176 : decode cX9_atom 176 = .ok (.aload_n 0, 1) := by decide +kernel
theorem dX9_atom_177 : decode cX9_atom 177 = .ok (.iload_n 1, 1) := by decide +kernel
theorem dX9_atom_178 : decode cX9_atom 178 = .ok (.invokevirtual 271, 3) := by decide +kernel
theorem dX9_atom_181 : decode cX9_atom 181 = .ok (.ireturn, 1) := by decide +kernel
def B_X9_atom_155 (x1 : Int32) (M : Mem) : Option (Int32 × Mem) := if 0 ≤ (mI (sI M 284 21 ((mI M 284 21) + (1 : Int32))) 284 25) then (f_X9_fieldOf x1 (sI M 284 21 ((mI M 284 21) + (1 : Int32)))).bind fun q13 => some (q13, (sI M 284 21 ((mI M 284 21) + (1 : Int32)))) else some ((0 : Int32), (sI M 284 21 ((mI M 284 21) + (1 : Int32))))
def L_X9_atom_38 : Nat → Int32 → Int32 → Mem → Option (Int32 × Mem)
  | 0, _, _, _ => none
  | n + 1, x2, x3, M => if (4 : Int32) ≤ x3 then some (x2, M) else if x2 ≤ 0 then some (x2, M) else (f_X9_sign M).bind fun q28 => if (f_X9_isDigit q28) = 0 then some (x2, M) else (f_X9_sign M).bind fun q35 => L_X9_atom_38 n ((((10 : Int32) * x2) + q35) - (48 : Int32)) (x3 + 1) (sI M 284 21 ((mI M 284 21) + (1 : Int32)))
def f_X9_atom (M : Mem) : Option (Int32 × Mem) := (f_X9_sign M).bind fun q3 => if (mI M 284 27) = 0 then some ((0 : Int32), M) else if (f_X9_isDigit q3) = 0 then if q3 = (99 : Int32) then B_X9_atom_155 q3 M else if q3 = (111 : Int32) then B_X9_atom_155 q3 M else if q3 = (108 : Int32) then B_X9_atom_155 q3 M else if q3 = (116 : Int32) then B_X9_atom_155 q3 M else if q3 = (107 : Int32) then B_X9_atom_155 q3 M else if q3 = (100 : Int32) then B_X9_atom_155 q3 M else if q3 = (101 : Int32) then B_X9_atom_155 q3 M else if q3 = (115 : Int32) then B_X9_atom_155 q3 M else if q3 = (119 : Int32) then B_X9_atom_155 q3 M else if q3 = (104 : Int32) then B_X9_atom_155 q3 M else some ((0 : Int32), (sI M 284 27 (0 : Int32))) else L_X9_atom_38 FU (q3 - (48 : Int32)) (1 : Int32) (sI M 284 21 ((mI M 284 21) + (1 : Int32)))
set_option maxRecDepth 100000 in
set_option maxHeartbeats 4000000 in
theorem b_X9_atom_155 (Z : Sys) (X : Cx) (hR : xR X = rm_X9_atom) {q : Int32 × Mem} (hq : RetOk Z X (some .int) False (PostI q.1 q.2) 0 0) (x1 : Int32) {M : Mem} (hs : St M) (hf : B_X9_atom_155 x1 M = some q) : G Z X Y_X9_atom False 0 0 155 [(0, .ref (zs Z + 284)), (1, .int x1)] [] M := by
  unfold B_X9_atom_155 at hf
  refine G.aload_n 155 0 dX9_atom_155 rfl rfl ?_
  refine G.dup 156 dX9_atom_156 rfl ?_
  refine G.geti 157 ck_9 21 (hs.k k0_284) (by decide) (by decide +kernel) wd_1326 dX9_atom_157 ?_
  refine G.iconst 160 (1 : Int32) dX9_atom_160 (by decide +kernel) ?_
  refine G.iadd 161 dX9_atom_161 ?_
  refine G.puti 162 ck_9 21 (hs.k k0_284) (by decide) (by decide +kernel) rfl wd_1326 rfl rfl dX9_atom_162 ?_
  refine G.aload_n 165 0 dX9_atom_165 rfl rfl ?_
  refine G.geti 166 ck_9 25 ((St.i hs).k k0_284) (by decide) (by decide +kernel) wd_1330 dX9_atom_166 ?_
  refine G.if_ge 169 176 dX9_atom_169 (by decide) (fun h10 => ?_) (fun h10 => ?_)
  · replace hf := (if_pos h10).symm.trans hf
    refine G.aload_n 176 0 dX9_atom_176 rfl rfl ?_
    refine G.iload_n 177 1 dX9_atom_177 rfl rfl ?_
    obtain ⟨q13, e14, hf⟩ := bd_e hf
    refine G.cvI 178 (As := [.int x1]) ck_9 ((St.i hs).k k0_284) (c_X9_fieldOf Z (St.i hs) x1 e14) mk_X9_fieldOf vk_X9_fieldOf rfl wd_1714 hR (by decide +kernel) ⟨rfl, rfl⟩ rfl (Nat.le_of_ble_eq_true rfl) dX9_atom_178 (fun hs11 => ?_)
    (have hf9 := Option.some.inj hf; subst hf9)
    exact G.rI 181 hq dX9_atom_181 hs11
  · replace hf := (if_neg h10).symm.trans hf
    refine G.iconst 172 (0 : Int32) dX9_atom_172 (by decide +kernel) ?_
    refine G.goto 173 181 dX9_atom_173 (by decide) ?_
    (have hf9 := Option.some.inj hf; subst hf9)
    exact G.rI 181 hq dX9_atom_181 (St.i hs)
set_option maxRecDepth 100000 in
set_option maxHeartbeats 4000000 in
theorem l_X9_atom_38 (Z : Sys) (X : Cx) (hR : xR X = rm_X9_atom) {q : Int32 × Mem} (hq : RetOk Z X (some .int) False (PostI q.1 q.2) 0 0) : ∀ (n : Nat) (x2 : Int32) (x3 : Int32) (M : Mem) (hs : St M) (hf : L_X9_atom_38 n x2 x3 M = some q), G Z X Y_X9_atom False 0 0 38 [(0, .ref (zs Z + 284)), (2, .int x2), (3, .int x3)] [] M := by
  intro n
  induction n with
  | zero => intro x2 x3 M hs  hf; cases hf
  | succ n ih =>
    intro x2 x3 M hs  hf
    unfold L_X9_atom_38 at hf
    refine G.iload_n 38 2 dX9_atom_38 rfl rfl ?_
    refine G.iconst 39 (4 : Int32) dX9_atom_39 (by decide +kernel) ?_
    refine G.icmp_ge 40 86 dX9_atom_40 (by decide) (fun h24 => ?_) (fun h24 => ?_)
    · replace hf := (if_pos h24).symm.trans hf
      refine G.iload_n 86 1 dX9_atom_86 rfl rfl ?_
      (have hf9 := Option.some.inj hf; subst hf9)
      exact G.rI 87 hq dX9_atom_87 hs
    · replace hf := (if_neg h24).symm.trans hf
      refine G.iload_n 43 1 dX9_atom_43 rfl rfl ?_
      refine G.if_le 44 86 dX9_atom_44 (by decide) (fun h25 => ?_) (fun h25 => ?_)
      · replace hf := (if_pos h25).symm.trans hf
        refine G.iload_n 86 1 dX9_atom_86 rfl rfl ?_
        (have hf9 := Option.some.inj hf; subst hf9)
        exact G.rI 87 hq dX9_atom_87 hs
      · replace hf := (if_neg h25).symm.trans hf
        refine G.aload_n 47 0 dX9_atom_47 rfl rfl ?_
        obtain ⟨q28, e29, hf⟩ := bd_e hf
        refine G.cvI 48 (As := []) ck_9 (hs.k k0_284) (c_X9_sign Z hs e29) mk_X9_sign vk_X9_sign rfl wd_1673 hR (by decide +kernel) ⟨rfl, rfl⟩ rfl (Nat.le_of_ble_eq_true rfl) dX9_atom_48 (fun hs26 => ?_)
        refine G.csZ 51 (As := [.int q28]) (c_X9_isDigit Z hs26 q28 rfl) mk_X9_isDigit wd_1712 wd_1711 hR (by decide +kernel) ⟨rfl, rfl⟩ rfl (Nat.le_of_ble_eq_true rfl) dX9_atom_51 (fun hs30 z31 => ?_)
        refine G.if_eq 54 86 dX9_atom_54 (by decide) (fun h32 => ?_) (fun h32 => ?_)
        · replace hf := (if_pos h32).symm.trans hf
          refine G.iload_n 86 1 dX9_atom_86 rfl rfl ?_
          (have hf9 := Option.some.inj hf; subst hf9)
          exact G.rI 87 hq dX9_atom_87 hs30
        · replace hf := (if_neg h32).symm.trans hf
          refine G.bipush 57 (10 : Int32) dX9_atom_57 (by decide +kernel) ?_
          refine G.iload_n 59 1 dX9_atom_59 rfl rfl ?_
          refine G.imul 60 dX9_atom_60 ?_
          refine G.aload_n 61 0 dX9_atom_61 rfl rfl ?_
          obtain ⟨q35, e36, hf⟩ := bd_e hf
          refine G.cvI 62 (As := []) ck_9 (hs30.k k0_284) (c_X9_sign Z hs30 e36) mk_X9_sign vk_X9_sign rfl wd_1673 hR (by decide +kernel) ⟨rfl, rfl⟩ rfl (Nat.le_of_ble_eq_true rfl) dX9_atom_62 (fun hs33 => ?_)
          refine G.iadd 65 dX9_atom_65 ?_
          refine G.bipush 66 (48 : Int32) dX9_atom_66 (by decide +kernel) ?_
          refine G.isub 68 dX9_atom_68 ?_
          refine G.istore_n 69 [(2, .int ((((10 : Int32) * x2) + q35) - (48 : Int32))), (0, .ref (zs Z + 284)), (3, .int x3)] dX9_atom_69 rfl (Nat.le_of_ble_eq_true rfl) rfl ?_
          refine G.aload_n 70 1 dX9_atom_70 rfl rfl ?_
          refine G.dup 71 dX9_atom_71 rfl ?_
          refine G.geti 72 ck_9 21 (hs33.k k0_284) (by decide) (by decide +kernel) wd_1326 dX9_atom_72 ?_
          refine G.iconst 75 (1 : Int32) dX9_atom_75 (by decide +kernel) ?_
          refine G.iadd 76 dX9_atom_76 ?_
          refine G.puti 77 ck_9 21 (hs33.k k0_284) (by decide) (by decide +kernel) rfl wd_1326 rfl rfl dX9_atom_77 ?_
          refine G.iinc 80 2 (x3 + 1) [(3, .int (x3 + 1)), (2, .int ((((10 : Int32) * x2) + q35) - (48 : Int32))), (0, .ref (zs Z + 284))] dX9_atom_80 rfl (congrArg (fun z => x3 + z) (by decide +kernel)) (Nat.le_of_ble_eq_true rfl) rfl ?_
          refine G.goto 83 38 dX9_atom_83 (by decide) ?_
          refine G.locs [2, 1, 0] rfl ?_
          exact ih ((((10 : Int32) * x2) + q35) - (48 : Int32)) (x3 + 1) (sI M 284 21 ((mI M 284 21) + (1 : Int32))) (St.i hs33) hf
set_option maxRecDepth 100000 in
set_option maxHeartbeats 4000000 in
theorem c_X9_atom (Z : Sys) {M : Mem} (hs : St M) {q : Int32 × Mem} (hf : f_X9_atom M = some q) : Ct Z yX9_atom cX9_atom 4 (some .int) rm_X9_atom [.ref (zs Z + 284)] M False (PostI q.1 q.2) := by
  refine Ct.of (by decide +kernel) (Nat.le_of_ble_eq_true rfl) (fun X hR hq _ => ?_)
  show G Z X Y_X9_atom False 0 0 0 [(0, .ref (zs Z + 284))] [] M
  replace hq : RetOk Z X (some .int) False (PostI q.1 q.2) 0 0 := hq
  unfold f_X9_atom at hf
  refine G.aload_n 0 0 dX9_atom_0 rfl rfl ?_
  obtain ⟨q3, e4, hf⟩ := bd_e hf
  refine G.cvI 1 (As := []) ck_9 (hs.k k0_284) (c_X9_sign Z hs e4) mk_X9_sign vk_X9_sign rfl wd_1673 hR (by decide +kernel) ⟨rfl, rfl⟩ rfl (Nat.le_of_ble_eq_true rfl) dX9_atom_1 (fun hs1 => ?_)
  refine G.istore_n 4 [(1, .int q3), (0, .ref (zs Z + 284))] dX9_atom_4 rfl (Nat.le_of_ble_eq_true rfl) rfl ?_
  refine G.aload_n 5 1 dX9_atom_5 rfl rfl ?_
  refine G.geti 6 ck_9 27 (hs1.k k0_284) (by decide) (by decide +kernel) wd_1332 dX9_atom_6 ?_
  refine G.if_ne 9 14 dX9_atom_9 (by decide) (fun h5 => ?_) (fun h5 => ?_)
  · replace hf := (if_neg h5).symm.trans hf
    refine G.iload_n 14 0 dX9_atom_14 rfl rfl ?_
    refine G.csZ 15 (As := [.int q3]) (c_X9_isDigit Z hs1 q3 rfl) mk_X9_isDigit wd_1712 wd_1711 hR (by decide +kernel) ⟨rfl, rfl⟩ rfl (Nat.le_of_ble_eq_true rfl) dX9_atom_15 (fun hs6 z7 => ?_)
    refine G.if_eq 18 88 dX9_atom_18 (by decide) (fun h8 => ?_) (fun h8 => ?_)
    · replace hf := (if_pos h8).symm.trans hf
      refine G.iload_n 88 0 dX9_atom_88 rfl rfl ?_
      refine G.bipush 89 (99 : Int32) dX9_atom_89 (by decide +kernel) ?_
      refine G.icmp_eq 91 155 dX9_atom_91 (by decide) (fun h9 => ?_) (fun h9 => ?_)
      · replace hf := (if_pos h9).symm.trans hf
        refine G.locs [1, 0] rfl ?_
        exact b_X9_atom_155 Z X hR hq q3 hs6 hf
      · replace hf := (if_neg h9).symm.trans hf
        refine G.iload_n 94 0 dX9_atom_94 rfl rfl ?_
        refine G.bipush 95 (111 : Int32) dX9_atom_95 (by decide +kernel) ?_
        refine G.icmp_eq 97 155 dX9_atom_97 (by decide) (fun h15 => ?_) (fun h15 => ?_)
        · replace hf := (if_pos h15).symm.trans hf
          refine G.locs [1, 0] rfl ?_
          exact b_X9_atom_155 Z X hR hq q3 hs6 hf
        · replace hf := (if_neg h15).symm.trans hf
          refine G.iload_n 100 0 dX9_atom_100 rfl rfl ?_
          refine G.bipush 101 (108 : Int32) dX9_atom_101 (by decide +kernel) ?_
          refine G.icmp_eq 103 155 dX9_atom_103 (by decide) (fun h16 => ?_) (fun h16 => ?_)
          · replace hf := (if_pos h16).symm.trans hf
            refine G.locs [1, 0] rfl ?_
            exact b_X9_atom_155 Z X hR hq q3 hs6 hf
          · replace hf := (if_neg h16).symm.trans hf
            refine G.iload_n 106 0 dX9_atom_106 rfl rfl ?_
            refine G.bipush 107 (116 : Int32) dX9_atom_107 (by decide +kernel) ?_
            refine G.icmp_eq 109 155 dX9_atom_109 (by decide) (fun h17 => ?_) (fun h17 => ?_)
            · replace hf := (if_pos h17).symm.trans hf
              refine G.locs [1, 0] rfl ?_
              exact b_X9_atom_155 Z X hR hq q3 hs6 hf
            · replace hf := (if_neg h17).symm.trans hf
              refine G.iload_n 112 0 dX9_atom_112 rfl rfl ?_
              refine G.bipush 113 (107 : Int32) dX9_atom_113 (by decide +kernel) ?_
              refine G.icmp_eq 115 155 dX9_atom_115 (by decide) (fun h18 => ?_) (fun h18 => ?_)
              · replace hf := (if_pos h18).symm.trans hf
                refine G.locs [1, 0] rfl ?_
                exact b_X9_atom_155 Z X hR hq q3 hs6 hf
              · replace hf := (if_neg h18).symm.trans hf
                refine G.iload_n 118 0 dX9_atom_118 rfl rfl ?_
                refine G.bipush 119 (100 : Int32) dX9_atom_119 (by decide +kernel) ?_
                refine G.icmp_eq 121 155 dX9_atom_121 (by decide) (fun h19 => ?_) (fun h19 => ?_)
                · replace hf := (if_pos h19).symm.trans hf
                  refine G.locs [1, 0] rfl ?_
                  exact b_X9_atom_155 Z X hR hq q3 hs6 hf
                · replace hf := (if_neg h19).symm.trans hf
                  refine G.iload_n 124 0 dX9_atom_124 rfl rfl ?_
                  refine G.bipush 125 (101 : Int32) dX9_atom_125 (by decide +kernel) ?_
                  refine G.icmp_eq 127 155 dX9_atom_127 (by decide) (fun h20 => ?_) (fun h20 => ?_)
                  · replace hf := (if_pos h20).symm.trans hf
                    refine G.locs [1, 0] rfl ?_
                    exact b_X9_atom_155 Z X hR hq q3 hs6 hf
                  · replace hf := (if_neg h20).symm.trans hf
                    refine G.iload_n 130 0 dX9_atom_130 rfl rfl ?_
                    refine G.bipush 131 (115 : Int32) dX9_atom_131 (by decide +kernel) ?_
                    refine G.icmp_eq 133 155 dX9_atom_133 (by decide) (fun h21 => ?_) (fun h21 => ?_)
                    · replace hf := (if_pos h21).symm.trans hf
                      refine G.locs [1, 0] rfl ?_
                      exact b_X9_atom_155 Z X hR hq q3 hs6 hf
                    · replace hf := (if_neg h21).symm.trans hf
                      refine G.iload_n 136 0 dX9_atom_136 rfl rfl ?_
                      refine G.bipush 137 (119 : Int32) dX9_atom_137 (by decide +kernel) ?_
                      refine G.icmp_eq 139 155 dX9_atom_139 (by decide) (fun h22 => ?_) (fun h22 => ?_)
                      · replace hf := (if_pos h22).symm.trans hf
                        refine G.locs [1, 0] rfl ?_
                        exact b_X9_atom_155 Z X hR hq q3 hs6 hf
                      · replace hf := (if_neg h22).symm.trans hf
                        refine G.iload_n 142 0 dX9_atom_142 rfl rfl ?_
                        refine G.bipush 143 (104 : Int32) dX9_atom_143 (by decide +kernel) ?_
                        refine G.icmp_eq 145 155 dX9_atom_145 (by decide) (fun h23 => ?_) (fun h23 => ?_)
                        · replace hf := (if_pos h23).symm.trans hf
                          refine G.locs [1, 0] rfl ?_
                          exact b_X9_atom_155 Z X hR hq q3 hs6 hf
                        · replace hf := (if_neg h23).symm.trans hf
                          refine G.aload_n 148 1 dX9_atom_148 rfl rfl ?_
                          refine G.iconst 149 (0 : Int32) dX9_atom_149 (by decide +kernel) ?_
                          refine G.puti 150 ck_9 27 (hs6.k k0_284) (by decide) (by decide +kernel) rfl wd_1332 rfl rfl dX9_atom_150 ?_
                          refine G.iconst 153 (0 : Int32) dX9_atom_153 (by decide +kernel) ?_
                          (have hf9 := Option.some.inj hf; subst hf9)
                          exact G.rI 154 hq dX9_atom_154 (St.i hs6)
    · replace hf := (if_neg h8).symm.trans hf
      refine G.iload_n 21 0 dX9_atom_21 rfl rfl ?_
      refine G.bipush 22 (48 : Int32) dX9_atom_22 (by decide +kernel) ?_
      refine G.isub 24 dX9_atom_24 ?_
      refine G.istore_n 25 [(2, .int (q3 - (48 : Int32))), (1, .int q3), (0, .ref (zs Z + 284))] dX9_atom_25 rfl (Nat.le_of_ble_eq_true rfl) rfl ?_
      refine G.aload_n 26 2 dX9_atom_26 rfl rfl ?_
      refine G.dup 27 dX9_atom_27 rfl ?_
      refine G.geti 28 ck_9 21 (hs6.k k0_284) (by decide) (by decide +kernel) wd_1326 dX9_atom_28 ?_
      refine G.iconst 31 (1 : Int32) dX9_atom_31 (by decide +kernel) ?_
      refine G.iadd 32 dX9_atom_32 ?_
      refine G.puti 33 ck_9 21 (hs6.k k0_284) (by decide) (by decide +kernel) rfl wd_1326 rfl rfl dX9_atom_33 ?_
      refine G.iconst 36 (1 : Int32) dX9_atom_36 (by decide +kernel) ?_
      refine G.istore_n 37 [(3, .int (1 : Int32)), (2, .int (q3 - (48 : Int32))), (1, .int q3), (0, .ref (zs Z + 284))] dX9_atom_37 rfl (Nat.le_of_ble_eq_true rfl) rfl ?_
      refine G.locs [3, 1, 0] rfl ?_
      exact l_X9_atom_38 Z X hR hq FU (q3 - (48 : Int32)) (1 : Int32) (sI M 284 21 ((mI M 284 21) + (1 : Int32))) (St.i hs6) hf
  · replace hf := (if_pos h5).symm.trans hf
    refine G.iconst 12 (0 : Int32) dX9_atom_12 (by decide +kernel) ?_
    (have hf9 := Option.some.inj hf; subst hf9)
    exact G.rI 13 hq dX9_atom_13 hs1
