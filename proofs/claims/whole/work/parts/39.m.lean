abbrev Y_X9_of : My := (cX9_of, RX9, 3)
def rm_X9_of : Room := { frames := 4, cells := 0, slots := 0, locals := 268 }
theorem dX9_of_0 : decode cX9_of 0 = .ok (.aload_n 0, 1) := by decide +kernel
theorem dX9_of_1 : decode cX9_of 1 = .ok (.iload_n 1, 1) := by decide +kernel
theorem dX9_of_2 : decode cX9_of 2 = .ok (.invokevirtual 72, 3) := by decide +kernel
theorem dX9_of_5 : decode cX9_of 5 = .ok (.ifCond .ne 5, 3) := by decide +kernel
theorem dX9_of_8 : decode cX9_of 8 = .ok (.iconst (-1), 1) := by decide +kernel
theorem dX9_of_9 : decode cX9_of 9 = .ok (.ireturn, 1) := by decide +kernel
theorem dX9_of_10 : decode cX9_of 10 = .ok (.iload_n 2, 1) := by decide +kernel
theorem dX9_of_11 : decode cX9_of 11 = .ok (.tableswitch 152 0 8 #[49, 56, 63, 71, 77, 83, 104, 125, 144], 49) := by decide +kernel
theorem dX9_of_60 : decode cX9_of 60 = .ok (.aload_n 0, 1) := by decide +kernel
theorem dX9_of_61 : decode cX9_of 61 = .ok (.iload_n 1, 1) := by decide +kernel
theorem dX9_of_62 : decode cX9_of 62 = .ok (.iconst 0, 1) := by decide +kernel
theorem dX9_of_63 : decode cX9_of 63 = .ok (.invokevirtual 76, 3) := by decide +kernel
theorem dX9_of_66 : decode cX9_of 66 = .ok (.ireturn, 1) := by decide +kernel
theorem dX9_of_67 : decode cX9_of 67 = .ok (.aload_n 0, 1) := by decide +kernel
theorem dX9_of_68 : decode cX9_of 68 = .ok (.iload_n 1, 1) := by decide +kernel
theorem dX9_of_69 : decode cX9_of 69 = .ok (.iconst 5, 1) := by decide +kernel
theorem dX9_of_70 : decode cX9_of 70 = .ok (.invokevirtual 76, 3) := by decide +kernel
theorem dX9_of_73 : decode cX9_of 73 = .ok (.ireturn, 1) := by decide +kernel
theorem dX9_of_74 : decode cX9_of 74 = .ok (.aload_n 0, 1) := by decide +kernel
theorem dX9_of_75 : decode cX9_of 75 = .ok (.iload_n 1, 1) := by decide +kernel
theorem dX9_of_76 : decode cX9_of 76 = .ok (.bipush 6, 2) := by decide +kernel
theorem dX9_of_78 : decode cX9_of 78 = .ok (.invokevirtual 76, 3) := by decide +kernel
theorem dX9_of_81 : decode cX9_of 81 = .ok (.ireturn, 1) := by decide +kernel
theorem dX9_of_82 : decode cX9_of 82 = .ok (.aload_n 0, 1) := by decide +kernel
theorem dX9_of_83 : decode cX9_of 83 = .ok (.iload_n 1, 1) := by decide +kernel
theorem dX9_of_84 : decode cX9_of 84 = .ok (.invokevirtual 90, 3) := by decide +kernel
theorem dX9_of_87 : decode cX9_of 87 = .ok (.ireturn, 1) := by decide +kernel
theorem dX9_of_88 : decode cX9_of 88 = .ok (.aload_n 0, 1) := by decide +kernel
theorem dX9_of_89 : decode cX9_of 89 = .ok (.iload_n 1, 1) := by decide +kernel
theorem dX9_of_90 : decode cX9_of 90 = .ok (.invokevirtual 94, 3) := by decide +kernel
theorem dX9_of_93 : decode cX9_of 93 = .ok (.ireturn, 1) := by decide +kernel
theorem dX9_of_94 : decode cX9_of 94 = .ok (.aload_n 0, 1) := by decide +kernel
theorem dX9_of_95 : decode cX9_of 95 = .ok (.iload_n 1, 1) := by decide +kernel
theorem dX9_of_96 : decode cX9_of 96 = .ok (.invokevirtual 97, 3) := by decide +kernel
theorem dX9_of_99 : decode cX9_of 99 = .ok (.ifCond .eq 13, 3) := by decide +kernel
theorem dX9_of_102 : decode cX9_of 102 = .ok (.aload_n 0, 1) := by decide +kernel
theorem dX9_of_103 : decode cX9_of 103 = .ok (.iload_n 1, 1) := by decide +kernel
theorem dX9_of_104 : decode cX9_of 104 = .ok (.bipush 9, 2) := by decide +kernel
theorem dX9_of_106 : decode cX9_of 106 = .ok (.invokevirtual 76, 3) := by decide +kernel
theorem dX9_of_109 : decode cX9_of 109 = .ok (.goto 5, 3) := by decide +kernel
theorem dX9_of_112 : decode cX9_of 112 = .ok (.bipush (-4), 2) := by decide +kernel
theorem dX9_of_114 : decode cX9_of 114 = .ok (.ireturn, 1) := by decide +kernel
theorem dX9_of_115 : decode cX9_of 115 = .ok (.aload_n 0, 1) := by decide +kernel
theorem dX9_of_116 : decode cX9_of 116 = .ok (.iload_n 1, 1) := by decide +kernel
theorem dX9_of_117 : decode cX9_of 117 = .ok (.invokevirtual 97, 3) := by decide +kernel
theorem dX9_of_120 : decode cX9_of 120 = .ok (.ifCond .eq 13, 3) := by decide +kernel
theorem dX9_of_123 : decode cX9_of 123 = .ok (.aload_n 0, 1) := by decide +kernel
theorem dX9_of_124 : decode cX9_of 124 = .ok (.iload_n 1, 1) := by decide +kernel
theorem dX9_of_125 : decode cX9_of 125 = .ok (.bipush 10, 2) := by decide +kernel
theorem dX9_of_127 : decode cX9_of 127 = .ok (.invokevirtual 76, 3) := by decide +kernel
theorem dX9_of_130 : decode cX9_of 130 = .ok (.goto 5, 3) := by decide +kernel
theorem dX9_of_133 : decode cX9_of 133 = .ok (.bipush (-4), 2) := by decide +kernel
theorem dX9_of_135 : decode cX9_of 135 = .ok (.ireturn, 1) := by decide +kernel
theorem dX9_of_136 : decode cX9_of 136 = .ok (.aload_n 0, 1) := by decide +kernel
theorem dX9_of_137 : decode cX9_of 137 = .ok (.iload_n 1, 1) := by decide +kernel
theorem dX9_of_138 : decode cX9_of 138 = .ok (.invokevirtual 97, 3) := by decide +kernel
theorem dX9_of_141 : decode cX9_of 141 = .ok (.ifCond .eq 11, 3) := by decide +kernel
theorem dX9_of_144 : decode cX9_of 144 = .ok (.aload_n 0, 1) := by decide +kernel
theorem dX9_of_145 : decode cX9_of 145 = .ok (.iload_n 1, 1) := by decide +kernel
theorem dX9_of_146 : decode cX9_of 146 = .ok (.invokevirtual 100, 3) := by decide +kernel
theorem dX9_of_149 : decode cX9_of 149 = .ok (.goto 5, 3) := by decide +kernel
theorem dX9_of_152 : decode cX9_of 152 = .ok (.bipush (-4), 2) := by decide +kernel
theorem dX9_of_154 : decode cX9_of 154 = .ok (.ireturn, 1) := by decide +kernel
theorem dX9_of_155 : decode cX9_of 155 = .ok (.aload_n 0, 1) := by decide +kernel
theorem dX9_of_156 : decode cX9_of 156 = .ok (.iload_n 1, 1) := by decide +kernel
theorem dX9_of_157 : decode cX9_of 157 = .ok (.bipush 7, 2) := by decide +kernel
theorem dX9_of_159 : decode cX9_of 159 = .ok (.invokevirtual 76, 3) := by decide +kernel
theorem dX9_of_162 : decode cX9_of 162 = .ok (.ireturn, 1) := by decide +kernel
theorem dX9_of_163 : decode cX9_of 163 = .ok (.iconst (-1), 1) := by decide +kernel
theorem dX9_of_164 : decode cX9_of 164 = .ok (.ireturn, 1) := by decide +kernel
def f_X9_of (x1 : Int32) (x2 : Int32) (M : Mem) : Option Int32 := if (f_X9_isHall x1 M) = 0 then some (-1 : Int32) else if x2 = (0 : Int32) then (f_X9_get x1 (0 : Int32) M).bind fun q7 => some q7 else if x2 = (1 : Int32) then (f_X9_get x1 (5 : Int32) M).bind fun q12 => some q12 else if x2 = (2 : Int32) then (f_X9_get x1 (6 : Int32) M).bind fun q17 => some q17 else if x2 = (3 : Int32) then (f_X9_tellsCame x1 M).bind fun q22 => some q22 else if x2 = (4 : Int32) then (f_X9_tellsOurs x1 M).bind fun q27 => some q27 else if x2 = (5 : Int32) then (f_X9_has x1 M).bind fun q32 => if q32 = 0 then some (-4 : Int32) else (f_X9_get x1 (9 : Int32) M).bind fun q37 => some q37 else if x2 = (6 : Int32) then (f_X9_has x1 M).bind fun q42 => if q42 = 0 then some (-4 : Int32) else (f_X9_get x1 (10 : Int32) M).bind fun q47 => some q47 else if x2 = (7 : Int32) then (f_X9_has x1 M).bind fun q52 => if q52 = 0 then some (-4 : Int32) else (f_X9_share x1 M).bind fun q57 => some q57 else if x2 = (8 : Int32) then (f_X9_get x1 (7 : Int32) M).bind fun q62 => some q62 else some (-1 : Int32)
set_option maxRecDepth 100000 in
set_option maxHeartbeats 4000000 in
theorem c_X9_of (Z : Sys) {M : Mem} (hs : St M) (x1 : Int32) (x2 : Int32) {q : Int32} (hf : f_X9_of x1 x2 M = some q) : Ct Z yX9_of cX9_of 3 (some .int) rm_X9_of [.ref (zs Z + 284), .int x1, .int x2] M False (PostI q M) := by
  refine Ct.of (by decide +kernel) (Nat.le_of_ble_eq_true rfl) (fun X hR hq _ => ?_)
  show G Z X Y_X9_of False 0 0 0 [(0, .ref (zs Z + 284)), (1, .int x1), (2, .int x2)] [] M
  replace hq : RetOk Z X (some .int) False (PostI q M) 0 0 := hq
  unfold f_X9_of at hf
  refine G.aload_n 0 0 dX9_of_0 rfl rfl ?_
  refine G.iload_n 1 1 dX9_of_1 rfl rfl ?_
  refine G.cvZ 2 (As := [.int x1]) ck_9 (hs.k k0_284) (c_X9_isHall Z hs x1 rfl) mk_X9_isHall vk_X9_isHall rfl wd_1407 hR (by decide +kernel) ⟨rfl, rfl⟩ rfl (Nat.le_of_ble_eq_true rfl) dX9_of_2 (fun hs1 z2 => ?_)
  refine G.if_ne 5 10 dX9_of_5 (by decide) (fun h3 => ?_) (fun h3 => ?_)
  · replace hf := (if_neg h3).symm.trans hf
    refine G.iload_n 10 2 dX9_of_10 rfl rfl ?_
    by_cases h4 : x2 = (0 : Int32)
    · replace hf := (if_pos h4).symm.trans hf
      refine G.tableIn 11 60 (off := 49) dX9_of_11 (by rw [h4]; decide +kernel) (by rw [h4]; decide +kernel) (by rw [h4]; decide +kernel) (by decide) ?_
      refine G.aload_n 60 0 dX9_of_60 rfl rfl ?_
      refine G.iload_n 61 1 dX9_of_61 rfl rfl ?_
      refine G.iconst 62 (0 : Int32) dX9_of_62 (by decide +kernel) ?_
      obtain ⟨q7, e8, hf⟩ := bd_e hf
      refine G.cvI 63 (As := [.int x1, .int (0 : Int32)]) ck_9 (hs1.k k0_284) (c_X9_get Z hs1 x1 (0 : Int32) e8) mk_X9_get vk_X9_get rfl wd_1411 hR (by decide +kernel) ⟨rfl, rfl⟩ rfl (Nat.le_of_ble_eq_true rfl) dX9_of_63 (fun hs5 => ?_)
      (have hf9 := Option.some.inj hf; subst hf9)
      exact G.rI 66 hq dX9_of_66 hs5
    · replace hf := (if_neg h4).symm.trans hf
      by_cases h9 : x2 = (1 : Int32)
      · replace hf := (if_pos h9).symm.trans hf
        refine G.tableIn 11 67 (off := 56) dX9_of_11 (by rw [h9]; decide +kernel) (by rw [h9]; decide +kernel) (by rw [h9]; decide +kernel) (by decide) ?_
        refine G.aload_n 67 0 dX9_of_67 rfl rfl ?_
        refine G.iload_n 68 1 dX9_of_68 rfl rfl ?_
        refine G.iconst 69 (5 : Int32) dX9_of_69 (by decide +kernel) ?_
        obtain ⟨q12, e13, hf⟩ := bd_e hf
        refine G.cvI 70 (As := [.int x1, .int (5 : Int32)]) ck_9 (hs1.k k0_284) (c_X9_get Z hs1 x1 (5 : Int32) e13) mk_X9_get vk_X9_get rfl wd_1411 hR (by decide +kernel) ⟨rfl, rfl⟩ rfl (Nat.le_of_ble_eq_true rfl) dX9_of_70 (fun hs10 => ?_)
        (have hf9 := Option.some.inj hf; subst hf9)
        exact G.rI 73 hq dX9_of_73 hs10
      · replace hf := (if_neg h9).symm.trans hf
        by_cases h14 : x2 = (2 : Int32)
        · replace hf := (if_pos h14).symm.trans hf
          refine G.tableIn 11 74 (off := 63) dX9_of_11 (by rw [h14]; decide +kernel) (by rw [h14]; decide +kernel) (by rw [h14]; decide +kernel) (by decide) ?_
          refine G.aload_n 74 0 dX9_of_74 rfl rfl ?_
          refine G.iload_n 75 1 dX9_of_75 rfl rfl ?_
          refine G.bipush 76 (6 : Int32) dX9_of_76 (by decide +kernel) ?_
          obtain ⟨q17, e18, hf⟩ := bd_e hf
          refine G.cvI 78 (As := [.int x1, .int (6 : Int32)]) ck_9 (hs1.k k0_284) (c_X9_get Z hs1 x1 (6 : Int32) e18) mk_X9_get vk_X9_get rfl wd_1411 hR (by decide +kernel) ⟨rfl, rfl⟩ rfl (Nat.le_of_ble_eq_true rfl) dX9_of_78 (fun hs15 => ?_)
          (have hf9 := Option.some.inj hf; subst hf9)
          exact G.rI 81 hq dX9_of_81 hs15
        · replace hf := (if_neg h14).symm.trans hf
          by_cases h19 : x2 = (3 : Int32)
          · replace hf := (if_pos h19).symm.trans hf
            refine G.tableIn 11 82 (off := 71) dX9_of_11 (by rw [h19]; decide +kernel) (by rw [h19]; decide +kernel) (by rw [h19]; decide +kernel) (by decide) ?_
            refine G.aload_n 82 0 dX9_of_82 rfl rfl ?_
            refine G.iload_n 83 1 dX9_of_83 rfl rfl ?_
            obtain ⟨q22, e23, hf⟩ := bd_e hf
            refine G.cvI 84 (As := [.int x1]) ck_9 (hs1.k k0_284) (c_X9_tellsCame Z hs1 x1 e23) mk_X9_tellsCame vk_X9_tellsCame rfl wd_1434 hR (by decide +kernel) ⟨rfl, rfl⟩ rfl (Nat.le_of_ble_eq_true rfl) dX9_of_84 (fun hs20 => ?_)
            (have hf9 := Option.some.inj hf; subst hf9)
            exact G.rI 87 hq dX9_of_87 hs20
          · replace hf := (if_neg h19).symm.trans hf
            by_cases h24 : x2 = (4 : Int32)
            · replace hf := (if_pos h24).symm.trans hf
              refine G.tableIn 11 88 (off := 77) dX9_of_11 (by rw [h24]; decide +kernel) (by rw [h24]; decide +kernel) (by rw [h24]; decide +kernel) (by decide) ?_
              refine G.aload_n 88 0 dX9_of_88 rfl rfl ?_
              refine G.iload_n 89 1 dX9_of_89 rfl rfl ?_
              obtain ⟨q27, e28, hf⟩ := bd_e hf
              refine G.cvI 90 (As := [.int x1]) ck_9 (hs1.k k0_284) (c_X9_tellsOurs Z hs1 x1 e28) mk_X9_tellsOurs vk_X9_tellsOurs rfl wd_1441 hR (by decide +kernel) ⟨rfl, rfl⟩ rfl (Nat.le_of_ble_eq_true rfl) dX9_of_90 (fun hs25 => ?_)
              (have hf9 := Option.some.inj hf; subst hf9)
              exact G.rI 93 hq dX9_of_93 hs25
            · replace hf := (if_neg h24).symm.trans hf
              by_cases h29 : x2 = (5 : Int32)
              · replace hf := (if_pos h29).symm.trans hf
                refine G.tableIn 11 94 (off := 83) dX9_of_11 (by rw [h29]; decide +kernel) (by rw [h29]; decide +kernel) (by rw [h29]; decide +kernel) (by decide) ?_
                refine G.aload_n 94 0 dX9_of_94 rfl rfl ?_
                refine G.iload_n 95 1 dX9_of_95 rfl rfl ?_
                obtain ⟨q32, e33, hf⟩ := bd_e hf
                refine G.cvZ 96 (As := [.int x1]) ck_9 (hs1.k k0_284) (c_X9_has Z hs1 x1 e33) mk_X9_has vk_X9_has rfl wd_1445 hR (by decide +kernel) ⟨rfl, rfl⟩ rfl (Nat.le_of_ble_eq_true rfl) dX9_of_96 (fun hs30 z31 => ?_)
                refine G.if_eq 99 112 dX9_of_99 (by decide) (fun h34 => ?_) (fun h34 => ?_)
                · replace hf := (if_pos h34).symm.trans hf
                  refine G.bipush 112 (-4 : Int32) dX9_of_112 (by decide +kernel) ?_
                  (have hf9 := Option.some.inj hf; subst hf9)
                  exact G.rI 114 hq dX9_of_114 hs30
                · replace hf := (if_neg h34).symm.trans hf
                  refine G.aload_n 102 0 dX9_of_102 rfl rfl ?_
                  refine G.iload_n 103 1 dX9_of_103 rfl rfl ?_
                  refine G.bipush 104 (9 : Int32) dX9_of_104 (by decide +kernel) ?_
                  obtain ⟨q37, e38, hf⟩ := bd_e hf
                  refine G.cvI 106 (As := [.int x1, .int (9 : Int32)]) ck_9 (hs30.k k0_284) (c_X9_get Z hs30 x1 (9 : Int32) e38) mk_X9_get vk_X9_get rfl wd_1411 hR (by decide +kernel) ⟨rfl, rfl⟩ rfl (Nat.le_of_ble_eq_true rfl) dX9_of_106 (fun hs35 => ?_)
                  refine G.goto 109 114 dX9_of_109 (by decide) ?_
                  (have hf9 := Option.some.inj hf; subst hf9)
                  exact G.rI 114 hq dX9_of_114 hs35
              · replace hf := (if_neg h29).symm.trans hf
                by_cases h39 : x2 = (6 : Int32)
                · replace hf := (if_pos h39).symm.trans hf
                  refine G.tableIn 11 115 (off := 104) dX9_of_11 (by rw [h39]; decide +kernel) (by rw [h39]; decide +kernel) (by rw [h39]; decide +kernel) (by decide) ?_
                  refine G.aload_n 115 0 dX9_of_115 rfl rfl ?_
                  refine G.iload_n 116 1 dX9_of_116 rfl rfl ?_
                  obtain ⟨q42, e43, hf⟩ := bd_e hf
                  refine G.cvZ 117 (As := [.int x1]) ck_9 (hs1.k k0_284) (c_X9_has Z hs1 x1 e43) mk_X9_has vk_X9_has rfl wd_1445 hR (by decide +kernel) ⟨rfl, rfl⟩ rfl (Nat.le_of_ble_eq_true rfl) dX9_of_117 (fun hs40 z41 => ?_)
                  refine G.if_eq 120 133 dX9_of_120 (by decide) (fun h44 => ?_) (fun h44 => ?_)
                  · replace hf := (if_pos h44).symm.trans hf
                    refine G.bipush 133 (-4 : Int32) dX9_of_133 (by decide +kernel) ?_
                    (have hf9 := Option.some.inj hf; subst hf9)
                    exact G.rI 135 hq dX9_of_135 hs40
                  · replace hf := (if_neg h44).symm.trans hf
                    refine G.aload_n 123 0 dX9_of_123 rfl rfl ?_
                    refine G.iload_n 124 1 dX9_of_124 rfl rfl ?_
                    refine G.bipush 125 (10 : Int32) dX9_of_125 (by decide +kernel) ?_
                    obtain ⟨q47, e48, hf⟩ := bd_e hf
                    refine G.cvI 127 (As := [.int x1, .int (10 : Int32)]) ck_9 (hs40.k k0_284) (c_X9_get Z hs40 x1 (10 : Int32) e48) mk_X9_get vk_X9_get rfl wd_1411 hR (by decide +kernel) ⟨rfl, rfl⟩ rfl (Nat.le_of_ble_eq_true rfl) dX9_of_127 (fun hs45 => ?_)
                    refine G.goto 130 135 dX9_of_130 (by decide) ?_
                    (have hf9 := Option.some.inj hf; subst hf9)
                    exact G.rI 135 hq dX9_of_135 hs45
                · replace hf := (if_neg h39).symm.trans hf
                  by_cases h49 : x2 = (7 : Int32)
                  · replace hf := (if_pos h49).symm.trans hf
                    refine G.tableIn 11 136 (off := 125) dX9_of_11 (by rw [h49]; decide +kernel) (by rw [h49]; decide +kernel) (by rw [h49]; decide +kernel) (by decide) ?_
                    refine G.aload_n 136 0 dX9_of_136 rfl rfl ?_
                    refine G.iload_n 137 1 dX9_of_137 rfl rfl ?_
                    obtain ⟨q52, e53, hf⟩ := bd_e hf
                    refine G.cvZ 138 (As := [.int x1]) ck_9 (hs1.k k0_284) (c_X9_has Z hs1 x1 e53) mk_X9_has vk_X9_has rfl wd_1445 hR (by decide +kernel) ⟨rfl, rfl⟩ rfl (Nat.le_of_ble_eq_true rfl) dX9_of_138 (fun hs50 z51 => ?_)
                    refine G.if_eq 141 152 dX9_of_141 (by decide) (fun h54 => ?_) (fun h54 => ?_)
                    · replace hf := (if_pos h54).symm.trans hf
                      refine G.bipush 152 (-4 : Int32) dX9_of_152 (by decide +kernel) ?_
                      (have hf9 := Option.some.inj hf; subst hf9)
                      exact G.rI 154 hq dX9_of_154 hs50
                    · replace hf := (if_neg h54).symm.trans hf
                      refine G.aload_n 144 0 dX9_of_144 rfl rfl ?_
                      refine G.iload_n 145 1 dX9_of_145 rfl rfl ?_
                      obtain ⟨q57, e58, hf⟩ := bd_e hf
                      refine G.cvI 146 (As := [.int x1]) ck_9 (hs50.k k0_284) (c_X9_share Z hs50 x1 e58) mk_X9_share vk_X9_share rfl wd_1449 hR (by decide +kernel) ⟨rfl, rfl⟩ rfl (Nat.le_of_ble_eq_true rfl) dX9_of_146 (fun hs55 => ?_)
                      refine G.goto 149 154 dX9_of_149 (by decide) ?_
                      (have hf9 := Option.some.inj hf; subst hf9)
                      exact G.rI 154 hq dX9_of_154 hs55
                  · replace hf := (if_neg h49).symm.trans hf
                    by_cases h59 : x2 = (8 : Int32)
                    · replace hf := (if_pos h59).symm.trans hf
                      refine G.tableIn 11 155 (off := 144) dX9_of_11 (by rw [h59]; decide +kernel) (by rw [h59]; decide +kernel) (by rw [h59]; decide +kernel) (by decide) ?_
                      refine G.aload_n 155 0 dX9_of_155 rfl rfl ?_
                      refine G.iload_n 156 1 dX9_of_156 rfl rfl ?_
                      refine G.bipush 157 (7 : Int32) dX9_of_157 (by decide +kernel) ?_
                      obtain ⟨q62, e63, hf⟩ := bd_e hf
                      refine G.cvI 159 (As := [.int x1, .int (7 : Int32)]) ck_9 (hs1.k k0_284) (c_X9_get Z hs1 x1 (7 : Int32) e63) mk_X9_get vk_X9_get rfl wd_1411 hR (by decide +kernel) ⟨rfl, rfl⟩ rfl (Nat.le_of_ble_eq_true rfl) dX9_of_159 (fun hs60 => ?_)
                      (have hf9 := Option.some.inj hf; subst hf9)
                      exact G.rI 162 hq dX9_of_162 hs60
                    · replace hf := (if_neg h59).symm.trans hf
                      have t_h4 := ti (0 : Int32) (0) (by decide +kernel) h4
                      have t_h9 := ti (1 : Int32) (1) (by decide +kernel) h9
                      have t_h14 := ti (2 : Int32) (2) (by decide +kernel) h14
                      have t_h19 := ti (3 : Int32) (3) (by decide +kernel) h19
                      have t_h24 := ti (4 : Int32) (4) (by decide +kernel) h24
                      have t_h29 := ti (5 : Int32) (5) (by decide +kernel) h29
                      have t_h39 := ti (6 : Int32) (6) (by decide +kernel) h39
                      have t_h49 := ti (7 : Int32) (7) (by decide +kernel) h49
                      have t_h59 := ti (8 : Int32) (8) (by decide +kernel) h59
                      refine G.tableOut 11 163 dX9_of_11 (by omega) (by decide) ?_
                      refine G.iconst 163 (-1 : Int32) dX9_of_163 (by decide +kernel) ?_
                      (have hf9 := Option.some.inj hf; subst hf9)
                      exact G.rI 164 hq dX9_of_164 hs1
  · replace hf := (if_pos h3).symm.trans hf
    refine G.iconst 8 (-1 : Int32) dX9_of_8 (by decide +kernel) ?_
    (have hf9 := Option.some.inj hf; subst hf9)
    exact G.rI 9 hq dX9_of_9 hs1
abbrev Y_X9_put : My := (cX9_put, RX9, 5)
def rm_X9_put : Room := { frames := 4, cells := 0, slots := 0, locals := 267 }
theorem dX9_put_0 : decode cX9_put 0 = .ok (.aload_n 0, 1) := by decide +kernel
theorem dX9_put_1 : decode cX9_put 1 = .ok (.iload_n 1, 1) := by decide +kernel
theorem dX9_put_2 : decode cX9_put 2 = .ok (.iconst (-1), 1) := by decide +kernel
theorem dX9_put_3 : decode cX9_put 3 = .ok (.invokevirtual 282, 3) := by decide +kernel
theorem dX9_put_6 : decode cX9_put 6 = .ok (.istore 4, 2) := by decide +kernel
theorem dX9_put_8 : decode cX9_put 8 = .ok (.iload 4, 2) := by decide +kernel
theorem dX9_put_10 : decode cX9_put 10 = .ok (.ifCond .eq 6, 3) := by decide +kernel
theorem dX9_put_13 : decode cX9_put 13 = .ok (.iload 4, 2) := by decide +kernel
theorem dX9_put_15 : decode cX9_put 15 = .ok (.ireturn, 1) := by decide +kernel
theorem dX9_put_16 : decode cX9_put 16 = .ok (.iload_n 2, 1) := by decide +kernel
theorem dX9_put_17 : decode cX9_put 17 = .ok (.i2l, 1) := by decide +kernel
theorem dX9_put_18 : decode cX9_put 18 = .ok (.lconst 0, 1) := by decide +kernel
theorem dX9_put_19 : decode cX9_put 19 = .ok (.aload_n 0, 1) := by decide +kernel
theorem dX9_put_20 : decode cX9_put 20 = .ok (.getfield 22, 3) := by decide +kernel
theorem dX9_put_23 : decode cX9_put 23 = .ok (.iload_n 1, 1) := by decide +kernel
theorem dX9_put_24 : decode cX9_put 24 = .ok (.iaload, 1) := by decide +kernel
theorem dX9_put_25 : decode cX9_put 25 = .ok (.iconst 1, 1) := by decide +kernel
theorem dX9_put_26 : decode cX9_put 26 = .ok (.isub, 1) := by decide +kernel
theorem dX9_put_27 : decode cX9_put 27 = .ok (.i2l, 1) := by decide +kernel
theorem dX9_put_28 : decode cX9_put 28 = .ok (.invokestatic 62, 3) := by decide +kernel
theorem dX9_put_31 : decode cX9_put 31 = .ok (.ifCond .ne 6, 3) := by decide +kernel
theorem dX9_put_34 : decode cX9_put 34 = .ok (.bipush (-13), 2) := by decide +kernel
theorem dX9_put_36 : decode cX9_put 36 = .ok (.ireturn, 1) := by decide +kernel
theorem dX9_put_37 : decode cX9_put 37 = .ok (.aload_n 0, 1) := by decide +kernel
theorem dX9_put_38 : decode cX9_put 38 = .ok (.getfield 25, 3) := by decide +kernel
theorem dX9_put_41 : decode cX9_put 41 = .ok (.bipush 80, 2) := by decide +kernel
theorem dX9_put_43 : decode cX9_put 43 = .ok (.iload_n 1, 1) := by decide +kernel
theorem dX9_put_44 : decode cX9_put 44 = .ok (.imul, 1) := by decide +kernel
theorem dX9_put_45 : decode cX9_put 45 = .ok (.iload_n 2, 1) := by decide +kernel
theorem dX9_put_46 : decode cX9_put 46 = .ok (.iadd, 1) := by decide +kernel
theorem dX9_put_47 : decode cX9_put 47 = .ok (.aload_n 0, 1) := by decide +kernel
theorem dX9_put_48 : decode cX9_put 48 = .ok (.getfield 19, 3) := by decide +kernel
theorem dX9_put_51 : decode cX9_put 51 = .ok (.iload_n 1, 1) := by decide +kernel
theorem dX9_put_52 : decode cX9_put 52 = .ok (.iaload, 1) := by decide +kernel
theorem dX9_put_53 : decode cX9_put 53 = .ok (.ifCond .ne 8, 3) := by decide +kernel
theorem dX9_put_56 : decode cX9_put 56 = .ok (.iload_n 3, 1) := by decide +kernel
theorem dX9_put_57 : decode cX9_put 57 = .ok (.i2b, 1) := by decide +kernel
theorem dX9_put_58 : decode cX9_put 58 = .ok (.goto 19, 3) := by decide +kernel
theorem dX9_put_61 : decode cX9_put 61 = .ok (.aload_n 0, 1) := by decide +kernel
theorem dX9_put_62 : decode cX9_put 62 = .ok (.getfield 19, 3) := by decide +kernel
theorem dX9_put_65 : decode cX9_put 65 = .ok (.iload_n 1, 1) := by decide +kernel
theorem dX9_put_66 : decode cX9_put 66 = .ok (.iaload, 1) := by decide +kernel
theorem dX9_put_67 : decode cX9_put 67 = .ok (.iconst 1, 1) := by decide +kernel
theorem dX9_put_68 : decode cX9_put 68 = .ok (.if_icmp .ne 8, 3) := by decide +kernel
theorem dX9_put_71 : decode cX9_put 71 = .ok (.iload_n 3, 1) := by decide +kernel
theorem dX9_put_72 : decode cX9_put 72 = .ok (.i2s, 1) := by decide +kernel
theorem dX9_put_73 : decode cX9_put 73 = .ok (.goto 4, 3) := by decide +kernel
theorem dX9_put_76 : decode cX9_put 76 = .ok (.iload_n 3, 1) := by decide +kernel
theorem dX9_put_77 : decode cX9_put 77 = .ok (.iastore, 1) := by decide +kernel
theorem dX9_put_78 : decode cX9_put 78 = .ok (.iconst 0, 1) := by decide +kernel
theorem dX9_put_79 : decode cX9_put 79 = .ok (.ireturn, 1) := by decide +kernel
def f_X9_put (x1 : Int32) (x2 : Int32) (x3 : Int32) (M : Mem) : Option (Int32 × Mem) := (f_X9_wrongRow x1 (-1 : Int32) M).bind fun q3 => if q3 = 0 then gd (inR x1 8) (if (f_X9_isIn x2.toInt64 (0 : Int64) ((mI M 289 x1.toNatClampNeg) - (1 : Int32)).toInt64) = 0 then some ((-13 : Int32), M) else if (mI M 288 x1.toNatClampNeg) = 0 then gd (inR (((80 : Int32) * x1) + x2) 640) (some ((0 : Int32), (sI M 290 (((80 : Int32) * x1) + x2).toNatClampNeg x3.toInt8.toInt32))) else if (mI M 288 x1.toNatClampNeg) = (1 : Int32) then gd (inR (((80 : Int32) * x1) + x2) 640) (some ((0 : Int32), (sI M 290 (((80 : Int32) * x1) + x2).toNatClampNeg x3.toInt16.toInt32))) else gd (inR (((80 : Int32) * x1) + x2) 640) (some ((0 : Int32), (sI M 290 (((80 : Int32) * x1) + x2).toNatClampNeg x3)))) else some (q3, M)
set_option maxRecDepth 100000 in
set_option maxHeartbeats 4000000 in
theorem c_X9_put (Z : Sys) {M : Mem} (hs : St M) (x1 : Int32) (x2 : Int32) (x3 : Int32) {q : Int32 × Mem} (hf : f_X9_put x1 x2 x3 M = some q) : Ct Z yX9_put cX9_put 5 (some .int) rm_X9_put [.ref (zs Z + 284), .int x1, .int x2, .int x3] M False (PostI q.1 q.2) := by
  refine Ct.of (by decide +kernel) (Nat.le_of_ble_eq_true rfl) (fun X hR hq _ => ?_)
  show G Z X Y_X9_put False 0 0 0 [(0, .ref (zs Z + 284)), (1, .int x1), (2, .int x2), (3, .int x3)] [] M
  replace hq : RetOk Z X (some .int) False (PostI q.1 q.2) 0 0 := hq
  unfold f_X9_put at hf
  refine G.aload_n 0 0 dX9_put_0 rfl rfl ?_
  refine G.iload_n 1 1 dX9_put_1 rfl rfl ?_
  refine G.iconst 2 (-1 : Int32) dX9_put_2 (by decide +kernel) ?_
  obtain ⟨q3, e4, hf⟩ := bd_e hf
  refine G.cvI 3 (As := [.int x1, .int (-1 : Int32)]) ck_9 (hs.k k0_284) (c_X9_wrongRow Z hs x1 (-1 : Int32) e4) mk_X9_wrongRow vk_X9_wrongRow rfl wd_1661 hR (by decide +kernel) ⟨rfl, rfl⟩ rfl (Nat.le_of_ble_eq_true rfl) dX9_put_3 (fun hs1 => ?_)
  refine G.istore 6 [(4, .int q3), (0, .ref (zs Z + 284)), (1, .int x1), (2, .int x2), (3, .int x3)] dX9_put_6 (Nat.le_of_ble_eq_true rfl) rfl ?_
  refine G.iload 8 0 dX9_put_8 rfl ?_
  refine G.if_eq 10 16 dX9_put_10 (by decide) (fun h5 => ?_) (fun h5 => ?_)
  · replace hf := (if_pos h5).symm.trans hf
    refine G.iload_n 16 3 dX9_put_16 rfl rfl ?_
    refine G.i2l 17 dX9_put_17 ?_
    refine G.lconst 18 (0 : Int64) dX9_put_18 (by decide +kernel) ?_
    refine G.aload_n 19 1 dX9_put_19 rfl rfl ?_
    refine G.getp 20 ck_9 4 289 (hs1.k k0_284) (pc_9_4 hs1) (by decide) (by decide +kernel) wd_1309 dX9_put_20 ?_
    refine G.iload_n 23 2 dX9_put_23 rfl rfl ?_
    obtain ⟨g6, hf⟩ := gd_e hf
    refine G.ia 24 x1.toNatClampNeg (hs1.k k0_289) g6 rfl dX9_put_24 ?_
    refine G.iconst 25 (1 : Int32) dX9_put_25 (by decide +kernel) ?_
    refine G.isub 26 dX9_put_26 ?_
    refine G.i2l 27 dX9_put_27 ?_
    refine G.csZ 28 (As := [.long x2.toInt64, .long (0 : Int64), .long ((mI M 289 x1.toNatClampNeg) - (1 : Int32)).toInt64]) (c_X9_isIn Z hs1 x2.toInt64 (0 : Int64) ((mI M 289 x1.toNatClampNeg) - (1 : Int32)).toInt64 rfl) mk_X9_isIn wd_1400 wd_1399 hR (by decide +kernel) ⟨rfl, rfl⟩ rfl (Nat.le_of_ble_eq_true rfl) dX9_put_28 (fun hs7 z8 => ?_)
    refine G.if_ne 31 37 dX9_put_31 (by decide) (fun h9 => ?_) (fun h9 => ?_)
    · replace hf := (if_neg h9).symm.trans hf
      refine G.aload_n 37 1 dX9_put_37 rfl rfl ?_
      refine G.getp 38 ck_9 5 290 (hs7.k k0_284) (pc_9_5 hs7) (by decide) (by decide +kernel) wd_1310 dX9_put_38 ?_
      refine G.bipush 41 (80 : Int32) dX9_put_41 (by decide +kernel) ?_
      refine G.iload_n 43 2 dX9_put_43 rfl rfl ?_
      refine G.imul 44 dX9_put_44 ?_
      refine G.iload_n 45 3 dX9_put_45 rfl rfl ?_
      refine G.iadd 46 dX9_put_46 ?_
      refine G.aload_n 47 1 dX9_put_47 rfl rfl ?_
      refine G.getp 48 ck_9 3 288 (hs7.k k0_284) (pc_9_3 hs7) (by decide) (by decide +kernel) wd_1308 dX9_put_48 ?_
      refine G.iload_n 51 2 dX9_put_51 rfl rfl ?_
      refine G.ia 52 x1.toNatClampNeg (hs7.k k0_288) g6 rfl dX9_put_52 ?_
      refine G.if_ne 53 61 dX9_put_53 (by decide) (fun h10 => ?_) (fun h10 => ?_)
      · replace hf := (if_neg h10).symm.trans hf
        refine G.aload_n 61 1 dX9_put_61 rfl rfl ?_
        refine G.getp 62 ck_9 3 288 (hs7.k k0_284) (pc_9_3 hs7) (by decide) (by decide +kernel) wd_1308 dX9_put_62 ?_
        refine G.iload_n 65 2 dX9_put_65 rfl rfl ?_
        refine G.ia 66 x1.toNatClampNeg (hs7.k k0_288) g6 rfl dX9_put_66 ?_
        refine G.iconst 67 (1 : Int32) dX9_put_67 (by decide +kernel) ?_
        refine G.icmp_ne 68 76 dX9_put_68 (by decide) (fun h11 => ?_) (fun h11 => ?_)
        · replace hf := (if_neg h11).symm.trans hf
          refine G.iload_n 76 4 dX9_put_76 rfl rfl ?_
          obtain ⟨g12, hf⟩ := gd_e hf
          refine G.ist 77 (((80 : Int32) * x1) + x2).toNatClampNeg (hs7.k k0_290) g12 rfl dX9_put_77 ?_
          refine G.iconst 78 (0 : Int32) dX9_put_78 (by decide +kernel) ?_
          (have hf9 := Option.some.inj hf; subst hf9)
          exact G.rI 79 hq dX9_put_79 (St.i hs7)
        · replace hf := (if_pos h11).symm.trans hf
          refine G.iload_n 71 4 dX9_put_71 rfl rfl ?_
          refine G.i2s 72 dX9_put_72 ?_
          refine G.goto 73 77 dX9_put_73 (by decide) ?_
          obtain ⟨g13, hf⟩ := gd_e hf
          refine G.ist 77 (((80 : Int32) * x1) + x2).toNatClampNeg (hs7.k k0_290) g13 rfl dX9_put_77 ?_
          refine G.iconst 78 (0 : Int32) dX9_put_78 (by decide +kernel) ?_
          (have hf9 := Option.some.inj hf; subst hf9)
          exact G.rI 79 hq dX9_put_79 (St.i hs7)
      · replace hf := (if_pos h10).symm.trans hf
        refine G.iload_n 56 4 dX9_put_56 rfl rfl ?_
        refine G.i2b 57 dX9_put_57 ?_
        refine G.goto 58 77 dX9_put_58 (by decide) ?_
        obtain ⟨g14, hf⟩ := gd_e hf
        refine G.ist 77 (((80 : Int32) * x1) + x2).toNatClampNeg (hs7.k k0_290) g14 rfl dX9_put_77 ?_
        refine G.iconst 78 (0 : Int32) dX9_put_78 (by decide +kernel) ?_
        (have hf9 := Option.some.inj hf; subst hf9)
        exact G.rI 79 hq dX9_put_79 (St.i hs7)
    · replace hf := (if_pos h9).symm.trans hf
      refine G.bipush 34 (-13 : Int32) dX9_put_34 (by decide +kernel) ?_
      (have hf9 := Option.some.inj hf; subst hf9)
      exact G.rI 36 hq dX9_put_36 hs7
  · replace hf := (if_neg h5).symm.trans hf
    refine G.iload 13 0 dX9_put_13 rfl ?_
    (have hf9 := Option.some.inj hf; subst hf9)
    exact G.rI 15 hq dX9_put_15 hs1
abbrev Y_X9_restore : My := (cX9_restore, RX9, 2)
def rm_X9_restore : Room := { frames := 1, cells := 0, slots := 0, locals := 200 }
theorem dX9_restore_0 : decode cX9_restore 0 = .ok (.aload_n 0, 1) := by decide +kernel
theorem dX9_restore_1 : decode cX9_restore 1 = .ok (.getfield 291, 3) := by decide +kernel
theorem dX9_restore_4 : decode cX9_restore 4 = .ok (.ifCond .ne 6, 3) := by decide +kernel
theorem dX9_restore_7 : decode cX9_restore 7 = .ok (.bipush (-3), 2) := by decide +kernel
theorem dX9_restore_9 : decode cX9_restore 9 = .ok (.ireturn, 1) := by decide +kernel
theorem dX9_restore_10 : decode cX9_restore 10 = .ok (.iconst 0, 1) := by decide +kernel
theorem dX9_restore_11 : decode cX9_restore 11 = .ok (.istore_n 1, 1) := by decide +kernel
theorem dX9_restore_12 : decode cX9_restore 12 = .ok (.iload_n 1, 1) := by decide +kernel
theorem dX9_restore_13 : decode cX9_restore 13 = .ok (.sipush 1194, 3) := by decide +kernel
theorem dX9_restore_16 : decode cX9_restore 16 = .ok (.if_icmp .ge 21, 3) := by decide +kernel
theorem dX9_restore_19 : decode cX9_restore 19 = .ok (.aload_n 0, 1) := by decide +kernel
theorem dX9_restore_20 : decode cX9_restore 20 = .ok (.getfield 9, 3) := by decide +kernel
theorem dX9_restore_23 : decode cX9_restore 23 = .ok (.iload_n 1, 1) := by decide +kernel
theorem dX9_restore_24 : decode cX9_restore 24 = .ok (.aload_n 0, 1) := by decide +kernel
theorem dX9_restore_25 : decode cX9_restore 25 = .ok (.getfield 13, 3) := by decide +kernel
theorem dX9_restore_28 : decode cX9_restore 28 = .ok (.iload_n 1, 1) := by decide +kernel
theorem dX9_restore_29 : decode cX9_restore 29 = .ok (.iaload, 1) := by decide +kernel
theorem dX9_restore_30 : decode cX9_restore 30 = .ok (.iastore, 1) := by decide +kernel
theorem dX9_restore_31 : decode cX9_restore 31 = .ok (.iinc 1 1, 3) := by decide +kernel
theorem dX9_restore_34 : decode cX9_restore 34 = .ok (.goto (-22), 3) := by decide +kernel
theorem dX9_restore_37 : decode cX9_restore 37 = .ok (.aload_n 0, 1) := by decide +kernel
theorem dX9_restore_38 : decode cX9_restore 38 = .ok (.getfield 9, 3) := by decide +kernel
theorem dX9_restore_41 : decode cX9_restore 41 = .ok (.sipush 1192, 3) := by decide +kernel
theorem dX9_restore_44 : decode cX9_restore 44 = .ok (.iaload, 1) := by decide +kernel
theorem dX9_restore_45 : decode cX9_restore 45 = .ok (.ireturn, 1) := by decide +kernel
def L_X9_restore_12 : Nat → Int32 → Mem → Option (Int32 × Mem)
  | 0, _, _ => none
  | n + 1, x1, M => if (1194 : Int32) ≤ x1 then some ((mI M 285 1192), M) else gd (inR x1 1194) (L_X9_restore_12 n (x1 + 1) (sI M 285 x1.toNatClampNeg (mI M 286 x1.toNatClampNeg)))
def f_X9_restore (M : Mem) : Option (Int32 × Mem) := if (mI M 284 8) = 0 then some ((-3 : Int32), M) else L_X9_restore_12 FU (0 : Int32) M
set_option maxRecDepth 100000 in
set_option maxHeartbeats 4000000 in
theorem l_X9_restore_12 (Z : Sys) (X : Cx) (hR : xR X = rm_X9_restore) {q : Int32 × Mem} (hq : RetOk Z X (some .int) False (PostI q.1 q.2) 0 0) : ∀ (n : Nat) (x1 : Int32) (M : Mem) (hs : St M) (hf : L_X9_restore_12 n x1 M = some q), G Z X Y_X9_restore False 0 0 12 [(0, .ref (zs Z + 284)), (1, .int x1)] [] M := by
  intro n
  induction n with
  | zero => intro x1 M hs  hf; cases hf
  | succ n ih =>
    intro x1 M hs  hf
    unfold L_X9_restore_12 at hf
    refine G.iload_n 12 1 dX9_restore_12 rfl rfl ?_
    refine G.sipush 13 (1194 : Int32) dX9_restore_13 (by decide +kernel) ?_
    refine G.icmp_ge 16 37 dX9_restore_16 (by decide) (fun h2 => ?_) (fun h2 => ?_)
    · replace hf := (if_pos h2).symm.trans hf
      refine G.aload_n 37 0 dX9_restore_37 rfl rfl ?_
      refine G.getp 38 ck_9 0 285 (hs.k k0_284) (pc_9_0 hs) (by decide) (by decide +kernel) wd_1305 dX9_restore_38 ?_
      refine G.sipush 41 (1192 : Int32) dX9_restore_41 (by decide +kernel) ?_
      refine G.ia 44 1192 (hs.k k0_285) (by decide +kernel) (by decide +kernel) dX9_restore_44 ?_
      (have hf9 := Option.some.inj hf; subst hf9)
      exact G.rI 45 hq dX9_restore_45 hs
    · replace hf := (if_neg h2).symm.trans hf
      refine G.aload_n 19 0 dX9_restore_19 rfl rfl ?_
      refine G.getp 20 ck_9 0 285 (hs.k k0_284) (pc_9_0 hs) (by decide) (by decide +kernel) wd_1305 dX9_restore_20 ?_
      refine G.iload_n 23 1 dX9_restore_23 rfl rfl ?_
      refine G.aload_n 24 0 dX9_restore_24 rfl rfl ?_
      refine G.getp 25 ck_9 1 286 (hs.k k0_284) (pc_9_1 hs) (by decide) (by decide +kernel) wd_1306 dX9_restore_25 ?_
      refine G.iload_n 28 1 dX9_restore_28 rfl rfl ?_
      obtain ⟨g3, hf⟩ := gd_e hf
      refine G.ia 29 x1.toNatClampNeg (hs.k k0_286) g3 rfl dX9_restore_29 ?_
      refine G.ist 30 x1.toNatClampNeg (hs.k k0_285) g3 rfl dX9_restore_30 ?_
      refine G.iinc 31 1 (x1 + 1) [(1, .int (x1 + 1)), (0, .ref (zs Z + 284))] dX9_restore_31 rfl (congrArg (fun z => x1 + z) (by decide +kernel)) (Nat.le_of_ble_eq_true rfl) rfl ?_
      refine G.goto 34 12 dX9_restore_34 (by decide) ?_
      refine G.locs [1, 0] rfl ?_
      exact ih (x1 + 1) (sI M 285 x1.toNatClampNeg (mI M 286 x1.toNatClampNeg)) (St.i hs) hf
set_option maxRecDepth 100000 in
set_option maxHeartbeats 4000000 in
theorem c_X9_restore (Z : Sys) {M : Mem} (hs : St M) {q : Int32 × Mem} (hf : f_X9_restore M = some q) : Ct Z yX9_restore cX9_restore 2 (some .int) rm_X9_restore [.ref (zs Z + 284)] M False (PostI q.1 q.2) := by
  refine Ct.of (by decide +kernel) (Nat.le_of_ble_eq_true rfl) (fun X hR hq _ => ?_)
  show G Z X Y_X9_restore False 0 0 0 [(0, .ref (zs Z + 284))] [] M
  replace hq : RetOk Z X (some .int) False (PostI q.1 q.2) 0 0 := hq
  unfold f_X9_restore at hf
  refine G.aload_n 0 0 dX9_restore_0 rfl rfl ?_
  refine G.geti 1 ck_9 8 (hs.k k0_284) (by decide) (by decide +kernel) wd_1313 dX9_restore_1 ?_
  refine G.if_ne 4 10 dX9_restore_4 (by decide) (fun h1 => ?_) (fun h1 => ?_)
  · replace hf := (if_neg h1).symm.trans hf
    refine G.iconst 10 (0 : Int32) dX9_restore_10 (by decide +kernel) ?_
    refine G.istore_n 11 [(1, .int (0 : Int32)), (0, .ref (zs Z + 284))] dX9_restore_11 rfl (Nat.le_of_ble_eq_true rfl) rfl ?_
    refine G.locs [1, 0] rfl ?_
    exact l_X9_restore_12 Z X hR hq FU (0 : Int32) M hs hf
  · replace hf := (if_pos h1).symm.trans hf
    refine G.bipush 7 (-3 : Int32) dX9_restore_7 (by decide +kernel) ?_
    (have hf9 := Option.some.inj hf; subst hf9)
    exact G.rI 9 hq dX9_restore_9 hs
abbrev Y_X9_row : My := (cX9_row, RX9, 5)
def rm_X9_row : Room := { frames := 3, cells := 0, slots := 0, locals := 245 }
theorem dX9_row_0 : decode cX9_row 0 = .ok (.iload_n 1, 1) := by decide +kernel
theorem dX9_row_1 : decode cX9_row 1 = .ok (.invokestatic 111, 3) := by decide +kernel
theorem dX9_row_4 : decode cX9_row 4 = .ok (.ifCond .eq 21, 3) := by decide +kernel
theorem dX9_row_7 : decode cX9_row 7 = .ok (.iload_n 2, 1) := by decide +kernel
theorem dX9_row_8 : decode cX9_row 8 = .ok (.i2l, 1) := by decide +kernel
theorem dX9_row_9 : decode cX9_row 9 = .ok (.lconst 0, 1) := by decide +kernel
theorem dX9_row_10 : decode cX9_row 10 = .ok (.ldc2_w 299, 3) := by decide +kernel
theorem dX9_row_13 : decode cX9_row 13 = .ok (.invokestatic 62, 3) := by decide +kernel
theorem dX9_row_16 : decode cX9_row 16 = .ok (.ifCond .eq 9, 3) := by decide +kernel
theorem dX9_row_19 : decode cX9_row 19 = .ok (.iload_n 3, 1) := by decide +kernel
theorem dX9_row_20 : decode cX9_row 20 = .ok (.bipush 80, 2) := by decide +kernel
theorem dX9_row_22 : decode cX9_row 22 = .ok (.if_icmp .le 5, 3) := by decide +kernel
theorem dX9_row_25 : decode cX9_row 25 = .ok (.iconst (-1), 1) := by decide +kernel
theorem dX9_row_26 : decode cX9_row 26 = .ok (.ireturn, 1) := by decide +kernel
theorem dX9_row_27 : decode cX9_row 27 = .ok (.iload_n 3, 1) := by decide +kernel
theorem dX9_row_28 : decode cX9_row 28 = .ok (.ifCond .ge 6, 3) := by decide +kernel
theorem dX9_row_31 : decode cX9_row 31 = .ok (.bipush (-14), 2) := by decide +kernel
theorem dX9_row_33 : decode cX9_row 33 = .ok (.ireturn, 1) := by decide +kernel
theorem dX9_row_34 : decode cX9_row 34 = .ok (.aload_n 0, 1) := by decide +kernel
theorem dX9_row_35 : decode cX9_row 35 = .ok (.getfield 16, 3) := by decide +kernel
theorem dX9_row_38 : decode cX9_row 38 = .ok (.iload_n 1, 1) := by decide +kernel
theorem dX9_row_39 : decode cX9_row 39 = .ok (.iconst 2, 1) := by decide +kernel
theorem dX9_row_40 : decode cX9_row 40 = .ok (.iastore, 1) := by decide +kernel
theorem dX9_row_41 : decode cX9_row 41 = .ok (.aload_n 0, 1) := by decide +kernel
theorem dX9_row_42 : decode cX9_row 42 = .ok (.getfield 19, 3) := by decide +kernel
theorem dX9_row_45 : decode cX9_row 45 = .ok (.iload_n 1, 1) := by decide +kernel
theorem dX9_row_46 : decode cX9_row 46 = .ok (.iload_n 2, 1) := by decide +kernel
theorem dX9_row_47 : decode cX9_row 47 = .ok (.iastore, 1) := by decide +kernel
theorem dX9_row_48 : decode cX9_row 48 = .ok (.aload_n 0, 1) := by decide +kernel
theorem dX9_row_49 : decode cX9_row 49 = .ok (.getfield 22, 3) := by decide +kernel
theorem dX9_row_52 : decode cX9_row 52 = .ok (.iload_n 1, 1) := by decide +kernel
theorem dX9_row_53 : decode cX9_row 53 = .ok (.iload_n 3, 1) := by decide +kernel
theorem dX9_row_54 : decode cX9_row 54 = .ok (.iastore, 1) := by decide +kernel
theorem dX9_row_55 : decode cX9_row 55 = .ok (.iconst 0, 1) := by decide +kernel
theorem dX9_row_56 : decode cX9_row 56 = .ok (.istore 4, 2) := by decide +kernel
theorem dX9_row_58 : decode cX9_row 58 = .ok (.iload 4, 2) := by decide +kernel
theorem dX9_row_60 : decode cX9_row 60 = .ok (.bipush 80, 2) := by decide +kernel
theorem dX9_row_62 : decode cX9_row 62 = .ok (.if_icmp .ge 22, 3) := by decide +kernel
theorem dX9_row_65 : decode cX9_row 65 = .ok (.aload_n 0, 1) := by decide +kernel
theorem dX9_row_66 : decode cX9_row 66 = .ok (.getfield 25, 3) := by decide +kernel
theorem dX9_row_69 : decode cX9_row 69 = .ok (.bipush 80, 2) := by decide +kernel
theorem dX9_row_71 : decode cX9_row 71 = .ok (.iload_n 1, 1) := by decide +kernel
theorem dX9_row_72 : decode cX9_row 72 = .ok (.imul, 1) := by decide +kernel
theorem dX9_row_73 : decode cX9_row 73 = .ok (.iload 4, 2) := by decide +kernel
theorem dX9_row_75 : decode cX9_row 75 = .ok (.iadd, 1) := by decide +kernel
theorem dX9_row_76 : decode cX9_row 76 = .ok (.iconst 0, 1) := by decide +kernel
theorem dX9_row_77 : decode cX9_row 77 = .ok (.iastore, 1) := by decide +kernel
theorem dX9_row_78 : decode cX9_row 78 = .ok (.iinc 4 1, 3) := by decide +kernel
theorem dX9_row_81 : decode cX9_row 81 = .ok (.goto (-23), 3) := by decide +kernel
theorem dX9_row_84 : decode cX9_row 84 = .ok (.iconst 0, 1) := by decide +kernel
theorem dX9_row_85 : decode cX9_row 85 = .ok (.ireturn, 1) := by decide +kernel
def L_X9_row_58 : Nat → Int32 → Int32 → Mem → Option (Int32 × Mem)
  | 0, _, _, _ => none
  | n + 1, x1, x4, M => if (80 : Int32) ≤ x4 then some ((0 : Int32), M) else gd (inR (((80 : Int32) * x1) + x4) 640) (L_X9_row_58 n x1 (x4 + 1) (sI M 290 (((80 : Int32) * x1) + x4).toNatClampNeg (0 : Int32)))
def f_X9_row (x1 : Int32) (x2 : Int32) (x3 : Int32) (M : Mem) : Option (Int32 × Mem) := if (f_X9_isShelf x1) = 0 then some ((-1 : Int32), M) else if (f_X9_isIn x2.toInt64 (0 : Int64) (2 : Int64)) = 0 then some ((-1 : Int32), M) else if x3 ≤ (80 : Int32) then if 0 ≤ x3 then gd (inR x1 8) (L_X9_row_58 FU x1 (0 : Int32) (sI (sI (sI M 287 x1.toNatClampNeg (2 : Int32)) 288 x1.toNatClampNeg x2) 289 x1.toNatClampNeg x3)) else some ((-14 : Int32), M) else some ((-1 : Int32), M)
set_option maxRecDepth 100000 in
set_option maxHeartbeats 4000000 in
theorem l_X9_row_58 (Z : Sys) (X : Cx) (hR : xR X = rm_X9_row) {q : Int32 × Mem} (hq : RetOk Z X (some .int) False (PostI q.1 q.2) 0 0) : ∀ (n : Nat) (x1 : Int32) (x4 : Int32) (M : Mem) (hs : St M) (hf : L_X9_row_58 n x1 x4 M = some q), G Z X Y_X9_row False 0 0 58 [(0, .ref (zs Z + 284)), (1, .int x1), (4, .int x4)] [] M := by
  intro n
  induction n with
  | zero => intro x1 x4 M hs  hf; cases hf
  | succ n ih =>
    intro x1 x4 M hs  hf
    unfold L_X9_row_58 at hf
    refine G.iload 58 2 dX9_row_58 rfl ?_
    refine G.bipush 60 (80 : Int32) dX9_row_60 (by decide +kernel) ?_
    refine G.icmp_ge 62 84 dX9_row_62 (by decide) (fun h10 => ?_) (fun h10 => ?_)
    · replace hf := (if_pos h10).symm.trans hf
      refine G.iconst 84 (0 : Int32) dX9_row_84 (by decide +kernel) ?_
      (have hf9 := Option.some.inj hf; subst hf9)
      exact G.rI 85 hq dX9_row_85 hs
    · replace hf := (if_neg h10).symm.trans hf
      refine G.aload_n 65 0 dX9_row_65 rfl rfl ?_
      refine G.getp 66 ck_9 5 290 (hs.k k0_284) (pc_9_5 hs) (by decide) (by decide +kernel) wd_1310 dX9_row_66 ?_
      refine G.bipush 69 (80 : Int32) dX9_row_69 (by decide +kernel) ?_
      refine G.iload_n 71 1 dX9_row_71 rfl rfl ?_
      refine G.imul 72 dX9_row_72 ?_
      refine G.iload 73 2 dX9_row_73 rfl ?_
      refine G.iadd 75 dX9_row_75 ?_
      refine G.iconst 76 (0 : Int32) dX9_row_76 (by decide +kernel) ?_
      obtain ⟨g11, hf⟩ := gd_e hf
      refine G.ist 77 (((80 : Int32) * x1) + x4).toNatClampNeg (hs.k k0_290) g11 rfl dX9_row_77 ?_
      refine G.iinc 78 2 (x4 + 1) [(4, .int (x4 + 1)), (0, .ref (zs Z + 284)), (1, .int x1)] dX9_row_78 rfl (congrArg (fun z => x4 + z) (by decide +kernel)) (Nat.le_of_ble_eq_true rfl) rfl ?_
      refine G.goto 81 58 dX9_row_81 (by decide) ?_
      refine G.locs [1, 2, 0] rfl ?_
      exact ih x1 (x4 + 1) (sI M 290 (((80 : Int32) * x1) + x4).toNatClampNeg (0 : Int32)) (St.i hs) hf
set_option maxRecDepth 100000 in
set_option maxHeartbeats 4000000 in
theorem c_X9_row (Z : Sys) {M : Mem} (hs : St M) (x1 : Int32) (x2 : Int32) (x3 : Int32) {q : Int32 × Mem} (hf : f_X9_row x1 x2 x3 M = some q) : Ct Z yX9_row cX9_row 5 (some .int) rm_X9_row [.ref (zs Z + 284), .int x1, .int x2, .int x3] M False (PostI q.1 q.2) := by
  refine Ct.of (by decide +kernel) (Nat.le_of_ble_eq_true rfl) (fun X hR hq _ => ?_)
  show G Z X Y_X9_row False 0 0 0 [(0, .ref (zs Z + 284)), (1, .int x1), (2, .int x2), (3, .int x3)] [] M
  replace hq : RetOk Z X (some .int) False (PostI q.1 q.2) 0 0 := hq
  unfold f_X9_row at hf
  refine G.iload_n 0 1 dX9_row_0 rfl rfl ?_
  refine G.csZ 1 (As := [.int x1]) (c_X9_isShelf Z hs x1 rfl) mk_X9_isShelf wd_1470 wd_1469 hR (by decide +kernel) ⟨rfl, rfl⟩ rfl (Nat.le_of_ble_eq_true rfl) dX9_row_1 (fun hs1 z2 => ?_)
  refine G.if_eq 4 25 dX9_row_4 (by decide) (fun h3 => ?_) (fun h3 => ?_)
  · replace hf := (if_pos h3).symm.trans hf
    refine G.iconst 25 (-1 : Int32) dX9_row_25 (by decide +kernel) ?_
    (have hf9 := Option.some.inj hf; subst hf9)
    exact G.rI 26 hq dX9_row_26 hs1
  · replace hf := (if_neg h3).symm.trans hf
    refine G.iload_n 7 2 dX9_row_7 rfl rfl ?_
    refine G.i2l 8 dX9_row_8 ?_
    refine G.lconst 9 (0 : Int64) dX9_row_9 (by decide +kernel) ?_
    refine G.ldc2 10 (2 : Int64) wd_1759 dX9_row_10 ?_
    refine G.csZ 13 (As := [.long x2.toInt64, .long (0 : Int64), .long (2 : Int64)]) (c_X9_isIn Z hs1 x2.toInt64 (0 : Int64) (2 : Int64) rfl) mk_X9_isIn wd_1400 wd_1399 hR (by decide +kernel) ⟨rfl, rfl⟩ rfl (Nat.le_of_ble_eq_true rfl) dX9_row_13 (fun hs4 z5 => ?_)
    refine G.if_eq 16 25 dX9_row_16 (by decide) (fun h6 => ?_) (fun h6 => ?_)
    · replace hf := (if_pos h6).symm.trans hf
      refine G.iconst 25 (-1 : Int32) dX9_row_25 (by decide +kernel) ?_
      (have hf9 := Option.some.inj hf; subst hf9)
      exact G.rI 26 hq dX9_row_26 hs4
    · replace hf := (if_neg h6).symm.trans hf
      refine G.iload_n 19 3 dX9_row_19 rfl rfl ?_
      refine G.bipush 20 (80 : Int32) dX9_row_20 (by decide +kernel) ?_
      refine G.icmp_le 22 27 dX9_row_22 (by decide) (fun h7 => ?_) (fun h7 => ?_)
      · replace hf := (if_pos h7).symm.trans hf
        refine G.iload_n 27 3 dX9_row_27 rfl rfl ?_
        refine G.if_ge 28 34 dX9_row_28 (by decide) (fun h8 => ?_) (fun h8 => ?_)
        · replace hf := (if_pos h8).symm.trans hf
          refine G.aload_n 34 0 dX9_row_34 rfl rfl ?_
          refine G.getp 35 ck_9 2 287 (hs4.k k0_284) (pc_9_2 hs4) (by decide) (by decide +kernel) wd_1307 dX9_row_35 ?_
          refine G.iload_n 38 1 dX9_row_38 rfl rfl ?_
          refine G.iconst 39 (2 : Int32) dX9_row_39 (by decide +kernel) ?_
          obtain ⟨g9, hf⟩ := gd_e hf
          refine G.ist 40 x1.toNatClampNeg (hs4.k k0_287) g9 rfl dX9_row_40 ?_
          refine G.aload_n 41 0 dX9_row_41 rfl rfl ?_
          refine G.getp 42 ck_9 3 288 ((St.i hs4).k k0_284) (pc_9_3 (St.i hs4)) (by decide) (by decide +kernel) wd_1308 dX9_row_42 ?_
          refine G.iload_n 45 1 dX9_row_45 rfl rfl ?_
          refine G.iload_n 46 2 dX9_row_46 rfl rfl ?_
          refine G.ist 47 x1.toNatClampNeg ((St.i hs4).k k0_288) g9 rfl dX9_row_47 ?_
          refine G.aload_n 48 0 dX9_row_48 rfl rfl ?_
          refine G.getp 49 ck_9 4 289 ((St.i (St.i hs4)).k k0_284) (pc_9_4 (St.i (St.i hs4))) (by decide) (by decide +kernel) wd_1309 dX9_row_49 ?_
          refine G.iload_n 52 1 dX9_row_52 rfl rfl ?_
          refine G.iload_n 53 3 dX9_row_53 rfl rfl ?_
          refine G.ist 54 x1.toNatClampNeg ((St.i (St.i hs4)).k k0_289) g9 rfl dX9_row_54 ?_
          refine G.iconst 55 (0 : Int32) dX9_row_55 (by decide +kernel) ?_
          refine G.istore 56 [(4, .int (0 : Int32)), (0, .ref (zs Z + 284)), (1, .int x1), (2, .int x2), (3, .int x3)] dX9_row_56 (Nat.le_of_ble_eq_true rfl) rfl ?_
          refine G.locs [1, 2, 0] rfl ?_
          exact l_X9_row_58 Z X hR hq FU x1 (0 : Int32) (sI (sI (sI M 287 x1.toNatClampNeg (2 : Int32)) 288 x1.toNatClampNeg x2) 289 x1.toNatClampNeg x3) (St.i (St.i (St.i hs4))) hf
        · replace hf := (if_neg h8).symm.trans hf
          refine G.bipush 31 (-14 : Int32) dX9_row_31 (by decide +kernel) ?_
          (have hf9 := Option.some.inj hf; subst hf9)
          exact G.rI 33 hq dX9_row_33 hs4
      · replace hf := (if_neg h7).symm.trans hf
        refine G.iconst 25 (-1 : Int32) dX9_row_25 (by decide +kernel) ?_
        (have hf9 := Option.some.inj hf; subst hf9)
        exact G.rI 26 hq dX9_row_26 hs4
abbrev Y_X9_said : My := (cX9_said, RX9, 5)
def rm_X9_said : Room := { frames := 422, cells := 0, slots := 0, locals := 13044 }
theorem dX9_said_0 : decode cX9_said 0 = .ok (.iload_n 1, 1) := by decide +kernel
theorem dX9_said_1 : decode cX9_said 1 = .ok (.i2l, 1) := by decide +kernel
theorem dX9_said_2 : decode cX9_said 2 = .ok (.ldc2_w 278, 3) := by decide +kernel
theorem dX9_said_5 : decode cX9_said 5 = .ok (.ldc2_w 280, 3) := by decide +kernel
theorem dX9_said_8 : decode cX9_said 8 = .ok (.invokestatic 62, 3) := by decide +kernel
theorem dX9_said_11 : decode cX9_said 11 = .ok (.ifCond .eq 13, 3) := by decide +kernel
theorem dX9_said_14 : decode cX9_said 14 = .ok (.iload_n 2, 1) := by decide +kernel
theorem dX9_said_15 : decode cX9_said 15 = .ok (.i2l, 1) := by decide +kernel
theorem dX9_said_16 : decode cX9_said 16 = .ok (.lconst 0, 1) := by decide +kernel
theorem dX9_said_17 : decode cX9_said 17 = .ok (.lconst 1, 1) := by decide +kernel
theorem dX9_said_18 : decode cX9_said 18 = .ok (.invokestatic 62, 3) := by decide +kernel
theorem dX9_said_21 : decode cX9_said 21 = .ok (.ifCond .ne 5, 3) := by decide +kernel
theorem dX9_said_24 : decode cX9_said 24 = .ok (.iconst (-1), 1) := by decide +kernel
theorem dX9_said_25 : decode cX9_said 25 = .ok (.ireturn, 1) := by decide +kernel
theorem dX9_said_26 : decode cX9_said 26 = .ok (.iconst 0, 1) := by decide +kernel
theorem dX9_said_27 : decode cX9_said 27 = .ok (.istore_n 3, 1) := by decide +kernel
theorem dX9_said_28 : decode cX9_said 28 = .ok (.iconst 0, 1) := by decide +kernel
theorem dX9_said_29 : decode cX9_said 29 = .ok (.istore 4, 2) := by decide +kernel
theorem dX9_said_31 : decode cX9_said 31 = .ok (.iload 4, 2) := by decide +kernel
theorem dX9_said_33 : decode cX9_said 33 = .ok (.aload_n 0, 1) := by decide +kernel
theorem dX9_said_34 : decode cX9_said 34 = .ok (.getfield 9, 3) := by decide +kernel
theorem dX9_said_37 : decode cX9_said 37 = .ok (.sipush 1192, 3) := by decide +kernel
theorem dX9_said_40 : decode cX9_said 40 = .ok (.iaload, 1) := by decide +kernel
theorem dX9_said_41 : decode cX9_said 41 = .ok (.if_icmp .ge 51, 3) := by decide +kernel
theorem dX9_said_44 : decode cX9_said 44 = .ok (.iload_n 3, 1) := by decide +kernel
theorem dX9_said_45 : decode cX9_said 45 = .ok (.aload_n 0, 1) := by decide +kernel
theorem dX9_said_46 : decode cX9_said 46 = .ok (.iload 4, 2) := by decide +kernel
theorem dX9_said_48 : decode cX9_said 48 = .ok (.invokevirtual 97, 3) := by decide +kernel
theorem dX9_said_51 : decode cX9_said 51 = .ok (.ifCond .eq 32, 3) := by decide +kernel
theorem dX9_said_54 : decode cX9_said 54 = .ok (.aload_n 0, 1) := by decide +kernel
theorem dX9_said_55 : decode cX9_said 55 = .ok (.iload 4, 2) := by decide +kernel
theorem dX9_said_57 : decode cX9_said 57 = .ok (.invokevirtual 288, 3) := by decide +kernel
theorem dX9_said_60 : decode cX9_said 60 = .ok (.iload_n 1, 1) := by decide +kernel
theorem dX9_said_61 : decode cX9_said 61 = .ok (.if_icmp .ne 22, 3) := by decide +kernel
theorem dX9_said_64 : decode cX9_said 64 = .ok (.iload_n 2, 1) := by decide +kernel
theorem dX9_said_65 : decode cX9_said 65 = .ok (.ifCond .ne 7, 3) := by decide +kernel
theorem dX9_said_68 : decode cX9_said 68 = .ok (.iconst 1, 1) := by decide +kernel
theorem dX9_said_69 : decode cX9_said 69 = .ok (.goto 15, 3) := by decide +kernel
theorem dX9_said_72 : decode cX9_said 72 = .ok (.aload_n 0, 1) := by decide +kernel
theorem dX9_said_73 : decode cX9_said 73 = .ok (.iload 4, 2) := by decide +kernel
theorem dX9_said_75 : decode cX9_said 75 = .ok (.bipush 10, 2) := by decide +kernel
theorem dX9_said_77 : decode cX9_said 77 = .ok (.invokevirtual 76, 3) := by decide +kernel
theorem dX9_said_80 : decode cX9_said 80 = .ok (.goto 4, 3) := by decide +kernel
theorem dX9_said_83 : decode cX9_said 83 = .ok (.iconst 0, 1) := by decide +kernel
theorem dX9_said_84 : decode cX9_said 84 = .ok (.iadd, 1) := by decide +kernel
theorem dX9_said_85 : decode cX9_said 85 = .ok (.istore_n 3, 1) := by decide +kernel
theorem dX9_said_86 : decode cX9_said 86 = .ok (.iinc 4 1, 3) := by decide +kernel
theorem dX9_said_89 : decode cX9_said 89 = .ok (.goto (-58), 3) := by decide +kernel
theorem dX9_said_92 : decode cX9_said 92 = .ok (.iload_n 3, 1) := by decide +kernel
theorem dX9_said_93 : decode cX9_said 93 = .ok (.ireturn, 1) := by decide +kernel
def L_X9_said_31 : Nat → Int32 → Int32 → Int32 → Int32 → Mem → Option (Int32 × Mem)
  | 0, _, _, _, _, _ => none
  | n + 1, x1, x2, x3, x4, M => if (mI M 285 1192) ≤ x4 then some (x3, M) else (f_X9_has x4 M).bind fun q10 => if q10 = 0 then L_X9_said_31 n x1 x2 (x3 + (0 : Int32)) (x4 + 1) M else (f_X9_markOf x4 M).bind fun q15 => if q15.1 = x1 then if x2 = 0 then L_X9_said_31 n x1 x2 (x3 + (1 : Int32)) (x4 + 1) q15.2 else (f_X9_get x4 (10 : Int32) q15.2).bind fun q21 => L_X9_said_31 n x1 x2 (x3 + q21) (x4 + 1) q15.2 else L_X9_said_31 n x1 x2 (x3 + (0 : Int32)) (x4 + 1) q15.2
def f_X9_said (x1 : Int32) (x2 : Int32) (M : Mem) : Option (Int32 × Mem) := if (f_X9_isIn x1.toInt64 (65 : Int64) (90 : Int64)) = 0 then some ((-1 : Int32), M) else if (f_X9_isIn x2.toInt64 (0 : Int64) (1 : Int64)) = 0 then some ((-1 : Int32), M) else L_X9_said_31 FU x1 x2 (0 : Int32) (0 : Int32) M
set_option maxRecDepth 100000 in
set_option maxHeartbeats 4000000 in
theorem l_X9_said_31 (Z : Sys) (X : Cx) (hR : xR X = rm_X9_said) {q : Int32 × Mem} (hq : RetOk Z X (some .int) False (PostI q.1 q.2) 0 0) : ∀ (n : Nat) (x1 : Int32) (x2 : Int32) (x3 : Int32) (x4 : Int32) (M : Mem) (hs : St M) (hf : L_X9_said_31 n x1 x2 x3 x4 M = some q), G Z X Y_X9_said False 0 0 31 [(0, .ref (zs Z + 284)), (1, .int x1), (2, .int x2), (3, .int x3), (4, .int x4)] [] M := by
  intro n
  induction n with
  | zero => intro x1 x2 x3 x4 M hs  hf; cases hf
  | succ n ih =>
    intro x1 x2 x3 x4 M hs  hf
    unfold L_X9_said_31 at hf
    refine G.iload 31 4 dX9_said_31 rfl ?_
    refine G.aload_n 33 0 dX9_said_33 rfl rfl ?_
    refine G.getp 34 ck_9 0 285 (hs.k k0_284) (pc_9_0 hs) (by decide) (by decide +kernel) wd_1305 dX9_said_34 ?_
    refine G.sipush 37 (1192 : Int32) dX9_said_37 (by decide +kernel) ?_
    refine G.ia 40 1192 (hs.k k0_285) (by decide +kernel) (by decide +kernel) dX9_said_40 ?_
    refine G.icmp_ge 41 92 dX9_said_41 (by decide) (fun h7 => ?_) (fun h7 => ?_)
    · replace hf := (if_pos h7).symm.trans hf
      refine G.iload_n 92 3 dX9_said_92 rfl rfl ?_
      (have hf9 := Option.some.inj hf; subst hf9)
      exact G.rI 93 hq dX9_said_93 hs
    · replace hf := (if_neg h7).symm.trans hf
      refine G.iload_n 44 3 dX9_said_44 rfl rfl ?_
      refine G.aload_n 45 0 dX9_said_45 rfl rfl ?_
      refine G.iload 46 4 dX9_said_46 rfl ?_
      obtain ⟨q10, e11, hf⟩ := bd_e hf
      refine G.cvZ 48 (As := [.int x4]) ck_9 (hs.k k0_284) (c_X9_has Z hs x4 e11) mk_X9_has vk_X9_has rfl wd_1445 hR (by decide +kernel) ⟨rfl, rfl⟩ rfl (Nat.le_of_ble_eq_true rfl) dX9_said_48 (fun hs8 z9 => ?_)
      refine G.if_eq 51 83 dX9_said_51 (by decide) (fun h12 => ?_) (fun h12 => ?_)
      · replace hf := (if_pos h12).symm.trans hf
        refine G.iconst 83 (0 : Int32) dX9_said_83 (by decide +kernel) ?_
        refine G.iadd 84 dX9_said_84 ?_
        refine G.istore_n 85 [(3, .int (x3 + (0 : Int32))), (0, .ref (zs Z + 284)), (1, .int x1), (2, .int x2), (4, .int x4)] dX9_said_85 rfl (Nat.le_of_ble_eq_true rfl) rfl ?_
        refine G.iinc 86 4 (x4 + 1) [(4, .int (x4 + 1)), (3, .int (x3 + (0 : Int32))), (0, .ref (zs Z + 284)), (1, .int x1), (2, .int x2)] dX9_said_86 rfl (congrArg (fun z => x4 + z) (by decide +kernel)) (Nat.le_of_ble_eq_true rfl) rfl ?_
        refine G.goto 89 31 dX9_said_89 (by decide) ?_
        refine G.locs [2, 3, 4, 1, 0] rfl ?_
        exact ih x1 x2 (x3 + (0 : Int32)) (x4 + 1) M hs8 hf
      · replace hf := (if_neg h12).symm.trans hf
        refine G.aload_n 54 0 dX9_said_54 rfl rfl ?_
        refine G.iload 55 4 dX9_said_55 rfl ?_
        obtain ⟨q15, e16, hf⟩ := bd_e hf
        refine G.cvI 57 (As := [.int x4]) ck_9 (hs8.k k0_284) (c_X9_markOf Z hs8 x4 e16) mk_X9_markOf vk_X9_markOf rfl wd_1726 hR (by decide +kernel) ⟨rfl, rfl⟩ rfl (Nat.le_of_ble_eq_true rfl) dX9_said_57 (fun hs13 => ?_)
        refine G.iload_n 60 1 dX9_said_60 rfl rfl ?_
        refine G.icmp_ne 61 83 dX9_said_61 (by decide) (fun h17 => ?_) (fun h17 => ?_)
        · replace hf := (if_neg h17).symm.trans hf
          refine G.iconst 83 (0 : Int32) dX9_said_83 (by decide +kernel) ?_
          refine G.iadd 84 dX9_said_84 ?_
          refine G.istore_n 85 [(3, .int (x3 + (0 : Int32))), (0, .ref (zs Z + 284)), (1, .int x1), (2, .int x2), (4, .int x4)] dX9_said_85 rfl (Nat.le_of_ble_eq_true rfl) rfl ?_
          refine G.iinc 86 4 (x4 + 1) [(4, .int (x4 + 1)), (3, .int (x3 + (0 : Int32))), (0, .ref (zs Z + 284)), (1, .int x1), (2, .int x2)] dX9_said_86 rfl (congrArg (fun z => x4 + z) (by decide +kernel)) (Nat.le_of_ble_eq_true rfl) rfl ?_
          refine G.goto 89 31 dX9_said_89 (by decide) ?_
          refine G.locs [2, 3, 4, 1, 0] rfl ?_
          exact ih x1 x2 (x3 + (0 : Int32)) (x4 + 1) q15.2 hs13 hf
        · replace hf := (if_pos h17).symm.trans hf
          refine G.iload_n 64 2 dX9_said_64 rfl rfl ?_
          refine G.if_ne 65 72 dX9_said_65 (by decide) (fun h18 => ?_) (fun h18 => ?_)
          · replace hf := (if_neg h18).symm.trans hf
            refine G.aload_n 72 0 dX9_said_72 rfl rfl ?_
            refine G.iload 73 4 dX9_said_73 rfl ?_
            refine G.bipush 75 (10 : Int32) dX9_said_75 (by decide +kernel) ?_
            obtain ⟨q21, e22, hf⟩ := bd_e hf
            refine G.cvI 77 (As := [.int x4, .int (10 : Int32)]) ck_9 (hs13.k k0_284) (c_X9_get Z hs13 x4 (10 : Int32) e22) mk_X9_get vk_X9_get rfl wd_1411 hR (by decide +kernel) ⟨rfl, rfl⟩ rfl (Nat.le_of_ble_eq_true rfl) dX9_said_77 (fun hs19 => ?_)
            refine G.goto 80 84 dX9_said_80 (by decide) ?_
            refine G.iadd 84 dX9_said_84 ?_
            refine G.istore_n 85 [(3, .int (x3 + q21)), (0, .ref (zs Z + 284)), (1, .int x1), (2, .int x2), (4, .int x4)] dX9_said_85 rfl (Nat.le_of_ble_eq_true rfl) rfl ?_
            refine G.iinc 86 4 (x4 + 1) [(4, .int (x4 + 1)), (3, .int (x3 + q21)), (0, .ref (zs Z + 284)), (1, .int x1), (2, .int x2)] dX9_said_86 rfl (congrArg (fun z => x4 + z) (by decide +kernel)) (Nat.le_of_ble_eq_true rfl) rfl ?_
            refine G.goto 89 31 dX9_said_89 (by decide) ?_
            refine G.locs [2, 3, 4, 1, 0] rfl ?_
            exact ih x1 x2 (x3 + q21) (x4 + 1) q15.2 hs19 hf
          · replace hf := (if_pos h18).symm.trans hf
            refine G.iconst 68 (1 : Int32) dX9_said_68 (by decide +kernel) ?_
            refine G.goto 69 84 dX9_said_69 (by decide) ?_
            refine G.iadd 84 dX9_said_84 ?_
            refine G.istore_n 85 [(3, .int (x3 + (1 : Int32))), (0, .ref (zs Z + 284)), (1, .int x1), (2, .int x2), (4, .int x4)] dX9_said_85 rfl (Nat.le_of_ble_eq_true rfl) rfl ?_
            refine G.iinc 86 4 (x4 + 1) [(4, .int (x4 + 1)), (3, .int (x3 + (1 : Int32))), (0, .ref (zs Z + 284)), (1, .int x1), (2, .int x2)] dX9_said_86 rfl (congrArg (fun z => x4 + z) (by decide +kernel)) (Nat.le_of_ble_eq_true rfl) rfl ?_
            refine G.goto 89 31 dX9_said_89 (by decide) ?_
            refine G.locs [2, 3, 4, 1, 0] rfl ?_
            exact ih x1 x2 (x3 + (1 : Int32)) (x4 + 1) q15.2 hs13 hf
set_option maxRecDepth 100000 in
set_option maxHeartbeats 4000000 in
theorem c_X9_said (Z : Sys) {M : Mem} (hs : St M) (x1 : Int32) (x2 : Int32) {q : Int32 × Mem} (hf : f_X9_said x1 x2 M = some q) : Ct Z yX9_said cX9_said 5 (some .int) rm_X9_said [.ref (zs Z + 284), .int x1, .int x2] M False (PostI q.1 q.2) := by
  refine Ct.of (by decide +kernel) (Nat.le_of_ble_eq_true rfl) (fun X hR hq _ => ?_)
  show G Z X Y_X9_said False 0 0 0 [(0, .ref (zs Z + 284)), (1, .int x1), (2, .int x2)] [] M
  replace hq : RetOk Z X (some .int) False (PostI q.1 q.2) 0 0 := hq
  unfold f_X9_said at hf
  refine G.iload_n 0 1 dX9_said_0 rfl rfl ?_
  refine G.i2l 1 dX9_said_1 ?_
  refine G.ldc2 2 (65 : Int64) wd_1677 dX9_said_2 ?_
  refine G.ldc2 5 (90 : Int64) wd_1678 dX9_said_5 ?_
  refine G.csZ 8 (As := [.long x1.toInt64, .long (65 : Int64), .long (90 : Int64)]) (c_X9_isIn Z hs x1.toInt64 (65 : Int64) (90 : Int64) rfl) mk_X9_isIn wd_1400 wd_1399 hR (by decide +kernel) ⟨rfl, rfl⟩ rfl (Nat.le_of_ble_eq_true rfl) dX9_said_8 (fun hs1 z2 => ?_)
  refine G.if_eq 11 24 dX9_said_11 (by decide) (fun h3 => ?_) (fun h3 => ?_)
  · replace hf := (if_pos h3).symm.trans hf
    refine G.iconst 24 (-1 : Int32) dX9_said_24 (by decide +kernel) ?_
    (have hf9 := Option.some.inj hf; subst hf9)
    exact G.rI 25 hq dX9_said_25 hs1
  · replace hf := (if_neg h3).symm.trans hf
    refine G.iload_n 14 2 dX9_said_14 rfl rfl ?_
    refine G.i2l 15 dX9_said_15 ?_
    refine G.lconst 16 (0 : Int64) dX9_said_16 (by decide +kernel) ?_
    refine G.lconst 17 (1 : Int64) dX9_said_17 (by decide +kernel) ?_
    refine G.csZ 18 (As := [.long x2.toInt64, .long (0 : Int64), .long (1 : Int64)]) (c_X9_isIn Z hs1 x2.toInt64 (0 : Int64) (1 : Int64) rfl) mk_X9_isIn wd_1400 wd_1399 hR (by decide +kernel) ⟨rfl, rfl⟩ rfl (Nat.le_of_ble_eq_true rfl) dX9_said_18 (fun hs4 z5 => ?_)
    refine G.if_ne 21 26 dX9_said_21 (by decide) (fun h6 => ?_) (fun h6 => ?_)
    · replace hf := (if_neg h6).symm.trans hf
      refine G.iconst 26 (0 : Int32) dX9_said_26 (by decide +kernel) ?_
      refine G.istore_n 27 [(3, .int (0 : Int32)), (0, .ref (zs Z + 284)), (1, .int x1), (2, .int x2)] dX9_said_27 rfl (Nat.le_of_ble_eq_true rfl) rfl ?_
      refine G.iconst 28 (0 : Int32) dX9_said_28 (by decide +kernel) ?_
      refine G.istore 29 [(4, .int (0 : Int32)), (3, .int (0 : Int32)), (0, .ref (zs Z + 284)), (1, .int x1), (2, .int x2)] dX9_said_29 (Nat.le_of_ble_eq_true rfl) rfl ?_
      refine G.locs [2, 3, 4, 1, 0] rfl ?_
      exact l_X9_said_31 Z X hR hq FU x1 x2 (0 : Int32) (0 : Int32) M hs4 hf
    · replace hf := (if_pos h6).symm.trans hf
      refine G.iconst 24 (-1 : Int32) dX9_said_24 (by decide +kernel) ?_
      (have hf9 := Option.some.inj hf; subst hf9)
      exact G.rI 25 hq dX9_said_25 hs4
abbrev Y_X9_send : My := (cX9_send, RX9, 3)
def rm_X9_send : Room := { frames := 4, cells := 0, slots := 0, locals := 268 }
theorem dX9_send_0 : decode cX9_send 0 = .ok (.iload_n 1, 1) := by decide +kernel
theorem dX9_send_1 : decode cX9_send 1 = .ok (.iconst (-1), 1) := by decide +kernel
theorem dX9_send_2 : decode cX9_send 2 = .ok (.if_icmp .eq 13, 3) := by decide +kernel
theorem dX9_send_5 : decode cX9_send 5 = .ok (.aload_n 0, 1) := by decide +kernel
theorem dX9_send_6 : decode cX9_send 6 = .ok (.iload_n 1, 1) := by decide +kernel
theorem dX9_send_7 : decode cX9_send 7 = .ok (.invokevirtual 72, 3) := by decide +kernel
theorem dX9_send_10 : decode cX9_send 10 = .ok (.ifCond .ne 5, 3) := by decide +kernel
theorem dX9_send_13 : decode cX9_send 13 = .ok (.iconst (-1), 1) := by decide +kernel
theorem dX9_send_14 : decode cX9_send 14 = .ok (.ireturn, 1) := by decide +kernel
theorem dX9_send_15 : decode cX9_send 15 = .ok (.iconst 0, 1) := by decide +kernel
theorem dX9_send_16 : decode cX9_send 16 = .ok (.istore_n 2, 1) := by decide +kernel
theorem dX9_send_17 : decode cX9_send 17 = .ok (.iload_n 2, 1) := by decide +kernel
theorem dX9_send_18 : decode cX9_send 18 = .ok (.aload_n 0, 1) := by decide +kernel
theorem dX9_send_19 : decode cX9_send 19 = .ok (.getfield 9, 3) := by decide +kernel
theorem dX9_send_22 : decode cX9_send 22 = .ok (.sipush 1192, 3) := by decide +kernel
theorem dX9_send_25 : decode cX9_send 25 = .ok (.iaload, 1) := by decide +kernel
theorem dX9_send_26 : decode cX9_send 26 = .ok (.if_icmp .ge 33, 3) := by decide +kernel
theorem dX9_send_29 : decode cX9_send 29 = .ok (.iload_n 1, 1) := by decide +kernel
theorem dX9_send_30 : decode cX9_send 30 = .ok (.ifCond .lt 8, 3) := by decide +kernel
theorem dX9_send_33 : decode cX9_send 33 = .ok (.iload_n 2, 1) := by decide +kernel
theorem dX9_send_34 : decode cX9_send 34 = .ok (.iload_n 1, 1) := by decide +kernel
theorem dX9_send_35 : decode cX9_send 35 = .ok (.if_icmp .ne 18, 3) := by decide +kernel
theorem dX9_send_38 : decode cX9_send 38 = .ok (.aload_n 0, 1) := by decide +kernel
theorem dX9_send_39 : decode cX9_send 39 = .ok (.iload_n 2, 1) := by decide +kernel
theorem dX9_send_40 : decode cX9_send 40 = .ok (.aload_n 0, 1) := by decide +kernel
theorem dX9_send_41 : decode cX9_send 41 = .ok (.iload_n 2, 1) := by decide +kernel
theorem dX9_send_42 : decode cX9_send 42 = .ok (.invokevirtual 90, 3) := by decide +kernel
theorem dX9_send_45 : decode cX9_send 45 = .ok (.aload_n 0, 1) := by decide +kernel
theorem dX9_send_46 : decode cX9_send 46 = .ok (.iload_n 2, 1) := by decide +kernel
theorem dX9_send_47 : decode cX9_send 47 = .ok (.invokevirtual 94, 3) := by decide +kernel
theorem dX9_send_50 : decode cX9_send 50 = .ok (.invokevirtual 103, 3) := by decide +kernel
theorem dX9_send_53 : decode cX9_send 53 = .ok (.iinc 2 1, 3) := by decide +kernel
theorem dX9_send_56 : decode cX9_send 56 = .ok (.goto (-39), 3) := by decide +kernel
theorem dX9_send_59 : decode cX9_send 59 = .ok (.aload_n 0, 1) := by decide +kernel
theorem dX9_send_60 : decode cX9_send 60 = .ok (.invokevirtual 107, 3) := by decide +kernel
theorem dX9_send_63 : decode cX9_send 63 = .ok (.ireturn, 1) := by decide +kernel
def B_X9_send_59 (M : Mem) : Option (Int32 × Mem) := (f_X9_there M).bind fun q5 => some (q5, M)
def B_X9_send_53 (rc_17 : Int32 → Int32 → Mem → Option (Int32 × Mem)) (x1 : Int32) (x2 : Int32) (M : Mem) : Option (Int32 × Mem) := rc_17 x1 (x2 + 1) M
def B_X9_send_38 (rc_17 : Int32 → Int32 → Mem → Option (Int32 × Mem)) (x1 : Int32) (x2 : Int32) (M : Mem) : Option (Int32 × Mem) := (f_X9_tellsCame x2 M).bind fun q10 => (f_X9_tellsOurs x2 M).bind fun q14 => (f_X9_writes x2 q10 q14 M).bind fun q18 => B_X9_send_53 rc_17 x1 x2 q18
def L_X9_send_17 : Nat → Int32 → Int32 → Mem → Option (Int32 × Mem)
  | 0, _, _, _ => none
  | n + 1, x1, x2, M => if (mI M 285 1192) ≤ x2 then B_X9_send_59 M else if x1 < 0 then B_X9_send_38 (L_X9_send_17 n) x1 x2 M else if x2 = x1 then B_X9_send_38 (L_X9_send_17 n) x1 x2 M else B_X9_send_53 (L_X9_send_17 n) x1 x2 M
def B_X9_send_15 (x1 : Int32) (M : Mem) : Option (Int32 × Mem) := L_X9_send_17 FU x1 (0 : Int32) M
def f_X9_send (x1 : Int32) (M : Mem) : Option (Int32 × Mem) := if x1 = (-1 : Int32) then B_X9_send_15 x1 M else if (f_X9_isHall x1 M) = 0 then some ((-1 : Int32), M) else B_X9_send_15 x1 M
set_option maxRecDepth 100000 in
set_option maxHeartbeats 4000000 in
theorem b_X9_send_59 (Z : Sys) (X : Cx) (hR : xR X = rm_X9_send) {q : Int32 × Mem} (hq : RetOk Z X (some .int) False (PostI q.1 q.2) 0 0) {M : Mem} (hs : St M) (hf : B_X9_send_59 M = some q) : G Z X Y_X9_send False 0 0 59 [(0, .ref (zs Z + 284))] [] M := by
  unfold B_X9_send_59 at hf
  refine G.aload_n 59 0 dX9_send_59 rfl rfl ?_
  obtain ⟨q5, e6, hf⟩ := bd_e hf
  refine G.cvI 60 (As := []) ck_9 (hs.k k0_284) (c_X9_there Z hs e6) mk_X9_there vk_X9_there rfl wd_1461 hR (by decide +kernel) ⟨rfl, rfl⟩ rfl (Nat.le_of_ble_eq_true rfl) dX9_send_60 (fun hs3 => ?_)
  (have hf9 := Option.some.inj hf; subst hf9)
  exact G.rI 63 hq dX9_send_63 hs3
set_option maxRecDepth 100000 in
set_option maxHeartbeats 4000000 in
theorem b_X9_send_53 (Z : Sys) (X : Cx) (hR : xR X = rm_X9_send) {q : Int32 × Mem} (hq : RetOk Z X (some .int) False (PostI q.1 q.2) 0 0) (rc_17 : Int32 → Int32 → Mem → Option (Int32 × Mem)) (hrc_17 : ∀ (x1 : Int32) (x2 : Int32) (M : Mem), St M → rc_17 x1 x2 M = some q → G Z X Y_X9_send False 0 0 17 [(0, .ref (zs Z + 284)), (1, .int x1), (2, .int x2)] [] M) (x1 : Int32) (x2 : Int32) {M : Mem} (hs : St M) (hf : B_X9_send_53 rc_17 x1 x2 M = some q) : G Z X Y_X9_send False 0 0 53 [(0, .ref (zs Z + 284)), (1, .int x1), (2, .int x2)] [] M := by
  unfold B_X9_send_53 at hf
  refine G.iinc 53 2 (x2 + 1) [(2, .int (x2 + 1)), (0, .ref (zs Z + 284)), (1, .int x1)] dX9_send_53 rfl (congrArg (fun z => x2 + z) (by decide +kernel)) (Nat.le_of_ble_eq_true rfl) rfl ?_
  refine G.goto 56 17 dX9_send_56 (by decide) ?_
  refine G.locs [1, 2, 0] rfl ?_
  exact hrc_17 x1 (x2 + 1) M hs hf
set_option maxRecDepth 100000 in
set_option maxHeartbeats 4000000 in
theorem b_X9_send_38 (Z : Sys) (X : Cx) (hR : xR X = rm_X9_send) {q : Int32 × Mem} (hq : RetOk Z X (some .int) False (PostI q.1 q.2) 0 0) (rc_17 : Int32 → Int32 → Mem → Option (Int32 × Mem)) (hrc_17 : ∀ (x1 : Int32) (x2 : Int32) (M : Mem), St M → rc_17 x1 x2 M = some q → G Z X Y_X9_send False 0 0 17 [(0, .ref (zs Z + 284)), (1, .int x1), (2, .int x2)] [] M) (x1 : Int32) (x2 : Int32) {M : Mem} (hs : St M) (hf : B_X9_send_38 rc_17 x1 x2 M = some q) : G Z X Y_X9_send False 0 0 38 [(0, .ref (zs Z + 284)), (1, .int x1), (2, .int x2)] [] M := by
  unfold B_X9_send_38 at hf
  refine G.aload_n 38 0 dX9_send_38 rfl rfl ?_
  refine G.iload_n 39 2 dX9_send_39 rfl rfl ?_
  refine G.aload_n 40 0 dX9_send_40 rfl rfl ?_
  refine G.iload_n 41 2 dX9_send_41 rfl rfl ?_
  obtain ⟨q10, e11, hf⟩ := bd_e hf
  refine G.cvI 42 (As := [.int x2]) ck_9 (hs.k k0_284) (c_X9_tellsCame Z hs x2 e11) mk_X9_tellsCame vk_X9_tellsCame rfl wd_1434 hR (by decide +kernel) ⟨rfl, rfl⟩ rfl (Nat.le_of_ble_eq_true rfl) dX9_send_42 (fun hs8 => ?_)
  refine G.aload_n 45 0 dX9_send_45 rfl rfl ?_
  refine G.iload_n 46 2 dX9_send_46 rfl rfl ?_
  obtain ⟨q14, e15, hf⟩ := bd_e hf
  refine G.cvI 47 (As := [.int x2]) ck_9 (hs8.k k0_284) (c_X9_tellsOurs Z hs8 x2 e15) mk_X9_tellsOurs vk_X9_tellsOurs rfl wd_1441 hR (by decide +kernel) ⟨rfl, rfl⟩ rfl (Nat.le_of_ble_eq_true rfl) dX9_send_47 (fun hs12 => ?_)
  obtain ⟨q18, e19, hf⟩ := bd_e hf
  refine G.cvV 50 (As := [.int x2, .int q10, .int q14]) ck_9 (hs12.k k0_284) (c_X9_writes Z hs12 x2 q10 q14 e19) mk_X9_writes vk_X9_writes rfl wd_1457 hR (by decide +kernel) ⟨rfl, rfl⟩ rfl (Nat.le_of_ble_eq_true rfl) dX9_send_50 (fun hs16 => ?_)
  exact b_X9_send_53 Z X hR hq rc_17 hrc_17 x1 x2 hs16 hf
set_option maxRecDepth 100000 in
set_option maxHeartbeats 4000000 in
theorem l_X9_send_17 (Z : Sys) (X : Cx) (hR : xR X = rm_X9_send) {q : Int32 × Mem} (hq : RetOk Z X (some .int) False (PostI q.1 q.2) 0 0) : ∀ (n : Nat) (x1 : Int32) (x2 : Int32) (M : Mem) (hs : St M) (hf : L_X9_send_17 n x1 x2 M = some q), G Z X Y_X9_send False 0 0 17 [(0, .ref (zs Z + 284)), (1, .int x1), (2, .int x2)] [] M := by
  intro n
  induction n with
  | zero => intro x1 x2 M hs  hf; cases hf
  | succ n ih =>
    intro x1 x2 M hs  hf
    unfold L_X9_send_17 at hf
    refine G.iload_n 17 2 dX9_send_17 rfl rfl ?_
    refine G.aload_n 18 0 dX9_send_18 rfl rfl ?_
    refine G.getp 19 ck_9 0 285 (hs.k k0_284) (pc_9_0 hs) (by decide) (by decide +kernel) wd_1305 dX9_send_19 ?_
    refine G.sipush 22 (1192 : Int32) dX9_send_22 (by decide +kernel) ?_
    refine G.ia 25 1192 (hs.k k0_285) (by decide +kernel) (by decide +kernel) dX9_send_25 ?_
    refine G.icmp_ge 26 59 dX9_send_26 (by decide) (fun h2 => ?_) (fun h2 => ?_)
    · replace hf := (if_pos h2).symm.trans hf
      refine G.locs [0] rfl ?_
      exact b_X9_send_59 Z X hR hq hs hf
    · replace hf := (if_neg h2).symm.trans hf
      refine G.iload_n 29 1 dX9_send_29 rfl rfl ?_
      refine G.if_lt 30 38 dX9_send_30 (by decide) (fun h7 => ?_) (fun h7 => ?_)
      · replace hf := (if_pos h7).symm.trans hf
        exact b_X9_send_38 Z X hR hq (L_X9_send_17 n) ih x1 x2 hs hf
      · replace hf := (if_neg h7).symm.trans hf
        refine G.iload_n 33 2 dX9_send_33 rfl rfl ?_
        refine G.iload_n 34 1 dX9_send_34 rfl rfl ?_
        refine G.icmp_ne 35 53 dX9_send_35 (by decide) (fun h20 => ?_) (fun h20 => ?_)
        · replace hf := (if_neg h20).symm.trans hf
          exact b_X9_send_53 Z X hR hq (L_X9_send_17 n) ih x1 x2 hs hf
        · replace hf := (if_pos h20).symm.trans hf
          exact b_X9_send_38 Z X hR hq (L_X9_send_17 n) ih x1 x2 hs hf
set_option maxRecDepth 100000 in
set_option maxHeartbeats 4000000 in
theorem b_X9_send_15 (Z : Sys) (X : Cx) (hR : xR X = rm_X9_send) {q : Int32 × Mem} (hq : RetOk Z X (some .int) False (PostI q.1 q.2) 0 0) (x1 : Int32) {M : Mem} (hs : St M) (hf : B_X9_send_15 x1 M = some q) : G Z X Y_X9_send False 0 0 15 [(0, .ref (zs Z + 284)), (1, .int x1)] [] M := by
  unfold B_X9_send_15 at hf
  refine G.iconst 15 (0 : Int32) dX9_send_15 (by decide +kernel) ?_
  refine G.istore_n 16 [(2, .int (0 : Int32)), (0, .ref (zs Z + 284)), (1, .int x1)] dX9_send_16 rfl (Nat.le_of_ble_eq_true rfl) rfl ?_
  refine G.locs [1, 2, 0] rfl ?_
  exact l_X9_send_17 Z X hR hq FU x1 (0 : Int32) M hs hf
set_option maxRecDepth 100000 in
set_option maxHeartbeats 4000000 in
theorem c_X9_send (Z : Sys) {M : Mem} (hs : St M) (x1 : Int32) {q : Int32 × Mem} (hf : f_X9_send x1 M = some q) : Ct Z yX9_send cX9_send 3 (some .int) rm_X9_send [.ref (zs Z + 284), .int x1] M False (PostI q.1 q.2) := by
  refine Ct.of (by decide +kernel) (Nat.le_of_ble_eq_true rfl) (fun X hR hq _ => ?_)
  show G Z X Y_X9_send False 0 0 0 [(0, .ref (zs Z + 284)), (1, .int x1)] [] M
  replace hq : RetOk Z X (some .int) False (PostI q.1 q.2) 0 0 := hq
  unfold f_X9_send at hf
  refine G.iload_n 0 1 dX9_send_0 rfl rfl ?_
  refine G.iconst 1 (-1 : Int32) dX9_send_1 (by decide +kernel) ?_
  refine G.icmp_eq 2 15 dX9_send_2 (by decide) (fun h1 => ?_) (fun h1 => ?_)
  · replace hf := (if_pos h1).symm.trans hf
    exact b_X9_send_15 Z X hR hq x1 hs hf
  · replace hf := (if_neg h1).symm.trans hf
    refine G.aload_n 5 0 dX9_send_5 rfl rfl ?_
    refine G.iload_n 6 1 dX9_send_6 rfl rfl ?_
    refine G.cvZ 7 (As := [.int x1]) ck_9 (hs.k k0_284) (c_X9_isHall Z hs x1 rfl) mk_X9_isHall vk_X9_isHall rfl wd_1407 hR (by decide +kernel) ⟨rfl, rfl⟩ rfl (Nat.le_of_ble_eq_true rfl) dX9_send_7 (fun hs21 z22 => ?_)
    refine G.if_ne 10 15 dX9_send_10 (by decide) (fun h23 => ?_) (fun h23 => ?_)
    · replace hf := (if_neg h23).symm.trans hf
      exact b_X9_send_15 Z X hR hq x1 hs21 hf
    · replace hf := (if_pos h23).symm.trans hf
      refine G.iconst 13 (-1 : Int32) dX9_send_13 (by decide +kernel) ?_
      (have hf9 := Option.some.inj hf; subst hf9)
      exact G.rI 14 hq dX9_send_14 hs21
abbrev Y_X9_set : My := (cX9_set, RX9, 3)
def rm_X9_set : Room := { frames := 2, cells := 0, slots := 0, locals := 225 }
theorem dX9_set_0 : decode cX9_set 0 = .ok (.iload_n 1, 1) := by decide +kernel
theorem dX9_set_1 : decode cX9_set 1 = .ok (.i2l, 1) := by decide +kernel
theorem dX9_set_2 : decode cX9_set 2 = .ok (.lconst 0, 1) := by decide +kernel
theorem dX9_set_3 : decode cX9_set 3 = .ok (.ldc2_w 83, 3) := by decide +kernel
theorem dX9_set_6 : decode cX9_set 6 = .ok (.invokestatic 62, 3) := by decide +kernel
theorem dX9_set_9 : decode cX9_set 9 = .ok (.ifCond .eq 49, 3) := by decide +kernel
theorem dX9_set_12 : decode cX9_set 12 = .ok (.iload_n 2, 1) := by decide +kernel
theorem dX9_set_13 : decode cX9_set 13 = .ok (.i2l, 1) := by decide +kernel
theorem dX9_set_14 : decode cX9_set 14 = .ok (.lconst 0, 1) := by decide +kernel
theorem dX9_set_15 : decode cX9_set 15 = .ok (.iload_n 1, 1) := by decide +kernel
theorem dX9_set_16 : decode cX9_set 16 = .ok (.ifCond .ne 9, 3) := by decide +kernel
theorem dX9_set_19 : decode cX9_set 19 = .ok (.ldc2_w 83, 3) := by decide +kernel
theorem dX9_set_22 : decode cX9_set 22 = .ok (.goto 17, 3) := by decide +kernel
theorem dX9_set_25 : decode cX9_set 25 = .ok (.iload_n 1, 1) := by decide +kernel
theorem dX9_set_26 : decode cX9_set 26 = .ok (.iconst 3, 1) := by decide +kernel
theorem dX9_set_27 : decode cX9_set 27 = .ok (.if_icmp .ne 9, 3) := by decide +kernel
theorem dX9_set_30 : decode cX9_set 30 = .ok (.ldc2_w 85, 3) := by decide +kernel
theorem dX9_set_33 : decode cX9_set 33 = .ok (.goto 6, 3) := by decide +kernel
theorem dX9_set_36 : decode cX9_set 36 = .ok (.ldc2_w 70, 3) := by decide +kernel
theorem dX9_set_39 : decode cX9_set 39 = .ok (.invokestatic 62, 3) := by decide +kernel
theorem dX9_set_42 : decode cX9_set 42 = .ok (.ifCond .eq 16, 3) := by decide +kernel
theorem dX9_set_45 : decode cX9_set 45 = .ok (.aload_n 0, 1) := by decide +kernel
theorem dX9_set_46 : decode cX9_set 46 = .ok (.sipush 360, 3) := by decide +kernel
theorem dX9_set_49 : decode cX9_set 49 = .ok (.iload_n 1, 1) := by decide +kernel
theorem dX9_set_50 : decode cX9_set 50 = .ok (.iadd, 1) := by decide +kernel
theorem dX9_set_51 : decode cX9_set 51 = .ok (.iload_n 2, 1) := by decide +kernel
theorem dX9_set_52 : decode cX9_set 52 = .ok (.invokevirtual 80, 3) := by decide +kernel
theorem dX9_set_55 : decode cX9_set 55 = .ok (.goto 4, 3) := by decide +kernel
theorem dX9_set_58 : decode cX9_set 58 = .ok (.iconst (-1), 1) := by decide +kernel
theorem dX9_set_59 : decode cX9_set 59 = .ok (.ireturn, 1) := by decide +kernel
def f_X9_set (x1 : Int32) (x2 : Int32) (M : Mem) : Option (Int32 × Mem) := if (f_X9_isIn x1.toInt64 (0 : Int64) (9 : Int64)) = 0 then some ((-1 : Int32), M) else if x1 = 0 then if (f_X9_isIn x2.toInt64 (0 : Int64) (9 : Int64)) = 0 then some ((-1 : Int32), M) else (f_X9_becomes ((360 : Int32) + x1) x2 M).bind fun q25 => some (q25.1, q25.2) else if x1 = (3 : Int32) then if (f_X9_isIn x2.toInt64 (0 : Int64) (30 : Int64)) = 0 then some ((-1 : Int32), M) else (f_X9_becomes ((360 : Int32) + x1) x2 M).bind fun q18 => some (q18.1, q18.2) else if (f_X9_isIn x2.toInt64 (0 : Int64) (100 : Int64)) = 0 then some ((-1 : Int32), M) else (f_X9_becomes ((360 : Int32) + x1) x2 M).bind fun q11 => some (q11.1, q11.2)
set_option maxRecDepth 100000 in
set_option maxHeartbeats 4000000 in
theorem c_X9_set (Z : Sys) {M : Mem} (hs : St M) (x1 : Int32) (x2 : Int32) {q : Int32 × Mem} (hf : f_X9_set x1 x2 M = some q) : Ct Z yX9_set cX9_set 3 (some .int) rm_X9_set [.ref (zs Z + 284), .int x1, .int x2] M False (PostI q.1 q.2) := by
  refine Ct.of (by decide +kernel) (Nat.le_of_ble_eq_true rfl) (fun X hR hq _ => ?_)
  show G Z X Y_X9_set False 0 0 0 [(0, .ref (zs Z + 284)), (1, .int x1), (2, .int x2)] [] M
  replace hq : RetOk Z X (some .int) False (PostI q.1 q.2) 0 0 := hq
  unfold f_X9_set at hf
  refine G.iload_n 0 1 dX9_set_0 rfl rfl ?_
  refine G.i2l 1 dX9_set_1 ?_
  refine G.lconst 2 (0 : Int64) dX9_set_2 (by decide +kernel) ?_
  refine G.ldc2 3 (9 : Int64) wd_1428 dX9_set_3 ?_
  refine G.csZ 6 (As := [.long x1.toInt64, .long (0 : Int64), .long (9 : Int64)]) (c_X9_isIn Z hs x1.toInt64 (0 : Int64) (9 : Int64) rfl) mk_X9_isIn wd_1400 wd_1399 hR (by decide +kernel) ⟨rfl, rfl⟩ rfl (Nat.le_of_ble_eq_true rfl) dX9_set_6 (fun hs1 z2 => ?_)
  refine G.if_eq 9 58 dX9_set_9 (by decide) (fun h3 => ?_) (fun h3 => ?_)
  · replace hf := (if_pos h3).symm.trans hf
    refine G.iconst 58 (-1 : Int32) dX9_set_58 (by decide +kernel) ?_
    (have hf9 := Option.some.inj hf; subst hf9)
    exact G.rI 59 hq dX9_set_59 hs1
  · replace hf := (if_neg h3).symm.trans hf
    refine G.iload_n 12 2 dX9_set_12 rfl rfl ?_
    refine G.i2l 13 dX9_set_13 ?_
    refine G.lconst 14 (0 : Int64) dX9_set_14 (by decide +kernel) ?_
    refine G.iload_n 15 1 dX9_set_15 rfl rfl ?_
    refine G.if_ne 16 25 dX9_set_16 (by decide) (fun h4 => ?_) (fun h4 => ?_)
    · replace hf := (if_neg h4).symm.trans hf
      refine G.iload_n 25 1 dX9_set_25 rfl rfl ?_
      refine G.iconst 26 (3 : Int32) dX9_set_26 (by decide +kernel) ?_
      refine G.icmp_ne 27 36 dX9_set_27 (by decide) (fun h5 => ?_) (fun h5 => ?_)
      · replace hf := (if_neg h5).symm.trans hf
        refine G.ldc2 36 (100 : Int64) wd_1402 dX9_set_36 ?_
        refine G.csZ 39 (As := [.long x2.toInt64, .long (0 : Int64), .long (100 : Int64)]) (c_X9_isIn Z hs1 x2.toInt64 (0 : Int64) (100 : Int64) rfl) mk_X9_isIn wd_1400 wd_1399 hR (by decide +kernel) ⟨rfl, rfl⟩ rfl (Nat.le_of_ble_eq_true rfl) dX9_set_39 (fun hs6 z7 => ?_)
        refine G.if_eq 42 58 dX9_set_42 (by decide) (fun h8 => ?_) (fun h8 => ?_)
        · replace hf := (if_pos h8).symm.trans hf
          refine G.iconst 58 (-1 : Int32) dX9_set_58 (by decide +kernel) ?_
          (have hf9 := Option.some.inj hf; subst hf9)
          exact G.rI 59 hq dX9_set_59 hs6
        · replace hf := (if_neg h8).symm.trans hf
          refine G.aload_n 45 0 dX9_set_45 rfl rfl ?_
          refine G.sipush 46 (360 : Int32) dX9_set_46 (by decide +kernel) ?_
          refine G.iload_n 49 1 dX9_set_49 rfl rfl ?_
          refine G.iadd 50 dX9_set_50 ?_
          refine G.iload_n 51 2 dX9_set_51 rfl rfl ?_
          obtain ⟨q11, e12, hf⟩ := bd_e hf
          refine G.cvI 52 (As := [.int ((360 : Int32) + x1), .int x2]) ck_9 (hs6.k k0_284) (c_X9_becomes Z hs6 ((360 : Int32) + x1) x2 e12) mk_X9_becomes vk_X9_becomes rfl wd_1415 hR (by decide +kernel) ⟨rfl, rfl⟩ rfl (Nat.le_of_ble_eq_true rfl) dX9_set_52 (fun hs9 => ?_)
          refine G.goto 55 59 dX9_set_55 (by decide) ?_
          (have hf9 := Option.some.inj hf; subst hf9)
          exact G.rI 59 hq dX9_set_59 hs9
      · replace hf := (if_pos h5).symm.trans hf
        refine G.ldc2 30 (30 : Int64) wd_1429 dX9_set_30 ?_
        refine G.goto 33 39 dX9_set_33 (by decide) ?_
        refine G.csZ 39 (As := [.long x2.toInt64, .long (0 : Int64), .long (30 : Int64)]) (c_X9_isIn Z hs1 x2.toInt64 (0 : Int64) (30 : Int64) rfl) mk_X9_isIn wd_1400 wd_1399 hR (by decide +kernel) ⟨rfl, rfl⟩ rfl (Nat.le_of_ble_eq_true rfl) dX9_set_39 (fun hs13 z14 => ?_)
        refine G.if_eq 42 58 dX9_set_42 (by decide) (fun h15 => ?_) (fun h15 => ?_)
        · replace hf := (if_pos h15).symm.trans hf
          refine G.iconst 58 (-1 : Int32) dX9_set_58 (by decide +kernel) ?_
          (have hf9 := Option.some.inj hf; subst hf9)
          exact G.rI 59 hq dX9_set_59 hs13
        · replace hf := (if_neg h15).symm.trans hf
          refine G.aload_n 45 0 dX9_set_45 rfl rfl ?_
          refine G.sipush 46 (360 : Int32) dX9_set_46 (by decide +kernel) ?_
          refine G.iload_n 49 1 dX9_set_49 rfl rfl ?_
          refine G.iadd 50 dX9_set_50 ?_
          refine G.iload_n 51 2 dX9_set_51 rfl rfl ?_
          obtain ⟨q18, e19, hf⟩ := bd_e hf
          refine G.cvI 52 (As := [.int ((360 : Int32) + x1), .int x2]) ck_9 (hs13.k k0_284) (c_X9_becomes Z hs13 ((360 : Int32) + x1) x2 e19) mk_X9_becomes vk_X9_becomes rfl wd_1415 hR (by decide +kernel) ⟨rfl, rfl⟩ rfl (Nat.le_of_ble_eq_true rfl) dX9_set_52 (fun hs16 => ?_)
          refine G.goto 55 59 dX9_set_55 (by decide) ?_
          (have hf9 := Option.some.inj hf; subst hf9)
          exact G.rI 59 hq dX9_set_59 hs16
    · replace hf := (if_pos h4).symm.trans hf
      refine G.ldc2 19 (9 : Int64) wd_1428 dX9_set_19 ?_
      refine G.goto 22 39 dX9_set_22 (by decide) ?_
      refine G.csZ 39 (As := [.long x2.toInt64, .long (0 : Int64), .long (9 : Int64)]) (c_X9_isIn Z hs1 x2.toInt64 (0 : Int64) (9 : Int64) rfl) mk_X9_isIn wd_1400 wd_1399 hR (by decide +kernel) ⟨rfl, rfl⟩ rfl (Nat.le_of_ble_eq_true rfl) dX9_set_39 (fun hs20 z21 => ?_)
      refine G.if_eq 42 58 dX9_set_42 (by decide) (fun h22 => ?_) (fun h22 => ?_)
      · replace hf := (if_pos h22).symm.trans hf
        refine G.iconst 58 (-1 : Int32) dX9_set_58 (by decide +kernel) ?_
        (have hf9 := Option.some.inj hf; subst hf9)
        exact G.rI 59 hq dX9_set_59 hs20
      · replace hf := (if_neg h22).symm.trans hf
        refine G.aload_n 45 0 dX9_set_45 rfl rfl ?_
        refine G.sipush 46 (360 : Int32) dX9_set_46 (by decide +kernel) ?_
        refine G.iload_n 49 1 dX9_set_49 rfl rfl ?_
        refine G.iadd 50 dX9_set_50 ?_
        refine G.iload_n 51 2 dX9_set_51 rfl rfl ?_
        obtain ⟨q25, e26, hf⟩ := bd_e hf
        refine G.cvI 52 (As := [.int ((360 : Int32) + x1), .int x2]) ck_9 (hs20.k k0_284) (c_X9_becomes Z hs20 ((360 : Int32) + x1) x2 e26) mk_X9_becomes vk_X9_becomes rfl wd_1415 hR (by decide +kernel) ⟨rfl, rfl⟩ rfl (Nat.le_of_ble_eq_true rfl) dX9_set_52 (fun hs23 => ?_)
        refine G.goto 55 59 dX9_set_55 (by decide) ?_
        (have hf9 := Option.some.inj hf; subst hf9)
        exact G.rI 59 hq dX9_set_59 hs23
abbrev Y_X9_sheet : My := (cX9_sheet, RX9, 4)
def rm_X9_sheet : Room := { frames := 3, cells := 0, slots := 0, locals := 246 }
theorem dX9_sheet_0 : decode cX9_sheet 0 = .ok (.aload_n 0, 1) := by decide +kernel
theorem dX9_sheet_1 : decode cX9_sheet 1 = .ok (.iload_n 1, 1) := by decide +kernel
theorem dX9_sheet_2 : decode cX9_sheet 2 = .ok (.invokevirtual 72, 3) := by decide +kernel
theorem dX9_sheet_5 : decode cX9_sheet 5 = .ok (.ifCond .eq 27, 3) := by decide +kernel
theorem dX9_sheet_8 : decode cX9_sheet 8 = .ok (.iload_n 2, 1) := by decide +kernel
theorem dX9_sheet_9 : decode cX9_sheet 9 = .ok (.i2l, 1) := by decide +kernel
theorem dX9_sheet_10 : decode cX9_sheet 10 = .ok (.lconst 0, 1) := by decide +kernel
theorem dX9_sheet_11 : decode cX9_sheet 11 = .ok (.ldc2_w 66, 3) := by decide +kernel
theorem dX9_sheet_14 : decode cX9_sheet 14 = .ok (.invokestatic 62, 3) := by decide +kernel
theorem dX9_sheet_17 : decode cX9_sheet 17 = .ok (.ifCond .eq 15, 3) := by decide +kernel
theorem dX9_sheet_20 : decode cX9_sheet 20 = .ok (.iload_n 3, 1) := by decide +kernel
theorem dX9_sheet_21 : decode cX9_sheet 21 = .ok (.i2l, 1) := by decide +kernel
theorem dX9_sheet_22 : decode cX9_sheet 22 = .ok (.lconst 0, 1) := by decide +kernel
theorem dX9_sheet_23 : decode cX9_sheet 23 = .ok (.ldc2_w 68, 3) := by decide +kernel
theorem dX9_sheet_26 : decode cX9_sheet 26 = .ok (.invokestatic 62, 3) := by decide +kernel
theorem dX9_sheet_29 : decode cX9_sheet 29 = .ok (.ifCond .ne 5, 3) := by decide +kernel
theorem dX9_sheet_32 : decode cX9_sheet 32 = .ok (.iconst (-1), 1) := by decide +kernel
theorem dX9_sheet_33 : decode cX9_sheet 33 = .ok (.ireturn, 1) := by decide +kernel
theorem dX9_sheet_34 : decode cX9_sheet 34 = .ok (.aload_n 0, 1) := by decide +kernel
theorem dX9_sheet_35 : decode cX9_sheet 35 = .ok (.getfield 9, 3) := by decide +kernel
theorem dX9_sheet_38 : decode cX9_sheet 38 = .ok (.bipush 12, 2) := by decide +kernel
theorem dX9_sheet_40 : decode cX9_sheet 40 = .ok (.iload_n 1, 1) := by decide +kernel
theorem dX9_sheet_41 : decode cX9_sheet 41 = .ok (.imul, 1) := by decide +kernel
theorem dX9_sheet_42 : decode cX9_sheet 42 = .ok (.bipush 8, 2) := by decide +kernel
theorem dX9_sheet_44 : decode cX9_sheet 44 = .ok (.iadd, 1) := by decide +kernel
theorem dX9_sheet_45 : decode cX9_sheet 45 = .ok (.iload_n 3, 1) := by decide +kernel
theorem dX9_sheet_46 : decode cX9_sheet 46 = .ok (.iastore, 1) := by decide +kernel
theorem dX9_sheet_47 : decode cX9_sheet 47 = .ok (.aload_n 0, 1) := by decide +kernel
theorem dX9_sheet_48 : decode cX9_sheet 48 = .ok (.bipush 12, 2) := by decide +kernel
theorem dX9_sheet_50 : decode cX9_sheet 50 = .ok (.iload_n 1, 1) := by decide +kernel
theorem dX9_sheet_51 : decode cX9_sheet 51 = .ok (.imul, 1) := by decide +kernel
theorem dX9_sheet_52 : decode cX9_sheet 52 = .ok (.bipush 7, 2) := by decide +kernel
theorem dX9_sheet_54 : decode cX9_sheet 54 = .ok (.iadd, 1) := by decide +kernel
theorem dX9_sheet_55 : decode cX9_sheet 55 = .ok (.iload_n 2, 1) := by decide +kernel
theorem dX9_sheet_56 : decode cX9_sheet 56 = .ok (.invokevirtual 80, 3) := by decide +kernel
theorem dX9_sheet_59 : decode cX9_sheet 59 = .ok (.ireturn, 1) := by decide +kernel
def f_X9_sheet (x1 : Int32) (x2 : Int32) (x3 : Int32) (M : Mem) : Option (Int32 × Mem) := if (f_X9_isHall x1 M) = 0 then some ((-1 : Int32), M) else if (f_X9_isIn x2.toInt64 (0 : Int64) (7 : Int64)) = 0 then some ((-1 : Int32), M) else if (f_X9_isIn x3.toInt64 (0 : Int64) (999 : Int64)) = 0 then some ((-1 : Int32), M) else gd (inR (((12 : Int32) * x1) + (8 : Int32)) 1194) ((f_X9_becomes (((12 : Int32) * x1) + (7 : Int32)) x2 (sI M 285 (((12 : Int32) * x1) + (8 : Int32)).toNatClampNeg x3)).bind fun q13 => some (q13.1, q13.2))
set_option maxRecDepth 100000 in
set_option maxHeartbeats 4000000 in
theorem c_X9_sheet (Z : Sys) {M : Mem} (hs : St M) (x1 : Int32) (x2 : Int32) (x3 : Int32) {q : Int32 × Mem} (hf : f_X9_sheet x1 x2 x3 M = some q) : Ct Z yX9_sheet cX9_sheet 4 (some .int) rm_X9_sheet [.ref (zs Z + 284), .int x1, .int x2, .int x3] M False (PostI q.1 q.2) := by
  refine Ct.of (by decide +kernel) (Nat.le_of_ble_eq_true rfl) (fun X hR hq _ => ?_)
  show G Z X Y_X9_sheet False 0 0 0 [(0, .ref (zs Z + 284)), (1, .int x1), (2, .int x2), (3, .int x3)] [] M
  replace hq : RetOk Z X (some .int) False (PostI q.1 q.2) 0 0 := hq
  unfold f_X9_sheet at hf
  refine G.aload_n 0 0 dX9_sheet_0 rfl rfl ?_
  refine G.iload_n 1 1 dX9_sheet_1 rfl rfl ?_
  refine G.cvZ 2 (As := [.int x1]) ck_9 (hs.k k0_284) (c_X9_isHall Z hs x1 rfl) mk_X9_isHall vk_X9_isHall rfl wd_1407 hR (by decide +kernel) ⟨rfl, rfl⟩ rfl (Nat.le_of_ble_eq_true rfl) dX9_sheet_2 (fun hs1 z2 => ?_)
  refine G.if_eq 5 32 dX9_sheet_5 (by decide) (fun h3 => ?_) (fun h3 => ?_)
  · replace hf := (if_pos h3).symm.trans hf
    refine G.iconst 32 (-1 : Int32) dX9_sheet_32 (by decide +kernel) ?_
    (have hf9 := Option.some.inj hf; subst hf9)
    exact G.rI 33 hq dX9_sheet_33 hs1
  · replace hf := (if_neg h3).symm.trans hf
    refine G.iload_n 8 2 dX9_sheet_8 rfl rfl ?_
    refine G.i2l 9 dX9_sheet_9 ?_
    refine G.lconst 10 (0 : Int64) dX9_sheet_10 (by decide +kernel) ?_
    refine G.ldc2 11 (7 : Int64) wd_1423 dX9_sheet_11 ?_
    refine G.csZ 14 (As := [.long x2.toInt64, .long (0 : Int64), .long (7 : Int64)]) (c_X9_isIn Z hs1 x2.toInt64 (0 : Int64) (7 : Int64) rfl) mk_X9_isIn wd_1400 wd_1399 hR (by decide +kernel) ⟨rfl, rfl⟩ rfl (Nat.le_of_ble_eq_true rfl) dX9_sheet_14 (fun hs4 z5 => ?_)
    refine G.if_eq 17 32 dX9_sheet_17 (by decide) (fun h6 => ?_) (fun h6 => ?_)
    · replace hf := (if_pos h6).symm.trans hf
      refine G.iconst 32 (-1 : Int32) dX9_sheet_32 (by decide +kernel) ?_
      (have hf9 := Option.some.inj hf; subst hf9)
      exact G.rI 33 hq dX9_sheet_33 hs4
    · replace hf := (if_neg h6).symm.trans hf
      refine G.iload_n 20 3 dX9_sheet_20 rfl rfl ?_
      refine G.i2l 21 dX9_sheet_21 ?_
      refine G.lconst 22 (0 : Int64) dX9_sheet_22 (by decide +kernel) ?_
      refine G.ldc2 23 (999 : Int64) wd_1398 dX9_sheet_23 ?_
      refine G.csZ 26 (As := [.long x3.toInt64, .long (0 : Int64), .long (999 : Int64)]) (c_X9_isIn Z hs4 x3.toInt64 (0 : Int64) (999 : Int64) rfl) mk_X9_isIn wd_1400 wd_1399 hR (by decide +kernel) ⟨rfl, rfl⟩ rfl (Nat.le_of_ble_eq_true rfl) dX9_sheet_26 (fun hs7 z8 => ?_)
      refine G.if_ne 29 34 dX9_sheet_29 (by decide) (fun h9 => ?_) (fun h9 => ?_)
      · replace hf := (if_neg h9).symm.trans hf
        refine G.aload_n 34 0 dX9_sheet_34 rfl rfl ?_
        refine G.getp 35 ck_9 0 285 (hs7.k k0_284) (pc_9_0 hs7) (by decide) (by decide +kernel) wd_1305 dX9_sheet_35 ?_
        refine G.bipush 38 (12 : Int32) dX9_sheet_38 (by decide +kernel) ?_
        refine G.iload_n 40 1 dX9_sheet_40 rfl rfl ?_
        refine G.imul 41 dX9_sheet_41 ?_
        refine G.bipush 42 (8 : Int32) dX9_sheet_42 (by decide +kernel) ?_
        refine G.iadd 44 dX9_sheet_44 ?_
        refine G.iload_n 45 3 dX9_sheet_45 rfl rfl ?_
        obtain ⟨g10, hf⟩ := gd_e hf
        refine G.ist 46 (((12 : Int32) * x1) + (8 : Int32)).toNatClampNeg (hs7.k k0_285) g10 rfl dX9_sheet_46 ?_
        refine G.aload_n 47 0 dX9_sheet_47 rfl rfl ?_
        refine G.bipush 48 (12 : Int32) dX9_sheet_48 (by decide +kernel) ?_
        refine G.iload_n 50 1 dX9_sheet_50 rfl rfl ?_
        refine G.imul 51 dX9_sheet_51 ?_
        refine G.bipush 52 (7 : Int32) dX9_sheet_52 (by decide +kernel) ?_
        refine G.iadd 54 dX9_sheet_54 ?_
        refine G.iload_n 55 2 dX9_sheet_55 rfl rfl ?_
        obtain ⟨q13, e14, hf⟩ := bd_e hf
        refine G.cvI 56 (As := [.int (((12 : Int32) * x1) + (7 : Int32)), .int x2]) ck_9 ((St.i hs7).k k0_284) (c_X9_becomes Z (St.i hs7) (((12 : Int32) * x1) + (7 : Int32)) x2 e14) mk_X9_becomes vk_X9_becomes rfl wd_1415 hR (by decide +kernel) ⟨rfl, rfl⟩ rfl (Nat.le_of_ble_eq_true rfl) dX9_sheet_56 (fun hs11 => ?_)
        (have hf9 := Option.some.inj hf; subst hf9)
        exact G.rI 59 hq dX9_sheet_59 hs11
      · replace hf := (if_pos h9).symm.trans hf
        refine G.iconst 32 (-1 : Int32) dX9_sheet_32 (by decide +kernel) ?_
        (have hf9 := Option.some.inj hf; subst hf9)
        exact G.rI 33 hq dX9_sheet_33 hs7
