abbrev Y_X3_takeSign : My := (cX3_takeSign, RX3, 2)
def rm_X3_takeSign : Room := { frames := 4, cells := 0, slots := 0, locals := 260 }
theorem dX3_takeSign_0 : decode cX3_takeSign 0 = .ok (.iload_n 1, 1) := by decide +kernel
theorem dX3_takeSign_1 : decode cX3_takeSign 1 = .ok (.tableswitch 208 33 62 #[179, 208, 208, 208, 135, 208, 208, 208, 208, 135, 143, 208, 143, 208, 208, 208, 208, 208, 208, 208, 208, 208, 208, 208, 208, 208, 208, 155, 155, 155], 135) := by decide +kernel
theorem dX3_takeSign_136 : decode cX3_takeSign 136 = .ok (.aload_n 0, 1) := by decide +kernel
theorem dX3_takeSign_137 : decode cX3_takeSign 137 = .ok (.iload_n 1, 1) := by decide +kernel
theorem dX3_takeSign_138 : decode cX3_takeSign 138 = .ok (.putfield 105, 3) := by decide +kernel
theorem dX3_takeSign_141 : decode cX3_takeSign 141 = .ok (.goto 77, 3) := by decide +kernel
theorem dX3_takeSign_144 : decode cX3_takeSign 144 = .ok (.aload_n 0, 1) := by decide +kernel
theorem dX3_takeSign_145 : decode cX3_takeSign 145 = .ok (.invokevirtual 108, 3) := by decide +kernel
theorem dX3_takeSign_148 : decode cX3_takeSign 148 = .ok (.aload_n 0, 1) := by decide +kernel
theorem dX3_takeSign_149 : decode cX3_takeSign 149 = .ok (.iload_n 1, 1) := by decide +kernel
theorem dX3_takeSign_150 : decode cX3_takeSign 150 = .ok (.putfield 96, 3) := by decide +kernel
theorem dX3_takeSign_153 : decode cX3_takeSign 153 = .ok (.goto 65, 3) := by decide +kernel
theorem dX3_takeSign_156 : decode cX3_takeSign 156 = .ok (.aload_n 0, 1) := by decide +kernel
theorem dX3_takeSign_157 : decode cX3_takeSign 157 = .ok (.invokevirtual 108, 3) := by decide +kernel
theorem dX3_takeSign_160 : decode cX3_takeSign 160 = .ok (.aload_n 0, 1) := by decide +kernel
theorem dX3_takeSign_161 : decode cX3_takeSign 161 = .ok (.aload_n 0, 1) := by decide +kernel
theorem dX3_takeSign_162 : decode cX3_takeSign 162 = .ok (.getfield 93, 3) := by decide +kernel
theorem dX3_takeSign_165 : decode cX3_takeSign 165 = .ok (.putfield 111, 3) := by decide +kernel
theorem dX3_takeSign_168 : decode cX3_takeSign 168 = .ok (.aload_n 0, 1) := by decide +kernel
theorem dX3_takeSign_169 : decode cX3_takeSign 169 = .ok (.iload_n 1, 1) := by decide +kernel
theorem dX3_takeSign_170 : decode cX3_takeSign 170 = .ok (.putfield 31, 3) := by decide +kernel
theorem dX3_takeSign_173 : decode cX3_takeSign 173 = .ok (.aload_n 0, 1) := by decide +kernel
theorem dX3_takeSign_174 : decode cX3_takeSign 174 = .ok (.invokevirtual 28, 3) := by decide +kernel
theorem dX3_takeSign_177 : decode cX3_takeSign 177 = .ok (.goto 41, 3) := by decide +kernel
theorem dX3_takeSign_180 : decode cX3_takeSign 180 = .ok (.aload_n 0, 1) := by decide +kernel
theorem dX3_takeSign_181 : decode cX3_takeSign 181 = .ok (.getfield 18, 3) := by decide +kernel
theorem dX3_takeSign_184 : decode cX3_takeSign 184 = .ok (.aload_n 0, 1) := by decide +kernel
theorem dX3_takeSign_185 : decode cX3_takeSign 185 = .ok (.getfield 21, 3) := by decide +kernel
theorem dX3_takeSign_188 : decode cX3_takeSign 188 = .ok (.aload_n 0, 1) := by decide +kernel
theorem dX3_takeSign_189 : decode cX3_takeSign 189 = .ok (.getfield 18, 3) := by decide +kernel
theorem dX3_takeSign_192 : decode cX3_takeSign 192 = .ok (.aload_n 0, 1) := by decide +kernel
theorem dX3_takeSign_193 : decode cX3_takeSign 193 = .ok (.getfield 21, 3) := by decide +kernel
theorem dX3_takeSign_196 : decode cX3_takeSign 196 = .ok (.baload, 1) := by decide +kernel
theorem dX3_takeSign_197 : decode cX3_takeSign 197 = .ok (.ifCond .ne 7, 3) := by decide +kernel
theorem dX3_takeSign_200 : decode cX3_takeSign 200 = .ok (.iconst 1, 1) := by decide +kernel
theorem dX3_takeSign_201 : decode cX3_takeSign 201 = .ok (.goto 4, 3) := by decide +kernel
theorem dX3_takeSign_204 : decode cX3_takeSign 204 = .ok (.iconst 0, 1) := by decide +kernel
theorem dX3_takeSign_205 : decode cX3_takeSign 205 = .ok (.bastore, 1) := by decide +kernel
theorem dX3_takeSign_206 : decode cX3_takeSign 206 = .ok (.goto 12, 3) := by decide +kernel
theorem dX3_takeSign_209 : decode cX3_takeSign 209 = .ok (.aload_n 0, 1) := by decide +kernel
theorem dX3_takeSign_210 : decode cX3_takeSign 210 = .ok (.invokevirtual 59, 3) := by decide +kernel
theorem dX3_takeSign_213 : decode cX3_takeSign 213 = .ok (.aload_n 0, 1) := by decide +kernel
theorem dX3_takeSign_214 : decode cX3_takeSign 214 = .ok (.iload_n 1, 1) := by decide +kernel
theorem dX3_takeSign_215 : decode cX3_takeSign 215 = .ok (.invokevirtual 114, 3) := by decide +kernel
theorem dX3_takeSign_218 : decode cX3_takeSign 218 = .ok (.return_, 1) := by decide +kernel
def f_X3_takeSign (a0 : Nat) (x1 : Int32) (M : Mem) : Option Mem := if x1 = (33 : Int32) then gd (inR (mI M a0 3) 9) (if (mI M (a0 + 3) (mI M a0 3).toNatClampNeg) = 0 then some (sI M (a0 + 3) (mI M a0 3).toNatClampNeg (1 : Int32)) else some (sI M (a0 + 3) (mI M a0 3).toNatClampNeg (0 : Int32))) else if x1 = (34 : Int32) then (f_X3_endTest a0 M).bind fun q7 => (f_X3_takeJoint a0 x1 q7).bind fun q11 => some q11 else if x1 = (35 : Int32) then (f_X3_endTest a0 M).bind fun q16 => (f_X3_takeJoint a0 x1 q16).bind fun q20 => some q20 else if x1 = (36 : Int32) then (f_X3_endTest a0 M).bind fun q25 => (f_X3_takeJoint a0 x1 q25).bind fun q29 => some q29 else if x1 = (37 : Int32) then some (sI M a0 9 x1) else if x1 = (38 : Int32) then (f_X3_endTest a0 M).bind fun q35 => (f_X3_takeJoint a0 x1 q35).bind fun q39 => some q39 else if x1 = (39 : Int32) then (f_X3_endTest a0 M).bind fun q44 => (f_X3_takeJoint a0 x1 q44).bind fun q48 => some q48 else if x1 = (40 : Int32) then (f_X3_endTest a0 M).bind fun q53 => (f_X3_takeJoint a0 x1 q53).bind fun q57 => some q57 else if x1 = (41 : Int32) then (f_X3_endTest a0 M).bind fun q62 => (f_X3_takeJoint a0 x1 q62).bind fun q66 => some q66 else if x1 = (42 : Int32) then some (sI M a0 9 x1) else if x1 = (43 : Int32) then (f_X3_endProduct a0 M).bind fun q72 => some (sI q72 a0 7 x1) else if x1 = (44 : Int32) then (f_X3_endTest a0 M).bind fun q77 => (f_X3_takeJoint a0 x1 q77).bind fun q81 => some q81 else if x1 = (45 : Int32) then (f_X3_endProduct a0 M).bind fun q86 => some (sI q86 a0 7 x1) else if x1 = (46 : Int32) then (f_X3_endTest a0 M).bind fun q91 => (f_X3_takeJoint a0 x1 q91).bind fun q95 => some q95 else if x1 = (47 : Int32) then (f_X3_endTest a0 M).bind fun q100 => (f_X3_takeJoint a0 x1 q100).bind fun q104 => some q104 else if x1 = (48 : Int32) then (f_X3_endTest a0 M).bind fun q109 => (f_X3_takeJoint a0 x1 q109).bind fun q113 => some q113 else if x1 = (49 : Int32) then (f_X3_endTest a0 M).bind fun q118 => (f_X3_takeJoint a0 x1 q118).bind fun q122 => some q122 else if x1 = (50 : Int32) then (f_X3_endTest a0 M).bind fun q127 => (f_X3_takeJoint a0 x1 q127).bind fun q131 => some q131 else if x1 = (51 : Int32) then (f_X3_endTest a0 M).bind fun q136 => (f_X3_takeJoint a0 x1 q136).bind fun q140 => some q140 else if x1 = (52 : Int32) then (f_X3_endTest a0 M).bind fun q145 => (f_X3_takeJoint a0 x1 q145).bind fun q149 => some q149 else if x1 = (53 : Int32) then (f_X3_endTest a0 M).bind fun q154 => (f_X3_takeJoint a0 x1 q154).bind fun q158 => some q158 else if x1 = (54 : Int32) then (f_X3_endTest a0 M).bind fun q163 => (f_X3_takeJoint a0 x1 q163).bind fun q167 => some q167 else if x1 = (55 : Int32) then (f_X3_endTest a0 M).bind fun q172 => (f_X3_takeJoint a0 x1 q172).bind fun q176 => some q176 else if x1 = (56 : Int32) then (f_X3_endTest a0 M).bind fun q181 => (f_X3_takeJoint a0 x1 q181).bind fun q185 => some q185 else if x1 = (57 : Int32) then (f_X3_endTest a0 M).bind fun q190 => (f_X3_takeJoint a0 x1 q190).bind fun q194 => some q194 else if x1 = (58 : Int32) then (f_X3_endTest a0 M).bind fun q199 => (f_X3_takeJoint a0 x1 q199).bind fun q203 => some q203 else if x1 = (59 : Int32) then (f_X3_endTest a0 M).bind fun q208 => (f_X3_takeJoint a0 x1 q208).bind fun q212 => some q212 else if x1 = (60 : Int32) then (f_X3_endProduct a0 M).bind fun q217 => (f_X3_beginSum a0 (sI (sI q217 a0 4 (mI q217 a0 6)) a0 5 x1)).bind fun q221 => some q221 else if x1 = (61 : Int32) then (f_X3_endProduct a0 M).bind fun q226 => (f_X3_beginSum a0 (sI (sI q226 a0 4 (mI q226 a0 6)) a0 5 x1)).bind fun q230 => some q230 else if x1 = (62 : Int32) then (f_X3_endProduct a0 M).bind fun q235 => (f_X3_beginSum a0 (sI (sI q235 a0 4 (mI q235 a0 6)) a0 5 x1)).bind fun q239 => some q239 else (f_X3_endTest a0 M).bind fun q243 => (f_X3_takeJoint a0 x1 q243).bind fun q247 => some q247
set_option maxRecDepth 100000 in
set_option maxHeartbeats 4000000 in
theorem c_X3_takeSign (Z : Sys) {M : Mem} (hs : St M) (a0 : Nat) (x1 : Int32) (k_a0 : K0[a0]? = some (3, 11)) {q : Mem} (hf : f_X3_takeSign a0 x1 M = some q) : Ct Z yX3_takeSign cX3_takeSign 2 none rm_X3_takeSign [.ref (zs Z + a0), .int x1] M False (PostV q) := by
  refine Ct.of (by decide +kernel) (Nat.le_of_ble_eq_true rfl) (fun X hR hq _ => ?_)
  show G Z X Y_X3_takeSign False 0 0 0 [(0, .ref (zs Z + a0)), (1, .int x1)] [] M
  replace hq : RetOk Z X none False (PostV q) 0 0 := hq
  unfold f_X3_takeSign at hf
  refine G.iload_n 0 1 dX3_takeSign_0 rfl rfl ?_
  by_cases h1 : x1 = (33 : Int32)
  · replace hf := (if_pos h1).symm.trans hf
    refine G.tableIn 1 180 (off := 179) dX3_takeSign_1 (by rw [h1]; decide +kernel) (by rw [h1]; decide +kernel) (by rw [h1]; decide +kernel) (by decide) ?_
    refine G.aload_n 180 0 dX3_takeSign_180 rfl rfl ?_
    refine G.getp 181 ck_3 2 (a0 + 3) (hs.k k_a0) (pt_3_2 hs k_a0).1 (by decide) (by decide +kernel) wd_129 dX3_takeSign_181 ?_
    refine G.aload_n 184 0 dX3_takeSign_184 rfl rfl ?_
    refine G.geti 185 ck_3 3 (hs.k k_a0) (by decide) (by decide +kernel) wd_130 dX3_takeSign_185 ?_
    refine G.aload_n 188 0 dX3_takeSign_188 rfl rfl ?_
    refine G.getp 189 ck_3 2 (a0 + 3) (hs.k k_a0) (pt_3_2 hs k_a0).1 (by decide) (by decide +kernel) wd_129 dX3_takeSign_189 ?_
    refine G.aload_n 192 0 dX3_takeSign_192 rfl rfl ?_
    refine G.geti 193 ck_3 3 (hs.k k_a0) (by decide) (by decide +kernel) wd_130 dX3_takeSign_193 ?_
    obtain ⟨g2, hf⟩ := gd_e hf
    refine G.za 196 (mI M a0 3).toNatClampNeg (hs.k (pt_3_2 hs k_a0).2) g2 rfl dX3_takeSign_196 ?_
    refine G.if_ne 197 204 dX3_takeSign_197 (by decide) (fun h3 => ?_) (fun h3 => ?_)
    · replace hf := (if_neg h3).symm.trans hf
      refine G.iconst 204 (0 : Int32) dX3_takeSign_204 (by decide +kernel) ?_
      refine G.zt 205 (mI M a0 3).toNatClampNeg (0 : Int32) (hs.k (pt_3_2 hs k_a0).2) g2 rfl (by decide +kernel) dX3_takeSign_205 ?_
      refine G.goto 206 218 dX3_takeSign_206 (by decide) ?_
      (have hf9 := Option.some.inj hf; subst hf9)
      exact G.rV 218 hq dX3_takeSign_218 (St.i hs)
    · replace hf := (if_pos h3).symm.trans hf
      refine G.iconst 200 (1 : Int32) dX3_takeSign_200 (by decide +kernel) ?_
      refine G.goto 201 205 dX3_takeSign_201 (by decide) ?_
      refine G.zt 205 (mI M a0 3).toNatClampNeg (1 : Int32) (hs.k (pt_3_2 hs k_a0).2) g2 rfl (by decide +kernel) dX3_takeSign_205 ?_
      refine G.goto 206 218 dX3_takeSign_206 (by decide) ?_
      (have hf9 := Option.some.inj hf; subst hf9)
      exact G.rV 218 hq dX3_takeSign_218 (St.i hs)
  · replace hf := (if_neg h1).symm.trans hf
    by_cases h4 : x1 = (34 : Int32)
    · replace hf := (if_pos h4).symm.trans hf
      refine G.tableIn 1 209 (off := 208) dX3_takeSign_1 (by rw [h4]; decide +kernel) (by rw [h4]; decide +kernel) (by rw [h4]; decide +kernel) (by decide) ?_
      refine G.aload_n 209 0 dX3_takeSign_209 rfl rfl ?_
      obtain ⟨q7, e8, hf⟩ := bd_e hf
      refine G.cvV 210 (As := []) ck_3 (hs.k k_a0) (c_X3_endTest Z hs a0 k_a0 e8) mk_X3_endTest vk_X3_endTest rfl wd_1062 hR (by decide +kernel) ⟨rfl, rfl⟩ rfl (Nat.le_of_ble_eq_true rfl) dX3_takeSign_210 (fun hs5 => ?_)
      refine G.aload_n 213 0 dX3_takeSign_213 rfl rfl ?_
      refine G.iload_n 214 1 dX3_takeSign_214 rfl rfl ?_
      obtain ⟨q11, e12, hf⟩ := bd_e hf
      refine G.cvV 215 (As := [.int x1]) ck_3 (hs5.k k_a0) (c_X3_takeJoint Z hs5 a0 x1 k_a0 e12) mk_X3_takeJoint vk_X3_takeJoint rfl wd_1074 hR (by decide +kernel) ⟨rfl, rfl⟩ rfl (Nat.le_of_ble_eq_true rfl) dX3_takeSign_215 (fun hs9 => ?_)
      (have hf9 := Option.some.inj hf; subst hf9)
      exact G.rV 218 hq dX3_takeSign_218 hs9
    · replace hf := (if_neg h4).symm.trans hf
      by_cases h13 : x1 = (35 : Int32)
      · replace hf := (if_pos h13).symm.trans hf
        refine G.tableIn 1 209 (off := 208) dX3_takeSign_1 (by rw [h13]; decide +kernel) (by rw [h13]; decide +kernel) (by rw [h13]; decide +kernel) (by decide) ?_
        refine G.aload_n 209 0 dX3_takeSign_209 rfl rfl ?_
        obtain ⟨q16, e17, hf⟩ := bd_e hf
        refine G.cvV 210 (As := []) ck_3 (hs.k k_a0) (c_X3_endTest Z hs a0 k_a0 e17) mk_X3_endTest vk_X3_endTest rfl wd_1062 hR (by decide +kernel) ⟨rfl, rfl⟩ rfl (Nat.le_of_ble_eq_true rfl) dX3_takeSign_210 (fun hs14 => ?_)
        refine G.aload_n 213 0 dX3_takeSign_213 rfl rfl ?_
        refine G.iload_n 214 1 dX3_takeSign_214 rfl rfl ?_
        obtain ⟨q20, e21, hf⟩ := bd_e hf
        refine G.cvV 215 (As := [.int x1]) ck_3 (hs14.k k_a0) (c_X3_takeJoint Z hs14 a0 x1 k_a0 e21) mk_X3_takeJoint vk_X3_takeJoint rfl wd_1074 hR (by decide +kernel) ⟨rfl, rfl⟩ rfl (Nat.le_of_ble_eq_true rfl) dX3_takeSign_215 (fun hs18 => ?_)
        (have hf9 := Option.some.inj hf; subst hf9)
        exact G.rV 218 hq dX3_takeSign_218 hs18
      · replace hf := (if_neg h13).symm.trans hf
        by_cases h22 : x1 = (36 : Int32)
        · replace hf := (if_pos h22).symm.trans hf
          refine G.tableIn 1 209 (off := 208) dX3_takeSign_1 (by rw [h22]; decide +kernel) (by rw [h22]; decide +kernel) (by rw [h22]; decide +kernel) (by decide) ?_
          refine G.aload_n 209 0 dX3_takeSign_209 rfl rfl ?_
          obtain ⟨q25, e26, hf⟩ := bd_e hf
          refine G.cvV 210 (As := []) ck_3 (hs.k k_a0) (c_X3_endTest Z hs a0 k_a0 e26) mk_X3_endTest vk_X3_endTest rfl wd_1062 hR (by decide +kernel) ⟨rfl, rfl⟩ rfl (Nat.le_of_ble_eq_true rfl) dX3_takeSign_210 (fun hs23 => ?_)
          refine G.aload_n 213 0 dX3_takeSign_213 rfl rfl ?_
          refine G.iload_n 214 1 dX3_takeSign_214 rfl rfl ?_
          obtain ⟨q29, e30, hf⟩ := bd_e hf
          refine G.cvV 215 (As := [.int x1]) ck_3 (hs23.k k_a0) (c_X3_takeJoint Z hs23 a0 x1 k_a0 e30) mk_X3_takeJoint vk_X3_takeJoint rfl wd_1074 hR (by decide +kernel) ⟨rfl, rfl⟩ rfl (Nat.le_of_ble_eq_true rfl) dX3_takeSign_215 (fun hs27 => ?_)
          (have hf9 := Option.some.inj hf; subst hf9)
          exact G.rV 218 hq dX3_takeSign_218 hs27
        · replace hf := (if_neg h22).symm.trans hf
          by_cases h31 : x1 = (37 : Int32)
          · replace hf := (if_pos h31).symm.trans hf
            refine G.tableIn 1 136 (off := 135) dX3_takeSign_1 (by rw [h31]; decide +kernel) (by rw [h31]; decide +kernel) (by rw [h31]; decide +kernel) (by decide) ?_
            refine G.aload_n 136 0 dX3_takeSign_136 rfl rfl ?_
            refine G.iload_n 137 1 dX3_takeSign_137 rfl rfl ?_
            refine G.puti 138 ck_3 9 (hs.k k_a0) (by decide) (by decide +kernel) rfl wd_136 rfl rfl dX3_takeSign_138 ?_
            refine G.goto 141 218 dX3_takeSign_141 (by decide) ?_
            (have hf9 := Option.some.inj hf; subst hf9)
            exact G.rV 218 hq dX3_takeSign_218 (St.i hs)
          · replace hf := (if_neg h31).symm.trans hf
            by_cases h32 : x1 = (38 : Int32)
            · replace hf := (if_pos h32).symm.trans hf
              refine G.tableIn 1 209 (off := 208) dX3_takeSign_1 (by rw [h32]; decide +kernel) (by rw [h32]; decide +kernel) (by rw [h32]; decide +kernel) (by decide) ?_
              refine G.aload_n 209 0 dX3_takeSign_209 rfl rfl ?_
              obtain ⟨q35, e36, hf⟩ := bd_e hf
              refine G.cvV 210 (As := []) ck_3 (hs.k k_a0) (c_X3_endTest Z hs a0 k_a0 e36) mk_X3_endTest vk_X3_endTest rfl wd_1062 hR (by decide +kernel) ⟨rfl, rfl⟩ rfl (Nat.le_of_ble_eq_true rfl) dX3_takeSign_210 (fun hs33 => ?_)
              refine G.aload_n 213 0 dX3_takeSign_213 rfl rfl ?_
              refine G.iload_n 214 1 dX3_takeSign_214 rfl rfl ?_
              obtain ⟨q39, e40, hf⟩ := bd_e hf
              refine G.cvV 215 (As := [.int x1]) ck_3 (hs33.k k_a0) (c_X3_takeJoint Z hs33 a0 x1 k_a0 e40) mk_X3_takeJoint vk_X3_takeJoint rfl wd_1074 hR (by decide +kernel) ⟨rfl, rfl⟩ rfl (Nat.le_of_ble_eq_true rfl) dX3_takeSign_215 (fun hs37 => ?_)
              (have hf9 := Option.some.inj hf; subst hf9)
              exact G.rV 218 hq dX3_takeSign_218 hs37
            · replace hf := (if_neg h32).symm.trans hf
              by_cases h41 : x1 = (39 : Int32)
              · replace hf := (if_pos h41).symm.trans hf
                refine G.tableIn 1 209 (off := 208) dX3_takeSign_1 (by rw [h41]; decide +kernel) (by rw [h41]; decide +kernel) (by rw [h41]; decide +kernel) (by decide) ?_
                refine G.aload_n 209 0 dX3_takeSign_209 rfl rfl ?_
                obtain ⟨q44, e45, hf⟩ := bd_e hf
                refine G.cvV 210 (As := []) ck_3 (hs.k k_a0) (c_X3_endTest Z hs a0 k_a0 e45) mk_X3_endTest vk_X3_endTest rfl wd_1062 hR (by decide +kernel) ⟨rfl, rfl⟩ rfl (Nat.le_of_ble_eq_true rfl) dX3_takeSign_210 (fun hs42 => ?_)
                refine G.aload_n 213 0 dX3_takeSign_213 rfl rfl ?_
                refine G.iload_n 214 1 dX3_takeSign_214 rfl rfl ?_
                obtain ⟨q48, e49, hf⟩ := bd_e hf
                refine G.cvV 215 (As := [.int x1]) ck_3 (hs42.k k_a0) (c_X3_takeJoint Z hs42 a0 x1 k_a0 e49) mk_X3_takeJoint vk_X3_takeJoint rfl wd_1074 hR (by decide +kernel) ⟨rfl, rfl⟩ rfl (Nat.le_of_ble_eq_true rfl) dX3_takeSign_215 (fun hs46 => ?_)
                (have hf9 := Option.some.inj hf; subst hf9)
                exact G.rV 218 hq dX3_takeSign_218 hs46
              · replace hf := (if_neg h41).symm.trans hf
                by_cases h50 : x1 = (40 : Int32)
                · replace hf := (if_pos h50).symm.trans hf
                  refine G.tableIn 1 209 (off := 208) dX3_takeSign_1 (by rw [h50]; decide +kernel) (by rw [h50]; decide +kernel) (by rw [h50]; decide +kernel) (by decide) ?_
                  refine G.aload_n 209 0 dX3_takeSign_209 rfl rfl ?_
                  obtain ⟨q53, e54, hf⟩ := bd_e hf
                  refine G.cvV 210 (As := []) ck_3 (hs.k k_a0) (c_X3_endTest Z hs a0 k_a0 e54) mk_X3_endTest vk_X3_endTest rfl wd_1062 hR (by decide +kernel) ⟨rfl, rfl⟩ rfl (Nat.le_of_ble_eq_true rfl) dX3_takeSign_210 (fun hs51 => ?_)
                  refine G.aload_n 213 0 dX3_takeSign_213 rfl rfl ?_
                  refine G.iload_n 214 1 dX3_takeSign_214 rfl rfl ?_
                  obtain ⟨q57, e58, hf⟩ := bd_e hf
                  refine G.cvV 215 (As := [.int x1]) ck_3 (hs51.k k_a0) (c_X3_takeJoint Z hs51 a0 x1 k_a0 e58) mk_X3_takeJoint vk_X3_takeJoint rfl wd_1074 hR (by decide +kernel) ⟨rfl, rfl⟩ rfl (Nat.le_of_ble_eq_true rfl) dX3_takeSign_215 (fun hs55 => ?_)
                  (have hf9 := Option.some.inj hf; subst hf9)
                  exact G.rV 218 hq dX3_takeSign_218 hs55
                · replace hf := (if_neg h50).symm.trans hf
                  by_cases h59 : x1 = (41 : Int32)
                  · replace hf := (if_pos h59).symm.trans hf
                    refine G.tableIn 1 209 (off := 208) dX3_takeSign_1 (by rw [h59]; decide +kernel) (by rw [h59]; decide +kernel) (by rw [h59]; decide +kernel) (by decide) ?_
                    refine G.aload_n 209 0 dX3_takeSign_209 rfl rfl ?_
                    obtain ⟨q62, e63, hf⟩ := bd_e hf
                    refine G.cvV 210 (As := []) ck_3 (hs.k k_a0) (c_X3_endTest Z hs a0 k_a0 e63) mk_X3_endTest vk_X3_endTest rfl wd_1062 hR (by decide +kernel) ⟨rfl, rfl⟩ rfl (Nat.le_of_ble_eq_true rfl) dX3_takeSign_210 (fun hs60 => ?_)
                    refine G.aload_n 213 0 dX3_takeSign_213 rfl rfl ?_
                    refine G.iload_n 214 1 dX3_takeSign_214 rfl rfl ?_
                    obtain ⟨q66, e67, hf⟩ := bd_e hf
                    refine G.cvV 215 (As := [.int x1]) ck_3 (hs60.k k_a0) (c_X3_takeJoint Z hs60 a0 x1 k_a0 e67) mk_X3_takeJoint vk_X3_takeJoint rfl wd_1074 hR (by decide +kernel) ⟨rfl, rfl⟩ rfl (Nat.le_of_ble_eq_true rfl) dX3_takeSign_215 (fun hs64 => ?_)
                    (have hf9 := Option.some.inj hf; subst hf9)
                    exact G.rV 218 hq dX3_takeSign_218 hs64
                  · replace hf := (if_neg h59).symm.trans hf
                    by_cases h68 : x1 = (42 : Int32)
                    · replace hf := (if_pos h68).symm.trans hf
                      refine G.tableIn 1 136 (off := 135) dX3_takeSign_1 (by rw [h68]; decide +kernel) (by rw [h68]; decide +kernel) (by rw [h68]; decide +kernel) (by decide) ?_
                      refine G.aload_n 136 0 dX3_takeSign_136 rfl rfl ?_
                      refine G.iload_n 137 1 dX3_takeSign_137 rfl rfl ?_
                      refine G.puti 138 ck_3 9 (hs.k k_a0) (by decide) (by decide +kernel) rfl wd_136 rfl rfl dX3_takeSign_138 ?_
                      refine G.goto 141 218 dX3_takeSign_141 (by decide) ?_
                      (have hf9 := Option.some.inj hf; subst hf9)
                      exact G.rV 218 hq dX3_takeSign_218 (St.i hs)
                    · replace hf := (if_neg h68).symm.trans hf
                      by_cases h69 : x1 = (43 : Int32)
                      · replace hf := (if_pos h69).symm.trans hf
                        refine G.tableIn 1 144 (off := 143) dX3_takeSign_1 (by rw [h69]; decide +kernel) (by rw [h69]; decide +kernel) (by rw [h69]; decide +kernel) (by decide) ?_
                        refine G.aload_n 144 0 dX3_takeSign_144 rfl rfl ?_
                        obtain ⟨q72, e73, hf⟩ := bd_e hf
                        refine G.cvV 145 (As := []) ck_3 (hs.k k_a0) (c_X3_endProduct Z hs a0 k_a0 e73) mk_X3_endProduct vk_X3_endProduct rfl wd_1058 hR (by decide +kernel) ⟨rfl, rfl⟩ rfl (Nat.le_of_ble_eq_true rfl) dX3_takeSign_145 (fun hs70 => ?_)
                        refine G.aload_n 148 0 dX3_takeSign_148 rfl rfl ?_
                        refine G.iload_n 149 1 dX3_takeSign_149 rfl rfl ?_
                        refine G.puti 150 ck_3 7 (hs70.k k_a0) (by decide) (by decide +kernel) rfl wd_134 rfl rfl dX3_takeSign_150 ?_
                        refine G.goto 153 218 dX3_takeSign_153 (by decide) ?_
                        (have hf9 := Option.some.inj hf; subst hf9)
                        exact G.rV 218 hq dX3_takeSign_218 (St.i hs70)
                      · replace hf := (if_neg h69).symm.trans hf
                        by_cases h74 : x1 = (44 : Int32)
                        · replace hf := (if_pos h74).symm.trans hf
                          refine G.tableIn 1 209 (off := 208) dX3_takeSign_1 (by rw [h74]; decide +kernel) (by rw [h74]; decide +kernel) (by rw [h74]; decide +kernel) (by decide) ?_
                          refine G.aload_n 209 0 dX3_takeSign_209 rfl rfl ?_
                          obtain ⟨q77, e78, hf⟩ := bd_e hf
                          refine G.cvV 210 (As := []) ck_3 (hs.k k_a0) (c_X3_endTest Z hs a0 k_a0 e78) mk_X3_endTest vk_X3_endTest rfl wd_1062 hR (by decide +kernel) ⟨rfl, rfl⟩ rfl (Nat.le_of_ble_eq_true rfl) dX3_takeSign_210 (fun hs75 => ?_)
                          refine G.aload_n 213 0 dX3_takeSign_213 rfl rfl ?_
                          refine G.iload_n 214 1 dX3_takeSign_214 rfl rfl ?_
                          obtain ⟨q81, e82, hf⟩ := bd_e hf
                          refine G.cvV 215 (As := [.int x1]) ck_3 (hs75.k k_a0) (c_X3_takeJoint Z hs75 a0 x1 k_a0 e82) mk_X3_takeJoint vk_X3_takeJoint rfl wd_1074 hR (by decide +kernel) ⟨rfl, rfl⟩ rfl (Nat.le_of_ble_eq_true rfl) dX3_takeSign_215 (fun hs79 => ?_)
                          (have hf9 := Option.some.inj hf; subst hf9)
                          exact G.rV 218 hq dX3_takeSign_218 hs79
                        · replace hf := (if_neg h74).symm.trans hf
                          by_cases h83 : x1 = (45 : Int32)
                          · replace hf := (if_pos h83).symm.trans hf
                            refine G.tableIn 1 144 (off := 143) dX3_takeSign_1 (by rw [h83]; decide +kernel) (by rw [h83]; decide +kernel) (by rw [h83]; decide +kernel) (by decide) ?_
                            refine G.aload_n 144 0 dX3_takeSign_144 rfl rfl ?_
                            obtain ⟨q86, e87, hf⟩ := bd_e hf
                            refine G.cvV 145 (As := []) ck_3 (hs.k k_a0) (c_X3_endProduct Z hs a0 k_a0 e87) mk_X3_endProduct vk_X3_endProduct rfl wd_1058 hR (by decide +kernel) ⟨rfl, rfl⟩ rfl (Nat.le_of_ble_eq_true rfl) dX3_takeSign_145 (fun hs84 => ?_)
                            refine G.aload_n 148 0 dX3_takeSign_148 rfl rfl ?_
                            refine G.iload_n 149 1 dX3_takeSign_149 rfl rfl ?_
                            refine G.puti 150 ck_3 7 (hs84.k k_a0) (by decide) (by decide +kernel) rfl wd_134 rfl rfl dX3_takeSign_150 ?_
                            refine G.goto 153 218 dX3_takeSign_153 (by decide) ?_
                            (have hf9 := Option.some.inj hf; subst hf9)
                            exact G.rV 218 hq dX3_takeSign_218 (St.i hs84)
                          · replace hf := (if_neg h83).symm.trans hf
                            by_cases h88 : x1 = (46 : Int32)
                            · replace hf := (if_pos h88).symm.trans hf
                              refine G.tableIn 1 209 (off := 208) dX3_takeSign_1 (by rw [h88]; decide +kernel) (by rw [h88]; decide +kernel) (by rw [h88]; decide +kernel) (by decide) ?_
                              refine G.aload_n 209 0 dX3_takeSign_209 rfl rfl ?_
                              obtain ⟨q91, e92, hf⟩ := bd_e hf
                              refine G.cvV 210 (As := []) ck_3 (hs.k k_a0) (c_X3_endTest Z hs a0 k_a0 e92) mk_X3_endTest vk_X3_endTest rfl wd_1062 hR (by decide +kernel) ⟨rfl, rfl⟩ rfl (Nat.le_of_ble_eq_true rfl) dX3_takeSign_210 (fun hs89 => ?_)
                              refine G.aload_n 213 0 dX3_takeSign_213 rfl rfl ?_
                              refine G.iload_n 214 1 dX3_takeSign_214 rfl rfl ?_
                              obtain ⟨q95, e96, hf⟩ := bd_e hf
                              refine G.cvV 215 (As := [.int x1]) ck_3 (hs89.k k_a0) (c_X3_takeJoint Z hs89 a0 x1 k_a0 e96) mk_X3_takeJoint vk_X3_takeJoint rfl wd_1074 hR (by decide +kernel) ⟨rfl, rfl⟩ rfl (Nat.le_of_ble_eq_true rfl) dX3_takeSign_215 (fun hs93 => ?_)
                              (have hf9 := Option.some.inj hf; subst hf9)
                              exact G.rV 218 hq dX3_takeSign_218 hs93
                            · replace hf := (if_neg h88).symm.trans hf
                              by_cases h97 : x1 = (47 : Int32)
                              · replace hf := (if_pos h97).symm.trans hf
                                refine G.tableIn 1 209 (off := 208) dX3_takeSign_1 (by rw [h97]; decide +kernel) (by rw [h97]; decide +kernel) (by rw [h97]; decide +kernel) (by decide) ?_
                                refine G.aload_n 209 0 dX3_takeSign_209 rfl rfl ?_
                                obtain ⟨q100, e101, hf⟩ := bd_e hf
                                refine G.cvV 210 (As := []) ck_3 (hs.k k_a0) (c_X3_endTest Z hs a0 k_a0 e101) mk_X3_endTest vk_X3_endTest rfl wd_1062 hR (by decide +kernel) ⟨rfl, rfl⟩ rfl (Nat.le_of_ble_eq_true rfl) dX3_takeSign_210 (fun hs98 => ?_)
                                refine G.aload_n 213 0 dX3_takeSign_213 rfl rfl ?_
                                refine G.iload_n 214 1 dX3_takeSign_214 rfl rfl ?_
                                obtain ⟨q104, e105, hf⟩ := bd_e hf
                                refine G.cvV 215 (As := [.int x1]) ck_3 (hs98.k k_a0) (c_X3_takeJoint Z hs98 a0 x1 k_a0 e105) mk_X3_takeJoint vk_X3_takeJoint rfl wd_1074 hR (by decide +kernel) ⟨rfl, rfl⟩ rfl (Nat.le_of_ble_eq_true rfl) dX3_takeSign_215 (fun hs102 => ?_)
                                (have hf9 := Option.some.inj hf; subst hf9)
                                exact G.rV 218 hq dX3_takeSign_218 hs102
                              · replace hf := (if_neg h97).symm.trans hf
                                by_cases h106 : x1 = (48 : Int32)
                                · replace hf := (if_pos h106).symm.trans hf
                                  refine G.tableIn 1 209 (off := 208) dX3_takeSign_1 (by rw [h106]; decide +kernel) (by rw [h106]; decide +kernel) (by rw [h106]; decide +kernel) (by decide) ?_
                                  refine G.aload_n 209 0 dX3_takeSign_209 rfl rfl ?_
                                  obtain ⟨q109, e110, hf⟩ := bd_e hf
                                  refine G.cvV 210 (As := []) ck_3 (hs.k k_a0) (c_X3_endTest Z hs a0 k_a0 e110) mk_X3_endTest vk_X3_endTest rfl wd_1062 hR (by decide +kernel) ⟨rfl, rfl⟩ rfl (Nat.le_of_ble_eq_true rfl) dX3_takeSign_210 (fun hs107 => ?_)
                                  refine G.aload_n 213 0 dX3_takeSign_213 rfl rfl ?_
                                  refine G.iload_n 214 1 dX3_takeSign_214 rfl rfl ?_
                                  obtain ⟨q113, e114, hf⟩ := bd_e hf
                                  refine G.cvV 215 (As := [.int x1]) ck_3 (hs107.k k_a0) (c_X3_takeJoint Z hs107 a0 x1 k_a0 e114) mk_X3_takeJoint vk_X3_takeJoint rfl wd_1074 hR (by decide +kernel) ⟨rfl, rfl⟩ rfl (Nat.le_of_ble_eq_true rfl) dX3_takeSign_215 (fun hs111 => ?_)
                                  (have hf9 := Option.some.inj hf; subst hf9)
                                  exact G.rV 218 hq dX3_takeSign_218 hs111
                                · replace hf := (if_neg h106).symm.trans hf
                                  by_cases h115 : x1 = (49 : Int32)
                                  · replace hf := (if_pos h115).symm.trans hf
                                    refine G.tableIn 1 209 (off := 208) dX3_takeSign_1 (by rw [h115]; decide +kernel) (by rw [h115]; decide +kernel) (by rw [h115]; decide +kernel) (by decide) ?_
                                    refine G.aload_n 209 0 dX3_takeSign_209 rfl rfl ?_
                                    obtain ⟨q118, e119, hf⟩ := bd_e hf
                                    refine G.cvV 210 (As := []) ck_3 (hs.k k_a0) (c_X3_endTest Z hs a0 k_a0 e119) mk_X3_endTest vk_X3_endTest rfl wd_1062 hR (by decide +kernel) ⟨rfl, rfl⟩ rfl (Nat.le_of_ble_eq_true rfl) dX3_takeSign_210 (fun hs116 => ?_)
                                    refine G.aload_n 213 0 dX3_takeSign_213 rfl rfl ?_
                                    refine G.iload_n 214 1 dX3_takeSign_214 rfl rfl ?_
                                    obtain ⟨q122, e123, hf⟩ := bd_e hf
                                    refine G.cvV 215 (As := [.int x1]) ck_3 (hs116.k k_a0) (c_X3_takeJoint Z hs116 a0 x1 k_a0 e123) mk_X3_takeJoint vk_X3_takeJoint rfl wd_1074 hR (by decide +kernel) ⟨rfl, rfl⟩ rfl (Nat.le_of_ble_eq_true rfl) dX3_takeSign_215 (fun hs120 => ?_)
                                    (have hf9 := Option.some.inj hf; subst hf9)
                                    exact G.rV 218 hq dX3_takeSign_218 hs120
                                  · replace hf := (if_neg h115).symm.trans hf
                                    by_cases h124 : x1 = (50 : Int32)
                                    · replace hf := (if_pos h124).symm.trans hf
                                      refine G.tableIn 1 209 (off := 208) dX3_takeSign_1 (by rw [h124]; decide +kernel) (by rw [h124]; decide +kernel) (by rw [h124]; decide +kernel) (by decide) ?_
                                      refine G.aload_n 209 0 dX3_takeSign_209 rfl rfl ?_
                                      obtain ⟨q127, e128, hf⟩ := bd_e hf
                                      refine G.cvV 210 (As := []) ck_3 (hs.k k_a0) (c_X3_endTest Z hs a0 k_a0 e128) mk_X3_endTest vk_X3_endTest rfl wd_1062 hR (by decide +kernel) ⟨rfl, rfl⟩ rfl (Nat.le_of_ble_eq_true rfl) dX3_takeSign_210 (fun hs125 => ?_)
                                      refine G.aload_n 213 0 dX3_takeSign_213 rfl rfl ?_
                                      refine G.iload_n 214 1 dX3_takeSign_214 rfl rfl ?_
                                      obtain ⟨q131, e132, hf⟩ := bd_e hf
                                      refine G.cvV 215 (As := [.int x1]) ck_3 (hs125.k k_a0) (c_X3_takeJoint Z hs125 a0 x1 k_a0 e132) mk_X3_takeJoint vk_X3_takeJoint rfl wd_1074 hR (by decide +kernel) ⟨rfl, rfl⟩ rfl (Nat.le_of_ble_eq_true rfl) dX3_takeSign_215 (fun hs129 => ?_)
                                      (have hf9 := Option.some.inj hf; subst hf9)
                                      exact G.rV 218 hq dX3_takeSign_218 hs129
                                    · replace hf := (if_neg h124).symm.trans hf
                                      by_cases h133 : x1 = (51 : Int32)
                                      · replace hf := (if_pos h133).symm.trans hf
                                        refine G.tableIn 1 209 (off := 208) dX3_takeSign_1 (by rw [h133]; decide +kernel) (by rw [h133]; decide +kernel) (by rw [h133]; decide +kernel) (by decide) ?_
                                        refine G.aload_n 209 0 dX3_takeSign_209 rfl rfl ?_
                                        obtain ⟨q136, e137, hf⟩ := bd_e hf
                                        refine G.cvV 210 (As := []) ck_3 (hs.k k_a0) (c_X3_endTest Z hs a0 k_a0 e137) mk_X3_endTest vk_X3_endTest rfl wd_1062 hR (by decide +kernel) ⟨rfl, rfl⟩ rfl (Nat.le_of_ble_eq_true rfl) dX3_takeSign_210 (fun hs134 => ?_)
                                        refine G.aload_n 213 0 dX3_takeSign_213 rfl rfl ?_
                                        refine G.iload_n 214 1 dX3_takeSign_214 rfl rfl ?_
                                        obtain ⟨q140, e141, hf⟩ := bd_e hf
                                        refine G.cvV 215 (As := [.int x1]) ck_3 (hs134.k k_a0) (c_X3_takeJoint Z hs134 a0 x1 k_a0 e141) mk_X3_takeJoint vk_X3_takeJoint rfl wd_1074 hR (by decide +kernel) ⟨rfl, rfl⟩ rfl (Nat.le_of_ble_eq_true rfl) dX3_takeSign_215 (fun hs138 => ?_)
                                        (have hf9 := Option.some.inj hf; subst hf9)
                                        exact G.rV 218 hq dX3_takeSign_218 hs138
                                      · replace hf := (if_neg h133).symm.trans hf
                                        by_cases h142 : x1 = (52 : Int32)
                                        · replace hf := (if_pos h142).symm.trans hf
                                          refine G.tableIn 1 209 (off := 208) dX3_takeSign_1 (by rw [h142]; decide +kernel) (by rw [h142]; decide +kernel) (by rw [h142]; decide +kernel) (by decide) ?_
                                          refine G.aload_n 209 0 dX3_takeSign_209 rfl rfl ?_
                                          obtain ⟨q145, e146, hf⟩ := bd_e hf
                                          refine G.cvV 210 (As := []) ck_3 (hs.k k_a0) (c_X3_endTest Z hs a0 k_a0 e146) mk_X3_endTest vk_X3_endTest rfl wd_1062 hR (by decide +kernel) ⟨rfl, rfl⟩ rfl (Nat.le_of_ble_eq_true rfl) dX3_takeSign_210 (fun hs143 => ?_)
                                          refine G.aload_n 213 0 dX3_takeSign_213 rfl rfl ?_
                                          refine G.iload_n 214 1 dX3_takeSign_214 rfl rfl ?_
                                          obtain ⟨q149, e150, hf⟩ := bd_e hf
                                          refine G.cvV 215 (As := [.int x1]) ck_3 (hs143.k k_a0) (c_X3_takeJoint Z hs143 a0 x1 k_a0 e150) mk_X3_takeJoint vk_X3_takeJoint rfl wd_1074 hR (by decide +kernel) ⟨rfl, rfl⟩ rfl (Nat.le_of_ble_eq_true rfl) dX3_takeSign_215 (fun hs147 => ?_)
                                          (have hf9 := Option.some.inj hf; subst hf9)
                                          exact G.rV 218 hq dX3_takeSign_218 hs147
                                        · replace hf := (if_neg h142).symm.trans hf
                                          by_cases h151 : x1 = (53 : Int32)
                                          · replace hf := (if_pos h151).symm.trans hf
                                            refine G.tableIn 1 209 (off := 208) dX3_takeSign_1 (by rw [h151]; decide +kernel) (by rw [h151]; decide +kernel) (by rw [h151]; decide +kernel) (by decide) ?_
                                            refine G.aload_n 209 0 dX3_takeSign_209 rfl rfl ?_
                                            obtain ⟨q154, e155, hf⟩ := bd_e hf
                                            refine G.cvV 210 (As := []) ck_3 (hs.k k_a0) (c_X3_endTest Z hs a0 k_a0 e155) mk_X3_endTest vk_X3_endTest rfl wd_1062 hR (by decide +kernel) ⟨rfl, rfl⟩ rfl (Nat.le_of_ble_eq_true rfl) dX3_takeSign_210 (fun hs152 => ?_)
                                            refine G.aload_n 213 0 dX3_takeSign_213 rfl rfl ?_
                                            refine G.iload_n 214 1 dX3_takeSign_214 rfl rfl ?_
                                            obtain ⟨q158, e159, hf⟩ := bd_e hf
                                            refine G.cvV 215 (As := [.int x1]) ck_3 (hs152.k k_a0) (c_X3_takeJoint Z hs152 a0 x1 k_a0 e159) mk_X3_takeJoint vk_X3_takeJoint rfl wd_1074 hR (by decide +kernel) ⟨rfl, rfl⟩ rfl (Nat.le_of_ble_eq_true rfl) dX3_takeSign_215 (fun hs156 => ?_)
                                            (have hf9 := Option.some.inj hf; subst hf9)
                                            exact G.rV 218 hq dX3_takeSign_218 hs156
                                          · replace hf := (if_neg h151).symm.trans hf
                                            by_cases h160 : x1 = (54 : Int32)
                                            · replace hf := (if_pos h160).symm.trans hf
                                              refine G.tableIn 1 209 (off := 208) dX3_takeSign_1 (by rw [h160]; decide +kernel) (by rw [h160]; decide +kernel) (by rw [h160]; decide +kernel) (by decide) ?_
                                              refine G.aload_n 209 0 dX3_takeSign_209 rfl rfl ?_
                                              obtain ⟨q163, e164, hf⟩ := bd_e hf
                                              refine G.cvV 210 (As := []) ck_3 (hs.k k_a0) (c_X3_endTest Z hs a0 k_a0 e164) mk_X3_endTest vk_X3_endTest rfl wd_1062 hR (by decide +kernel) ⟨rfl, rfl⟩ rfl (Nat.le_of_ble_eq_true rfl) dX3_takeSign_210 (fun hs161 => ?_)
                                              refine G.aload_n 213 0 dX3_takeSign_213 rfl rfl ?_
                                              refine G.iload_n 214 1 dX3_takeSign_214 rfl rfl ?_
                                              obtain ⟨q167, e168, hf⟩ := bd_e hf
                                              refine G.cvV 215 (As := [.int x1]) ck_3 (hs161.k k_a0) (c_X3_takeJoint Z hs161 a0 x1 k_a0 e168) mk_X3_takeJoint vk_X3_takeJoint rfl wd_1074 hR (by decide +kernel) ⟨rfl, rfl⟩ rfl (Nat.le_of_ble_eq_true rfl) dX3_takeSign_215 (fun hs165 => ?_)
                                              (have hf9 := Option.some.inj hf; subst hf9)
                                              exact G.rV 218 hq dX3_takeSign_218 hs165
                                            · replace hf := (if_neg h160).symm.trans hf
                                              by_cases h169 : x1 = (55 : Int32)
                                              · replace hf := (if_pos h169).symm.trans hf
                                                refine G.tableIn 1 209 (off := 208) dX3_takeSign_1 (by rw [h169]; decide +kernel) (by rw [h169]; decide +kernel) (by rw [h169]; decide +kernel) (by decide) ?_
                                                refine G.aload_n 209 0 dX3_takeSign_209 rfl rfl ?_
                                                obtain ⟨q172, e173, hf⟩ := bd_e hf
                                                refine G.cvV 210 (As := []) ck_3 (hs.k k_a0) (c_X3_endTest Z hs a0 k_a0 e173) mk_X3_endTest vk_X3_endTest rfl wd_1062 hR (by decide +kernel) ⟨rfl, rfl⟩ rfl (Nat.le_of_ble_eq_true rfl) dX3_takeSign_210 (fun hs170 => ?_)
                                                refine G.aload_n 213 0 dX3_takeSign_213 rfl rfl ?_
                                                refine G.iload_n 214 1 dX3_takeSign_214 rfl rfl ?_
                                                obtain ⟨q176, e177, hf⟩ := bd_e hf
                                                refine G.cvV 215 (As := [.int x1]) ck_3 (hs170.k k_a0) (c_X3_takeJoint Z hs170 a0 x1 k_a0 e177) mk_X3_takeJoint vk_X3_takeJoint rfl wd_1074 hR (by decide +kernel) ⟨rfl, rfl⟩ rfl (Nat.le_of_ble_eq_true rfl) dX3_takeSign_215 (fun hs174 => ?_)
                                                (have hf9 := Option.some.inj hf; subst hf9)
                                                exact G.rV 218 hq dX3_takeSign_218 hs174
                                              · replace hf := (if_neg h169).symm.trans hf
                                                by_cases h178 : x1 = (56 : Int32)
                                                · replace hf := (if_pos h178).symm.trans hf
                                                  refine G.tableIn 1 209 (off := 208) dX3_takeSign_1 (by rw [h178]; decide +kernel) (by rw [h178]; decide +kernel) (by rw [h178]; decide +kernel) (by decide) ?_
                                                  refine G.aload_n 209 0 dX3_takeSign_209 rfl rfl ?_
                                                  obtain ⟨q181, e182, hf⟩ := bd_e hf
                                                  refine G.cvV 210 (As := []) ck_3 (hs.k k_a0) (c_X3_endTest Z hs a0 k_a0 e182) mk_X3_endTest vk_X3_endTest rfl wd_1062 hR (by decide +kernel) ⟨rfl, rfl⟩ rfl (Nat.le_of_ble_eq_true rfl) dX3_takeSign_210 (fun hs179 => ?_)
                                                  refine G.aload_n 213 0 dX3_takeSign_213 rfl rfl ?_
                                                  refine G.iload_n 214 1 dX3_takeSign_214 rfl rfl ?_
                                                  obtain ⟨q185, e186, hf⟩ := bd_e hf
                                                  refine G.cvV 215 (As := [.int x1]) ck_3 (hs179.k k_a0) (c_X3_takeJoint Z hs179 a0 x1 k_a0 e186) mk_X3_takeJoint vk_X3_takeJoint rfl wd_1074 hR (by decide +kernel) ⟨rfl, rfl⟩ rfl (Nat.le_of_ble_eq_true rfl) dX3_takeSign_215 (fun hs183 => ?_)
                                                  (have hf9 := Option.some.inj hf; subst hf9)
                                                  exact G.rV 218 hq dX3_takeSign_218 hs183
                                                · replace hf := (if_neg h178).symm.trans hf
                                                  by_cases h187 : x1 = (57 : Int32)
                                                  · replace hf := (if_pos h187).symm.trans hf
                                                    refine G.tableIn 1 209 (off := 208) dX3_takeSign_1 (by rw [h187]; decide +kernel) (by rw [h187]; decide +kernel) (by rw [h187]; decide +kernel) (by decide) ?_
                                                    refine G.aload_n 209 0 dX3_takeSign_209 rfl rfl ?_
                                                    obtain ⟨q190, e191, hf⟩ := bd_e hf
                                                    refine G.cvV 210 (As := []) ck_3 (hs.k k_a0) (c_X3_endTest Z hs a0 k_a0 e191) mk_X3_endTest vk_X3_endTest rfl wd_1062 hR (by decide +kernel) ⟨rfl, rfl⟩ rfl (Nat.le_of_ble_eq_true rfl) dX3_takeSign_210 (fun hs188 => ?_)
                                                    refine G.aload_n 213 0 dX3_takeSign_213 rfl rfl ?_
                                                    refine G.iload_n 214 1 dX3_takeSign_214 rfl rfl ?_
                                                    obtain ⟨q194, e195, hf⟩ := bd_e hf
                                                    refine G.cvV 215 (As := [.int x1]) ck_3 (hs188.k k_a0) (c_X3_takeJoint Z hs188 a0 x1 k_a0 e195) mk_X3_takeJoint vk_X3_takeJoint rfl wd_1074 hR (by decide +kernel) ⟨rfl, rfl⟩ rfl (Nat.le_of_ble_eq_true rfl) dX3_takeSign_215 (fun hs192 => ?_)
                                                    (have hf9 := Option.some.inj hf; subst hf9)
                                                    exact G.rV 218 hq dX3_takeSign_218 hs192
                                                  · replace hf := (if_neg h187).symm.trans hf
                                                    by_cases h196 : x1 = (58 : Int32)
                                                    · replace hf := (if_pos h196).symm.trans hf
                                                      refine G.tableIn 1 209 (off := 208) dX3_takeSign_1 (by rw [h196]; decide +kernel) (by rw [h196]; decide +kernel) (by rw [h196]; decide +kernel) (by decide) ?_
                                                      refine G.aload_n 209 0 dX3_takeSign_209 rfl rfl ?_
                                                      obtain ⟨q199, e200, hf⟩ := bd_e hf
                                                      refine G.cvV 210 (As := []) ck_3 (hs.k k_a0) (c_X3_endTest Z hs a0 k_a0 e200) mk_X3_endTest vk_X3_endTest rfl wd_1062 hR (by decide +kernel) ⟨rfl, rfl⟩ rfl (Nat.le_of_ble_eq_true rfl) dX3_takeSign_210 (fun hs197 => ?_)
                                                      refine G.aload_n 213 0 dX3_takeSign_213 rfl rfl ?_
                                                      refine G.iload_n 214 1 dX3_takeSign_214 rfl rfl ?_
                                                      obtain ⟨q203, e204, hf⟩ := bd_e hf
                                                      refine G.cvV 215 (As := [.int x1]) ck_3 (hs197.k k_a0) (c_X3_takeJoint Z hs197 a0 x1 k_a0 e204) mk_X3_takeJoint vk_X3_takeJoint rfl wd_1074 hR (by decide +kernel) ⟨rfl, rfl⟩ rfl (Nat.le_of_ble_eq_true rfl) dX3_takeSign_215 (fun hs201 => ?_)
                                                      (have hf9 := Option.some.inj hf; subst hf9)
                                                      exact G.rV 218 hq dX3_takeSign_218 hs201
                                                    · replace hf := (if_neg h196).symm.trans hf
                                                      by_cases h205 : x1 = (59 : Int32)
                                                      · replace hf := (if_pos h205).symm.trans hf
                                                        refine G.tableIn 1 209 (off := 208) dX3_takeSign_1 (by rw [h205]; decide +kernel) (by rw [h205]; decide +kernel) (by rw [h205]; decide +kernel) (by decide) ?_
                                                        refine G.aload_n 209 0 dX3_takeSign_209 rfl rfl ?_
                                                        obtain ⟨q208, e209, hf⟩ := bd_e hf
                                                        refine G.cvV 210 (As := []) ck_3 (hs.k k_a0) (c_X3_endTest Z hs a0 k_a0 e209) mk_X3_endTest vk_X3_endTest rfl wd_1062 hR (by decide +kernel) ⟨rfl, rfl⟩ rfl (Nat.le_of_ble_eq_true rfl) dX3_takeSign_210 (fun hs206 => ?_)
                                                        refine G.aload_n 213 0 dX3_takeSign_213 rfl rfl ?_
                                                        refine G.iload_n 214 1 dX3_takeSign_214 rfl rfl ?_
                                                        obtain ⟨q212, e213, hf⟩ := bd_e hf
                                                        refine G.cvV 215 (As := [.int x1]) ck_3 (hs206.k k_a0) (c_X3_takeJoint Z hs206 a0 x1 k_a0 e213) mk_X3_takeJoint vk_X3_takeJoint rfl wd_1074 hR (by decide +kernel) ⟨rfl, rfl⟩ rfl (Nat.le_of_ble_eq_true rfl) dX3_takeSign_215 (fun hs210 => ?_)
                                                        (have hf9 := Option.some.inj hf; subst hf9)
                                                        exact G.rV 218 hq dX3_takeSign_218 hs210
                                                      · replace hf := (if_neg h205).symm.trans hf
                                                        by_cases h214 : x1 = (60 : Int32)
                                                        · replace hf := (if_pos h214).symm.trans hf
                                                          refine G.tableIn 1 156 (off := 155) dX3_takeSign_1 (by rw [h214]; decide +kernel) (by rw [h214]; decide +kernel) (by rw [h214]; decide +kernel) (by decide) ?_
                                                          refine G.aload_n 156 0 dX3_takeSign_156 rfl rfl ?_
                                                          obtain ⟨q217, e218, hf⟩ := bd_e hf
                                                          refine G.cvV 157 (As := []) ck_3 (hs.k k_a0) (c_X3_endProduct Z hs a0 k_a0 e218) mk_X3_endProduct vk_X3_endProduct rfl wd_1058 hR (by decide +kernel) ⟨rfl, rfl⟩ rfl (Nat.le_of_ble_eq_true rfl) dX3_takeSign_157 (fun hs215 => ?_)
                                                          refine G.aload_n 160 0 dX3_takeSign_160 rfl rfl ?_
                                                          refine G.aload_n 161 0 dX3_takeSign_161 rfl rfl ?_
                                                          refine G.geti 162 ck_3 6 (hs215.k k_a0) (by decide) (by decide +kernel) wd_133 dX3_takeSign_162 ?_
                                                          refine G.puti 165 ck_3 4 (hs215.k k_a0) (by decide) (by decide +kernel) rfl wd_131 rfl rfl dX3_takeSign_165 ?_
                                                          refine G.aload_n 168 0 dX3_takeSign_168 rfl rfl ?_
                                                          refine G.iload_n 169 1 dX3_takeSign_169 rfl rfl ?_
                                                          refine G.puti 170 ck_3 5 ((St.i hs215).k k_a0) (by decide) (by decide +kernel) rfl wd_132 rfl rfl dX3_takeSign_170 ?_
                                                          refine G.aload_n 173 0 dX3_takeSign_173 rfl rfl ?_
                                                          obtain ⟨q221, e222, hf⟩ := bd_e hf
                                                          refine G.cvV 174 (As := []) ck_3 ((St.i (St.i hs215)).k k_a0) (c_X3_beginSum Z (St.i (St.i hs215)) a0 k_a0 e222) mk_X3_beginSum vk_X3_beginSum rfl wd_1032 hR (by decide +kernel) ⟨rfl, rfl⟩ rfl (Nat.le_of_ble_eq_true rfl) dX3_takeSign_174 (fun hs219 => ?_)
                                                          refine G.goto 177 218 dX3_takeSign_177 (by decide) ?_
                                                          (have hf9 := Option.some.inj hf; subst hf9)
                                                          exact G.rV 218 hq dX3_takeSign_218 hs219
                                                        · replace hf := (if_neg h214).symm.trans hf
                                                          by_cases h223 : x1 = (61 : Int32)
                                                          · replace hf := (if_pos h223).symm.trans hf
                                                            refine G.tableIn 1 156 (off := 155) dX3_takeSign_1 (by rw [h223]; decide +kernel) (by rw [h223]; decide +kernel) (by rw [h223]; decide +kernel) (by decide) ?_
                                                            refine G.aload_n 156 0 dX3_takeSign_156 rfl rfl ?_
                                                            obtain ⟨q226, e227, hf⟩ := bd_e hf
                                                            refine G.cvV 157 (As := []) ck_3 (hs.k k_a0) (c_X3_endProduct Z hs a0 k_a0 e227) mk_X3_endProduct vk_X3_endProduct rfl wd_1058 hR (by decide +kernel) ⟨rfl, rfl⟩ rfl (Nat.le_of_ble_eq_true rfl) dX3_takeSign_157 (fun hs224 => ?_)
                                                            refine G.aload_n 160 0 dX3_takeSign_160 rfl rfl ?_
                                                            refine G.aload_n 161 0 dX3_takeSign_161 rfl rfl ?_
                                                            refine G.geti 162 ck_3 6 (hs224.k k_a0) (by decide) (by decide +kernel) wd_133 dX3_takeSign_162 ?_
                                                            refine G.puti 165 ck_3 4 (hs224.k k_a0) (by decide) (by decide +kernel) rfl wd_131 rfl rfl dX3_takeSign_165 ?_
                                                            refine G.aload_n 168 0 dX3_takeSign_168 rfl rfl ?_
                                                            refine G.iload_n 169 1 dX3_takeSign_169 rfl rfl ?_
                                                            refine G.puti 170 ck_3 5 ((St.i hs224).k k_a0) (by decide) (by decide +kernel) rfl wd_132 rfl rfl dX3_takeSign_170 ?_
                                                            refine G.aload_n 173 0 dX3_takeSign_173 rfl rfl ?_
                                                            obtain ⟨q230, e231, hf⟩ := bd_e hf
                                                            refine G.cvV 174 (As := []) ck_3 ((St.i (St.i hs224)).k k_a0) (c_X3_beginSum Z (St.i (St.i hs224)) a0 k_a0 e231) mk_X3_beginSum vk_X3_beginSum rfl wd_1032 hR (by decide +kernel) ⟨rfl, rfl⟩ rfl (Nat.le_of_ble_eq_true rfl) dX3_takeSign_174 (fun hs228 => ?_)
                                                            refine G.goto 177 218 dX3_takeSign_177 (by decide) ?_
                                                            (have hf9 := Option.some.inj hf; subst hf9)
                                                            exact G.rV 218 hq dX3_takeSign_218 hs228
                                                          · replace hf := (if_neg h223).symm.trans hf
                                                            by_cases h232 : x1 = (62 : Int32)
                                                            · replace hf := (if_pos h232).symm.trans hf
                                                              refine G.tableIn 1 156 (off := 155) dX3_takeSign_1 (by rw [h232]; decide +kernel) (by rw [h232]; decide +kernel) (by rw [h232]; decide +kernel) (by decide) ?_
                                                              refine G.aload_n 156 0 dX3_takeSign_156 rfl rfl ?_
                                                              obtain ⟨q235, e236, hf⟩ := bd_e hf
                                                              refine G.cvV 157 (As := []) ck_3 (hs.k k_a0) (c_X3_endProduct Z hs a0 k_a0 e236) mk_X3_endProduct vk_X3_endProduct rfl wd_1058 hR (by decide +kernel) ⟨rfl, rfl⟩ rfl (Nat.le_of_ble_eq_true rfl) dX3_takeSign_157 (fun hs233 => ?_)
                                                              refine G.aload_n 160 0 dX3_takeSign_160 rfl rfl ?_
                                                              refine G.aload_n 161 0 dX3_takeSign_161 rfl rfl ?_
                                                              refine G.geti 162 ck_3 6 (hs233.k k_a0) (by decide) (by decide +kernel) wd_133 dX3_takeSign_162 ?_
                                                              refine G.puti 165 ck_3 4 (hs233.k k_a0) (by decide) (by decide +kernel) rfl wd_131 rfl rfl dX3_takeSign_165 ?_
                                                              refine G.aload_n 168 0 dX3_takeSign_168 rfl rfl ?_
                                                              refine G.iload_n 169 1 dX3_takeSign_169 rfl rfl ?_
                                                              refine G.puti 170 ck_3 5 ((St.i hs233).k k_a0) (by decide) (by decide +kernel) rfl wd_132 rfl rfl dX3_takeSign_170 ?_
                                                              refine G.aload_n 173 0 dX3_takeSign_173 rfl rfl ?_
                                                              obtain ⟨q239, e240, hf⟩ := bd_e hf
                                                              refine G.cvV 174 (As := []) ck_3 ((St.i (St.i hs233)).k k_a0) (c_X3_beginSum Z (St.i (St.i hs233)) a0 k_a0 e240) mk_X3_beginSum vk_X3_beginSum rfl wd_1032 hR (by decide +kernel) ⟨rfl, rfl⟩ rfl (Nat.le_of_ble_eq_true rfl) dX3_takeSign_174 (fun hs237 => ?_)
                                                              refine G.goto 177 218 dX3_takeSign_177 (by decide) ?_
                                                              (have hf9 := Option.some.inj hf; subst hf9)
                                                              exact G.rV 218 hq dX3_takeSign_218 hs237
                                                            · replace hf := (if_neg h232).symm.trans hf
                                                              have t_h1 := ti (33 : Int32) (33) (by decide +kernel) h1
                                                              have t_h4 := ti (34 : Int32) (34) (by decide +kernel) h4
                                                              have t_h13 := ti (35 : Int32) (35) (by decide +kernel) h13
                                                              have t_h22 := ti (36 : Int32) (36) (by decide +kernel) h22
                                                              have t_h31 := ti (37 : Int32) (37) (by decide +kernel) h31
                                                              have t_h32 := ti (38 : Int32) (38) (by decide +kernel) h32
                                                              have t_h41 := ti (39 : Int32) (39) (by decide +kernel) h41
                                                              have t_h50 := ti (40 : Int32) (40) (by decide +kernel) h50
                                                              have t_h59 := ti (41 : Int32) (41) (by decide +kernel) h59
                                                              have t_h68 := ti (42 : Int32) (42) (by decide +kernel) h68
                                                              have t_h69 := ti (43 : Int32) (43) (by decide +kernel) h69
                                                              have t_h74 := ti (44 : Int32) (44) (by decide +kernel) h74
                                                              have t_h83 := ti (45 : Int32) (45) (by decide +kernel) h83
                                                              have t_h88 := ti (46 : Int32) (46) (by decide +kernel) h88
                                                              have t_h97 := ti (47 : Int32) (47) (by decide +kernel) h97
                                                              have t_h106 := ti (48 : Int32) (48) (by decide +kernel) h106
                                                              have t_h115 := ti (49 : Int32) (49) (by decide +kernel) h115
                                                              have t_h124 := ti (50 : Int32) (50) (by decide +kernel) h124
                                                              have t_h133 := ti (51 : Int32) (51) (by decide +kernel) h133
                                                              have t_h142 := ti (52 : Int32) (52) (by decide +kernel) h142
                                                              have t_h151 := ti (53 : Int32) (53) (by decide +kernel) h151
                                                              have t_h160 := ti (54 : Int32) (54) (by decide +kernel) h160
                                                              have t_h169 := ti (55 : Int32) (55) (by decide +kernel) h169
                                                              have t_h178 := ti (56 : Int32) (56) (by decide +kernel) h178
                                                              have t_h187 := ti (57 : Int32) (57) (by decide +kernel) h187
                                                              have t_h196 := ti (58 : Int32) (58) (by decide +kernel) h196
                                                              have t_h205 := ti (59 : Int32) (59) (by decide +kernel) h205
                                                              have t_h214 := ti (60 : Int32) (60) (by decide +kernel) h214
                                                              have t_h223 := ti (61 : Int32) (61) (by decide +kernel) h223
                                                              have t_h232 := ti (62 : Int32) (62) (by decide +kernel) h232
                                                              refine G.tableOut 1 209 dX3_takeSign_1 (by omega) (by decide) ?_
                                                              refine G.aload_n 209 0 dX3_takeSign_209 rfl rfl ?_
                                                              obtain ⟨q243, e244, hf⟩ := bd_e hf
                                                              refine G.cvV 210 (As := []) ck_3 (hs.k k_a0) (c_X3_endTest Z hs a0 k_a0 e244) mk_X3_endTest vk_X3_endTest rfl wd_1062 hR (by decide +kernel) ⟨rfl, rfl⟩ rfl (Nat.le_of_ble_eq_true rfl) dX3_takeSign_210 (fun hs241 => ?_)
                                                              refine G.aload_n 213 0 dX3_takeSign_213 rfl rfl ?_
                                                              refine G.iload_n 214 1 dX3_takeSign_214 rfl rfl ?_
                                                              obtain ⟨q247, e248, hf⟩ := bd_e hf
                                                              refine G.cvV 215 (As := [.int x1]) ck_3 (hs241.k k_a0) (c_X3_takeJoint Z hs241 a0 x1 k_a0 e248) mk_X3_takeJoint vk_X3_takeJoint rfl wd_1074 hR (by decide +kernel) ⟨rfl, rfl⟩ rfl (Nat.le_of_ble_eq_true rfl) dX3_takeSign_215 (fun hs245 => ?_)
                                                              (have hf9 := Option.some.inj hf; subst hf9)
                                                              exact G.rV 218 hq dX3_takeSign_218 hs245
abbrev Y_X3_holds : My := (cX3_holds, RX3, 7)
def rm_X3_holds : Room := { frames := 21, cells := 0, slots := 0, locals := 1020 }
theorem dX3_holds_0 : decode cX3_holds 0 = .ok (.aload_n 0, 1) := by decide +kernel
theorem dX3_holds_1 : decode cX3_holds 1 = .ok (.iconst 0, 1) := by decide +kernel
theorem dX3_holds_2 : decode cX3_holds 2 = .ok (.putfield 21, 3) := by decide +kernel
theorem dX3_holds_5 : decode cX3_holds 5 = .ok (.aload_n 0, 1) := by decide +kernel
theorem dX3_holds_6 : decode cX3_holds 6 = .ok (.invokevirtual 25, 3) := by decide +kernel
theorem dX3_holds_9 : decode cX3_holds 9 = .ok (.aload_n 0, 1) := by decide +kernel
theorem dX3_holds_10 : decode cX3_holds 10 = .ok (.invokevirtual 28, 3) := by decide +kernel
theorem dX3_holds_13 : decode cX3_holds 13 = .ok (.aload_n 0, 1) := by decide +kernel
theorem dX3_holds_14 : decode cX3_holds 14 = .ok (.iconst 0, 1) := by decide +kernel
theorem dX3_holds_15 : decode cX3_holds 15 = .ok (.putfield 31, 3) := by decide +kernel
theorem dX3_holds_18 : decode cX3_holds 18 = .ok (.aload_n 0, 1) := by decide +kernel
theorem dX3_holds_19 : decode cX3_holds 19 = .ok (.iconst 0, 1) := by decide +kernel
theorem dX3_holds_20 : decode cX3_holds 20 = .ok (.putfield 34, 3) := by decide +kernel
theorem dX3_holds_23 : decode cX3_holds 23 = .ok (.iconst 2, 1) := by decide +kernel
theorem dX3_holds_24 : decode cX3_holds 24 = .ok (.istore 5, 2) := by decide +kernel
theorem dX3_holds_26 : decode cX3_holds 26 = .ok (.iload 5, 2) := by decide +kernel
theorem dX3_holds_28 : decode cX3_holds 28 = .ok (.iload_n 2, 1) := by decide +kernel
theorem dX3_holds_29 : decode cX3_holds 29 = .ok (.if_icmp .ge 121, 3) := by decide +kernel
theorem dX3_holds_32 : decode cX3_holds 32 = .ok (.iload 5, 2) := by decide +kernel
theorem dX3_holds_34 : decode cX3_holds 34 = .ok (.aload_n 1, 1) := by decide +kernel
theorem dX3_holds_35 : decode cX3_holds 35 = .ok (.arraylength, 1) := by decide +kernel
theorem dX3_holds_36 : decode cX3_holds 36 = .ok (.if_icmp .ge 114, 3) := by decide +kernel
theorem dX3_holds_39 : decode cX3_holds 39 = .ok (.aload_n 1, 1) := by decide +kernel
theorem dX3_holds_40 : decode cX3_holds 40 = .ok (.iload 5, 2) := by decide +kernel
theorem dX3_holds_42 : decode cX3_holds 42 = .ok (.iaload, 1) := by decide +kernel
theorem dX3_holds_43 : decode cX3_holds 43 = .ok (.invokestatic 37, 3) := by decide +kernel
theorem dX3_holds_46 : decode cX3_holds 46 = .ok (.ifCond .eq 20, 3) := by decide +kernel
theorem dX3_holds_49 : decode cX3_holds 49 = .ok (.aload_n 0, 1) := by decide +kernel
theorem dX3_holds_50 : decode cX3_holds 50 = .ok (.aload_n 1, 1) := by decide +kernel
theorem dX3_holds_51 : decode cX3_holds 51 = .ok (.iload 5, 2) := by decide +kernel
theorem dX3_holds_53 : decode cX3_holds 53 = .ok (.iaload, 1) := by decide +kernel
theorem dX3_holds_54 : decode cX3_holds 54 = .ok (.aload_n 3, 1) := by decide +kernel
theorem dX3_holds_55 : decode cX3_holds 55 = .ok (.iload 4, 2) := by decide +kernel
theorem dX3_holds_57 : decode cX3_holds 57 = .ok (.invokestatic 41, 3) := by decide +kernel
theorem dX3_holds_60 : decode cX3_holds 60 = .ok (.invokevirtual 45, 3) := by decide +kernel
theorem dX3_holds_63 : decode cX3_holds 63 = .ok (.goto 81, 3) := by decide +kernel
theorem dX3_holds_66 : decode cX3_holds 66 = .ok (.aload_n 1, 1) := by decide +kernel
theorem dX3_holds_67 : decode cX3_holds 67 = .ok (.iload 5, 2) := by decide +kernel
theorem dX3_holds_69 : decode cX3_holds 69 = .ok (.iaload, 1) := by decide +kernel
theorem dX3_holds_70 : decode cX3_holds 70 = .ok (.invokestatic 49, 3) := by decide +kernel
theorem dX3_holds_73 : decode cX3_holds 73 = .ok (.ifCond .eq 63, 3) := by decide +kernel
theorem dX3_holds_76 : decode cX3_holds 76 = .ok (.iload 5, 2) := by decide +kernel
theorem dX3_holds_78 : decode cX3_holds 78 = .ok (.iconst 1, 1) := by decide +kernel
theorem dX3_holds_79 : decode cX3_holds 79 = .ok (.iadd, 1) := by decide +kernel
theorem dX3_holds_80 : decode cX3_holds 80 = .ok (.iload_n 2, 1) := by decide +kernel
theorem dX3_holds_81 : decode cX3_holds 81 = .ok (.if_icmp .ge 28, 3) := by decide +kernel
theorem dX3_holds_84 : decode cX3_holds 84 = .ok (.iload 5, 2) := by decide +kernel
theorem dX3_holds_86 : decode cX3_holds 86 = .ok (.iconst 1, 1) := by decide +kernel
theorem dX3_holds_87 : decode cX3_holds 87 = .ok (.iadd, 1) := by decide +kernel
theorem dX3_holds_88 : decode cX3_holds 88 = .ok (.aload_n 1, 1) := by decide +kernel
theorem dX3_holds_89 : decode cX3_holds 89 = .ok (.arraylength, 1) := by decide +kernel
theorem dX3_holds_90 : decode cX3_holds 90 = .ok (.if_icmp .ge 19, 3) := by decide +kernel
theorem dX3_holds_93 : decode cX3_holds 93 = .ok (.aload_n 1, 1) := by decide +kernel
theorem dX3_holds_94 : decode cX3_holds 94 = .ok (.iload 5, 2) := by decide +kernel
theorem dX3_holds_96 : decode cX3_holds 96 = .ok (.iconst 1, 1) := by decide +kernel
theorem dX3_holds_97 : decode cX3_holds 97 = .ok (.iadd, 1) := by decide +kernel
theorem dX3_holds_98 : decode cX3_holds 98 = .ok (.iaload, 1) := by decide +kernel
theorem dX3_holds_99 : decode cX3_holds 99 = .ok (.invokestatic 49, 3) := by decide +kernel
theorem dX3_holds_102 : decode cX3_holds 102 = .ok (.ifCond .eq 7, 3) := by decide +kernel
theorem dX3_holds_105 : decode cX3_holds 105 = .ok (.iconst 1, 1) := by decide +kernel
theorem dX3_holds_106 : decode cX3_holds 106 = .ok (.goto 4, 3) := by decide +kernel
theorem dX3_holds_109 : decode cX3_holds 109 = .ok (.iconst 0, 1) := by decide +kernel
theorem dX3_holds_110 : decode cX3_holds 110 = .ok (.istore 6, 2) := by decide +kernel
theorem dX3_holds_112 : decode cX3_holds 112 = .ok (.aload_n 0, 1) := by decide +kernel
theorem dX3_holds_113 : decode cX3_holds 113 = .ok (.aload_n 1, 1) := by decide +kernel
theorem dX3_holds_114 : decode cX3_holds 114 = .ok (.iload 5, 2) := by decide +kernel
theorem dX3_holds_116 : decode cX3_holds 116 = .ok (.iaload, 1) := by decide +kernel
theorem dX3_holds_117 : decode cX3_holds 117 = .ok (.bipush 48, 2) := by decide +kernel
theorem dX3_holds_119 : decode cX3_holds 119 = .ok (.isub, 1) := by decide +kernel
theorem dX3_holds_120 : decode cX3_holds 120 = .ok (.iload 6, 2) := by decide +kernel
theorem dX3_holds_122 : decode cX3_holds 122 = .ok (.ifCond .ne 7, 3) := by decide +kernel
theorem dX3_holds_125 : decode cX3_holds 125 = .ok (.iconst 1, 1) := by decide +kernel
theorem dX3_holds_126 : decode cX3_holds 126 = .ok (.goto 4, 3) := by decide +kernel
theorem dX3_holds_129 : decode cX3_holds 129 = .ok (.iconst 0, 1) := by decide +kernel
theorem dX3_holds_130 : decode cX3_holds 130 = .ok (.invokevirtual 52, 3) := by decide +kernel
theorem dX3_holds_133 : decode cX3_holds 133 = .ok (.goto 11, 3) := by decide +kernel
theorem dX3_holds_136 : decode cX3_holds 136 = .ok (.aload_n 0, 1) := by decide +kernel
theorem dX3_holds_137 : decode cX3_holds 137 = .ok (.aload_n 1, 1) := by decide +kernel
theorem dX3_holds_138 : decode cX3_holds 138 = .ok (.iload 5, 2) := by decide +kernel
theorem dX3_holds_140 : decode cX3_holds 140 = .ok (.iaload, 1) := by decide +kernel
theorem dX3_holds_141 : decode cX3_holds 141 = .ok (.invokevirtual 56, 3) := by decide +kernel
theorem dX3_holds_144 : decode cX3_holds 144 = .ok (.iinc 5 1, 3) := by decide +kernel
theorem dX3_holds_147 : decode cX3_holds 147 = .ok (.goto (-121), 3) := by decide +kernel
theorem dX3_holds_150 : decode cX3_holds 150 = .ok (.aload_n 0, 1) := by decide +kernel
theorem dX3_holds_151 : decode cX3_holds 151 = .ok (.invokevirtual 59, 3) := by decide +kernel
theorem dX3_holds_154 : decode cX3_holds 154 = .ok (.aload_n 0, 1) := by decide +kernel
theorem dX3_holds_155 : decode cX3_holds 155 = .ok (.getfield 9, 3) := by decide +kernel
theorem dX3_holds_158 : decode cX3_holds 158 = .ok (.iconst 0, 1) := by decide +kernel
theorem dX3_holds_159 : decode cX3_holds 159 = .ok (.baload, 1) := by decide +kernel
theorem dX3_holds_160 : decode cX3_holds 160 = .ok (.ifCond .ne 12, 3) := by decide +kernel
theorem dX3_holds_163 : decode cX3_holds 163 = .ok (.aload_n 0, 1) := by decide +kernel
theorem dX3_holds_164 : decode cX3_holds 164 = .ok (.getfield 15, 3) := by decide +kernel
theorem dX3_holds_167 : decode cX3_holds 167 = .ok (.iconst 0, 1) := by decide +kernel
theorem dX3_holds_168 : decode cX3_holds 168 = .ok (.baload, 1) := by decide +kernel
theorem dX3_holds_169 : decode cX3_holds 169 = .ok (.ifCond .eq 7, 3) := by decide +kernel
theorem dX3_holds_172 : decode cX3_holds 172 = .ok (.iconst 1, 1) := by decide +kernel
theorem dX3_holds_173 : decode cX3_holds 173 = .ok (.goto 4, 3) := by decide +kernel
theorem dX3_holds_176 : decode cX3_holds 176 = .ok (.iconst 0, 1) := by decide +kernel
theorem dX3_holds_177 : decode cX3_holds 177 = .ok (.ireturn, 1) := by decide +kernel
def B_X3_holds_172 (M : Mem) : Option (Int32 × Mem) := some ((1 : Int32), M)
def B_X3_holds_150 (a0 : Nat) (M : Mem) : Option (Int32 × Mem) := (f_X3_endTest a0 M).bind fun q12 => if (mI q12 (a0 + 1) 0) = 0 then if (mI q12 (a0 + 2) 0) = 0 then some ((0 : Int32), q12) else B_X3_holds_172 q12 else B_X3_holds_172 q12
def B_X3_holds_144 (rc_26 : Nat → Nat → Int32 → Nat → Int32 → Int32 → Mem → Option (Int32 × Mem)) (a0 : Nat) (a1 : Nat) (x2 : Int32) (a3 : Nat) (x4 : Int32) (x5 : Int32) (M : Mem) : Option (Int32 × Mem) := rc_26 a0 a1 x2 a3 x4 (x5 + 1) M
def B_X3_holds_109 (rc_26 : Nat → Nat → Int32 → Nat → Int32 → Int32 → Mem → Option (Int32 × Mem)) (a0 : Nat) (a1 : Nat) (x2 : Int32) (a3 : Nat) (x4 : Int32) (x5 : Int32) (M : Mem) : Option (Int32 × Mem) := gd (inR x5 (ln a1)) (if (0 : Int32) = 0 then (f_X3_takeDigit a0 ((mI M a1 x5.toNatClampNeg) - (48 : Int32)) (1 : Int32) M).bind fun q37 => B_X3_holds_144 rc_26 a0 a1 x2 a3 x4 x5 q37 else (f_X3_takeDigit a0 ((mI M a1 x5.toNatClampNeg) - (48 : Int32)) (0 : Int32) M).bind fun q33 => B_X3_holds_144 rc_26 a0 a1 x2 a3 x4 x5 q33)
def L_X3_holds_26 : Nat → Nat → Nat → Int32 → Nat → Int32 → Int32 → Mem → Option (Int32 × Mem)
  | 0, _, _, _, _, _, _, _ => none
  | n + 1, a0, a1, x2, a3, x4, x5, M => if x2 ≤ x5 then B_X3_holds_150 a0 M else if (Int32.ofNat (ln a1)) ≤ x5 then B_X3_holds_150 a0 M else gd (inR x5 (ln a1)) (if (f_X2_isField (mI M a1 x5.toNatClampNeg)) = 0 then if (f_X2_isDigit (mI M a1 x5.toNatClampNeg)) = 0 then (f_X3_takeSign a0 (mI M a1 x5.toNatClampNeg) M).bind fun q26 => B_X3_holds_144 (L_X3_holds_26 n) a0 a1 x2 a3 x4 x5 q26 else if x2 ≤ (x5 + (1 : Int32)) then B_X3_holds_109 (L_X3_holds_26 n) a0 a1 x2 a3 x4 x5 M else if (Int32.ofNat (ln a1)) ≤ (x5 + (1 : Int32)) then B_X3_holds_109 (L_X3_holds_26 n) a0 a1 x2 a3 x4 x5 M else gd (inR (x5 + (1 : Int32)) (ln a1)) (if (f_X2_isDigit (mI M a1 (x5 + (1 : Int32)).toNatClampNeg)) = 0 then B_X3_holds_109 (L_X3_holds_26 n) a0 a1 x2 a3 x4 x5 M else if (1 : Int32) = 0 then (f_X3_takeDigit a0 ((mI M a1 x5.toNatClampNeg) - (48 : Int32)) (1 : Int32) M).bind fun q51 => B_X3_holds_144 (L_X3_holds_26 n) a0 a1 x2 a3 x4 x5 q51 else (f_X3_takeDigit a0 ((mI M a1 x5.toNatClampNeg) - (48 : Int32)) (0 : Int32) M).bind fun q47 => B_X3_holds_144 (L_X3_holds_26 n) a0 a1 x2 a3 x4 x5 q47) else (f_X3_fieldOf (mI M a1 x5.toNatClampNeg) a3 x4 M).bind fun q55 => (f_X3_takeAtom a0 q55 M).bind fun q59 => B_X3_holds_144 (L_X3_holds_26 n) a0 a1 x2 a3 x4 x5 q59)
def f_X3_holds (a0 : Nat) (a1 : Nat) (x2 : Int32) (a3 : Nat) (x4 : Int32) (M : Mem) : Option (Int32 × Mem) := (f_X3_beginGroup a0 (sI M a0 3 (0 : Int32))).bind fun q3 => (f_X3_beginSum a0 q3).bind fun q7 => L_X3_holds_26 FU a0 a1 x2 a3 x4 (2 : Int32) (sI (sI q7 a0 5 (0 : Int32)) a0 10 (0 : Int32))
set_option maxRecDepth 100000 in
set_option maxHeartbeats 4000000 in
theorem b_X3_holds_172 (Z : Sys) (X : Cx) (hR : xR X = rm_X3_holds) {q : Int32 × Mem} (hq : RetOk Z X (some .boolean) False (PostZ q.1 q.2) 0 0) {M : Mem} (hs : St M) (hf : B_X3_holds_172 M = some q) : G Z X Y_X3_holds False 0 0 172 [] [] M := by
  unfold B_X3_holds_172 at hf
  refine G.iconst 172 (1 : Int32) dX3_holds_172 (by decide +kernel) ?_
  refine G.goto 173 177 dX3_holds_173 (by decide) ?_
  (have hf9 := Option.some.inj hf; subst hf9)
  exact G.rZ 177 hq dX3_holds_177 hs (Or.inr rfl)
set_option maxRecDepth 100000 in
set_option maxHeartbeats 4000000 in
theorem b_X3_holds_150 (Z : Sys) (X : Cx) (hR : xR X = rm_X3_holds) {q : Int32 × Mem} (hq : RetOk Z X (some .boolean) False (PostZ q.1 q.2) 0 0) (a0 : Nat) {M : Mem} (hs : St M) (k_a0 : K0[a0]? = some (3, 11)) (hf : B_X3_holds_150 a0 M = some q) : G Z X Y_X3_holds False 0 0 150 [(0, .ref (zs Z + a0))] [] M := by
  unfold B_X3_holds_150 at hf
  refine G.aload_n 150 0 dX3_holds_150 rfl rfl ?_
  obtain ⟨q12, e13, hf⟩ := bd_e hf
  refine G.cvV 151 (As := []) ck_3 (hs.k k_a0) (c_X3_endTest Z hs a0 k_a0 e13) mk_X3_endTest vk_X3_endTest rfl wd_1062 hR (by decide +kernel) ⟨rfl, rfl⟩ rfl (Nat.le_of_ble_eq_true rfl) dX3_holds_151 (fun hs10 => ?_)
  refine G.aload_n 154 0 dX3_holds_154 rfl rfl ?_
  refine G.getp 155 ck_3 0 (a0 + 1) (hs10.k k_a0) (pt_3_0 hs10 k_a0).1 (by decide) (by decide +kernel) wd_127 dX3_holds_155 ?_
  refine G.iconst 158 (0 : Int32) dX3_holds_158 (by decide +kernel) ?_
  refine G.za 159 0 (hs10.k (pt_3_0 hs10 k_a0).2) (by decide +kernel) (by decide +kernel) dX3_holds_159 ?_
  refine G.if_ne 160 172 dX3_holds_160 (by decide) (fun h14 => ?_) (fun h14 => ?_)
  · replace hf := (if_neg h14).symm.trans hf
    refine G.locs [] rfl ?_
    exact b_X3_holds_172 Z X hR hq hs10 hf
  · replace hf := (if_pos h14).symm.trans hf
    refine G.aload_n 163 0 dX3_holds_163 rfl rfl ?_
    refine G.getp 164 ck_3 1 (a0 + 2) (hs10.k k_a0) (pt_3_1 hs10 k_a0).1 (by decide) (by decide +kernel) wd_128 dX3_holds_164 ?_
    refine G.iconst 167 (0 : Int32) dX3_holds_167 (by decide +kernel) ?_
    refine G.za 168 0 (hs10.k (pt_3_1 hs10 k_a0).2) (by decide +kernel) (by decide +kernel) dX3_holds_168 ?_
    refine G.if_eq 169 176 dX3_holds_169 (by decide) (fun h15 => ?_) (fun h15 => ?_)
    · replace hf := (if_pos h15).symm.trans hf
      refine G.iconst 176 (0 : Int32) dX3_holds_176 (by decide +kernel) ?_
      (have hf9 := Option.some.inj hf; subst hf9)
      exact G.rZ 177 hq dX3_holds_177 hs10 (Or.inl rfl)
    · replace hf := (if_neg h15).symm.trans hf
      refine G.locs [] rfl ?_
      exact b_X3_holds_172 Z X hR hq hs10 hf
set_option maxRecDepth 100000 in
set_option maxHeartbeats 4000000 in
theorem b_X3_holds_144 (Z : Sys) (X : Cx) (hR : xR X = rm_X3_holds) {q : Int32 × Mem} (hq : RetOk Z X (some .boolean) False (PostZ q.1 q.2) 0 0) (rc_26 : Nat → Nat → Int32 → Nat → Int32 → Int32 → Mem → Option (Int32 × Mem)) (hrc_26 : ∀ (a0 : Nat) (a1 : Nat) (x2 : Int32) (a3 : Nat) (x4 : Int32) (x5 : Int32) (M : Mem), St M → K0[a0]? = some (3, 11) → K0[a1]? = some (10, (ln a1)) → K0[a3]? = some (1, 12) → rc_26 a0 a1 x2 a3 x4 x5 M = some q → G Z X Y_X3_holds False 0 0 26 [(0, .ref (zs Z + a0)), (1, .ref (zs Z + a1)), (2, .int x2), (3, .ref (zs Z + a3)), (4, .int x4), (5, .int x5)] [] M) (a0 : Nat) (a1 : Nat) (x2 : Int32) (a3 : Nat) (x4 : Int32) (x5 : Int32) {M : Mem} (hs : St M) (k_a0 : K0[a0]? = some (3, 11)) (k_a1 : K0[a1]? = some (10, (ln a1))) (k_a3 : K0[a3]? = some (1, 12)) (hf : B_X3_holds_144 rc_26 a0 a1 x2 a3 x4 x5 M = some q) : G Z X Y_X3_holds False 0 0 144 [(0, .ref (zs Z + a0)), (1, .ref (zs Z + a1)), (2, .int x2), (3, .ref (zs Z + a3)), (4, .int x4), (5, .int x5)] [] M := by
  unfold B_X3_holds_144 at hf
  refine G.iinc 144 5 (x5 + 1) [(5, .int (x5 + 1)), (0, .ref (zs Z + a0)), (1, .ref (zs Z + a1)), (2, .int x2), (3, .ref (zs Z + a3)), (4, .int x4)] dX3_holds_144 rfl (congrArg (fun z => x5 + z) (by decide +kernel)) (Nat.le_of_ble_eq_true rfl) rfl ?_
  refine G.goto 147 26 dX3_holds_147 (by decide) ?_
  refine G.locs [1, 2, 3, 4, 5, 0] rfl ?_
  exact hrc_26 a0 a1 x2 a3 x4 (x5 + 1) M hs k_a0 (ln_k k_a1) k_a3 hf
set_option maxRecDepth 100000 in
set_option maxHeartbeats 4000000 in
theorem b_X3_holds_109 (Z : Sys) (X : Cx) (hR : xR X = rm_X3_holds) {q : Int32 × Mem} (hq : RetOk Z X (some .boolean) False (PostZ q.1 q.2) 0 0) (rc_26 : Nat → Nat → Int32 → Nat → Int32 → Int32 → Mem → Option (Int32 × Mem)) (hrc_26 : ∀ (a0 : Nat) (a1 : Nat) (x2 : Int32) (a3 : Nat) (x4 : Int32) (x5 : Int32) (M : Mem), St M → K0[a0]? = some (3, 11) → K0[a1]? = some (10, (ln a1)) → K0[a3]? = some (1, 12) → rc_26 a0 a1 x2 a3 x4 x5 M = some q → G Z X Y_X3_holds False 0 0 26 [(0, .ref (zs Z + a0)), (1, .ref (zs Z + a1)), (2, .int x2), (3, .ref (zs Z + a3)), (4, .int x4), (5, .int x5)] [] M) (a0 : Nat) (a1 : Nat) (x2 : Int32) (a3 : Nat) (x4 : Int32) (x5 : Int32) {M : Mem} (hs : St M) (k_a0 : K0[a0]? = some (3, 11)) (k_a1 : K0[a1]? = some (10, (ln a1))) (k_a3 : K0[a3]? = some (1, 12)) (hf : B_X3_holds_109 rc_26 a0 a1 x2 a3 x4 x5 M = some q) : G Z X Y_X3_holds False 0 0 109 [(0, .ref (zs Z + a0)), (1, .ref (zs Z + a1)), (2, .int x2), (3, .ref (zs Z + a3)), (4, .int x4), (5, .int x5)] [] M := by
  unfold B_X3_holds_109 at hf
  refine G.iconst 109 (0 : Int32) dX3_holds_109 (by decide +kernel) ?_
  refine G.istore 110 [(6, .int (0 : Int32)), (0, .ref (zs Z + a0)), (1, .ref (zs Z + a1)), (2, .int x2), (3, .ref (zs Z + a3)), (4, .int x4), (5, .int x5)] dX3_holds_110 (Nat.le_of_ble_eq_true rfl) rfl ?_
  refine G.aload_n 112 1 dX3_holds_112 rfl rfl ?_
  refine G.aload_n 113 2 dX3_holds_113 rfl rfl ?_
  refine G.iload 114 6 dX3_holds_114 rfl ?_
  obtain ⟨g29, hf⟩ := gd_e hf
  refine G.ia 116 x5.toNatClampNeg (hs.k k_a1) g29 rfl dX3_holds_116 ?_
  refine G.bipush 117 (48 : Int32) dX3_holds_117 (by decide +kernel) ?_
  refine G.isub 119 dX3_holds_119 ?_
  refine G.iload 120 0 dX3_holds_120 rfl ?_
  refine G.if_ne 122 129 dX3_holds_122 (by decide) (fun h30 => ?_) (fun h30 => ?_)
  · replace hf := (if_neg h30).symm.trans hf
    refine G.iconst 129 (0 : Int32) dX3_holds_129 (by decide +kernel) ?_
    obtain ⟨q33, e34, hf⟩ := bd_e hf
    refine G.cvV 130 (As := [.int ((mI M a1 x5.toNatClampNeg) - (48 : Int32)), .int (0 : Int32)]) ck_3 (hs.k k_a0) (c_X3_takeDigit Z hs a0 ((mI M a1 x5.toNatClampNeg) - (48 : Int32)) (0 : Int32) k_a0 e34) mk_X3_takeDigit vk_X3_takeDigit rfl wd_1050 hR (by decide +kernel) ⟨rfl, rfl⟩ rfl (Nat.le_of_ble_eq_true rfl) dX3_holds_130 (fun hs31 => ?_)
    refine G.goto 133 144 dX3_holds_133 (by decide) ?_
    refine G.locs [1, 2, 3, 4, 5, 6] rfl ?_
    exact b_X3_holds_144 Z X hR hq rc_26 hrc_26 a0 a1 x2 a3 x4 x5 hs31 k_a0 (ln_k k_a1) k_a3 hf
  · replace hf := (if_pos h30).symm.trans hf
    refine G.iconst 125 (1 : Int32) dX3_holds_125 (by decide +kernel) ?_
    refine G.goto 126 130 dX3_holds_126 (by decide) ?_
    obtain ⟨q37, e38, hf⟩ := bd_e hf
    refine G.cvV 130 (As := [.int ((mI M a1 x5.toNatClampNeg) - (48 : Int32)), .int (1 : Int32)]) ck_3 (hs.k k_a0) (c_X3_takeDigit Z hs a0 ((mI M a1 x5.toNatClampNeg) - (48 : Int32)) (1 : Int32) k_a0 e38) mk_X3_takeDigit vk_X3_takeDigit rfl wd_1050 hR (by decide +kernel) ⟨rfl, rfl⟩ rfl (Nat.le_of_ble_eq_true rfl) dX3_holds_130 (fun hs35 => ?_)
    refine G.goto 133 144 dX3_holds_133 (by decide) ?_
    refine G.locs [1, 2, 3, 4, 5, 6] rfl ?_
    exact b_X3_holds_144 Z X hR hq rc_26 hrc_26 a0 a1 x2 a3 x4 x5 hs35 k_a0 (ln_k k_a1) k_a3 hf
set_option maxRecDepth 100000 in
set_option maxHeartbeats 4000000 in
theorem l_X3_holds_26 (Z : Sys) (X : Cx) (hR : xR X = rm_X3_holds) {q : Int32 × Mem} (hq : RetOk Z X (some .boolean) False (PostZ q.1 q.2) 0 0) : ∀ (n : Nat) (a0 : Nat) (a1 : Nat) (x2 : Int32) (a3 : Nat) (x4 : Int32) (x5 : Int32) (M : Mem) (hs : St M) (k_a0 : K0[a0]? = some (3, 11)) (k_a1 : K0[a1]? = some (10, (ln a1))) (k_a3 : K0[a3]? = some (1, 12)) (hf : L_X3_holds_26 n a0 a1 x2 a3 x4 x5 M = some q), G Z X Y_X3_holds False 0 0 26 [(0, .ref (zs Z + a0)), (1, .ref (zs Z + a1)), (2, .int x2), (3, .ref (zs Z + a3)), (4, .int x4), (5, .int x5)] [] M := by
  intro n
  induction n with
  | zero => intro a0 a1 x2 a3 x4 x5 M hs k_a0 k_a1 k_a3 hf; cases hf
  | succ n ih =>
    intro a0 a1 x2 a3 x4 x5 M hs k_a0 k_a1 k_a3 hf
    unfold L_X3_holds_26 at hf
    refine G.iload 26 5 dX3_holds_26 rfl ?_
    refine G.iload_n 28 2 dX3_holds_28 rfl rfl ?_
    refine G.icmp_ge 29 150 dX3_holds_29 (by decide) (fun h9 => ?_) (fun h9 => ?_)
    · replace hf := (if_pos h9).symm.trans hf
      refine G.locs [0] rfl ?_
      exact b_X3_holds_150 Z X hR hq a0 hs k_a0 hf
    · replace hf := (if_neg h9).symm.trans hf
      refine G.iload 32 5 dX3_holds_32 rfl ?_
      refine G.aload_n 34 1 dX3_holds_34 rfl rfl ?_
      refine G.alen 35 (Int32.ofNat (ln a1)) (hs.k k_a1) (by decide) rfl dX3_holds_35 ?_
      refine G.icmp_ge 36 150 dX3_holds_36 (by decide) (fun h16 => ?_) (fun h16 => ?_)
      · replace hf := (if_pos h16).symm.trans hf
        refine G.locs [0] rfl ?_
        exact b_X3_holds_150 Z X hR hq a0 hs k_a0 hf
      · replace hf := (if_neg h16).symm.trans hf
        refine G.aload_n 39 1 dX3_holds_39 rfl rfl ?_
        refine G.iload 40 5 dX3_holds_40 rfl ?_
        obtain ⟨g17, hf⟩ := gd_e hf
        refine G.ia 42 x5.toNatClampNeg (hs.k k_a1) g17 rfl dX3_holds_42 ?_
        refine G.csZ 43 (As := [.int (mI M a1 x5.toNatClampNeg)]) (c_X2_isField Z hs (mI M a1 x5.toNatClampNeg) rfl) mk_X2_isField wd_906 wd_1040 hR (by decide +kernel) ⟨rfl, rfl⟩ rfl (Nat.le_of_ble_eq_true rfl) dX3_holds_43 (fun hs18 z19 => ?_)
        refine G.if_eq 46 66 dX3_holds_46 (by decide) (fun h20 => ?_) (fun h20 => ?_)
        · replace hf := (if_pos h20).symm.trans hf
          refine G.aload_n 66 1 dX3_holds_66 rfl rfl ?_
          refine G.iload 67 5 dX3_holds_67 rfl ?_
          refine G.ia 69 x5.toNatClampNeg (hs18.k k_a1) g17 rfl dX3_holds_69 ?_
          refine G.csZ 70 (As := [.int (mI M a1 x5.toNatClampNeg)]) (c_X2_isDigit Z hs18 (mI M a1 x5.toNatClampNeg) rfl) mk_X2_isDigit wd_903 wd_1049 hR (by decide +kernel) ⟨rfl, rfl⟩ rfl (Nat.le_of_ble_eq_true rfl) dX3_holds_70 (fun hs21 z22 => ?_)
          refine G.if_eq 73 136 dX3_holds_73 (by decide) (fun h23 => ?_) (fun h23 => ?_)
          · replace hf := (if_pos h23).symm.trans hf
            refine G.aload_n 136 0 dX3_holds_136 rfl rfl ?_
            refine G.aload_n 137 1 dX3_holds_137 rfl rfl ?_
            refine G.iload 138 5 dX3_holds_138 rfl ?_
            refine G.ia 140 x5.toNatClampNeg (hs21.k k_a1) g17 rfl dX3_holds_140 ?_
            obtain ⟨q26, e27, hf⟩ := bd_e hf
            refine G.cvV 141 (As := [.int (mI M a1 x5.toNatClampNeg)]) ck_3 (hs21.k k_a0) (c_X3_takeSign Z hs21 a0 (mI M a1 x5.toNatClampNeg) k_a0 e27) mk_X3_takeSign vk_X3_takeSign rfl wd_1054 hR (by decide +kernel) ⟨rfl, rfl⟩ rfl (Nat.le_of_ble_eq_true rfl) dX3_holds_141 (fun hs24 => ?_)
            exact b_X3_holds_144 Z X hR hq (L_X3_holds_26 n) ih a0 a1 x2 a3 x4 x5 hs24 k_a0 (ln_k k_a1) k_a3 hf
          · replace hf := (if_neg h23).symm.trans hf
            refine G.iload 76 5 dX3_holds_76 rfl ?_
            refine G.iconst 78 (1 : Int32) dX3_holds_78 (by decide +kernel) ?_
            refine G.iadd 79 dX3_holds_79 ?_
            refine G.iload_n 80 2 dX3_holds_80 rfl rfl ?_
            refine G.icmp_ge 81 109 dX3_holds_81 (by decide) (fun h28 => ?_) (fun h28 => ?_)
            · replace hf := (if_pos h28).symm.trans hf
              exact b_X3_holds_109 Z X hR hq (L_X3_holds_26 n) ih a0 a1 x2 a3 x4 x5 hs21 k_a0 (ln_k k_a1) k_a3 hf
            · replace hf := (if_neg h28).symm.trans hf
              refine G.iload 84 5 dX3_holds_84 rfl ?_
              refine G.iconst 86 (1 : Int32) dX3_holds_86 (by decide +kernel) ?_
              refine G.iadd 87 dX3_holds_87 ?_
              refine G.aload_n 88 1 dX3_holds_88 rfl rfl ?_
              refine G.alen 89 (Int32.ofNat (ln a1)) (hs21.k k_a1) (by decide) rfl dX3_holds_89 ?_
              refine G.icmp_ge 90 109 dX3_holds_90 (by decide) (fun h39 => ?_) (fun h39 => ?_)
              · replace hf := (if_pos h39).symm.trans hf
                exact b_X3_holds_109 Z X hR hq (L_X3_holds_26 n) ih a0 a1 x2 a3 x4 x5 hs21 k_a0 (ln_k k_a1) k_a3 hf
              · replace hf := (if_neg h39).symm.trans hf
                refine G.aload_n 93 1 dX3_holds_93 rfl rfl ?_
                refine G.iload 94 5 dX3_holds_94 rfl ?_
                refine G.iconst 96 (1 : Int32) dX3_holds_96 (by decide +kernel) ?_
                refine G.iadd 97 dX3_holds_97 ?_
                obtain ⟨g40, hf⟩ := gd_e hf
                refine G.ia 98 (x5 + (1 : Int32)).toNatClampNeg (hs21.k k_a1) g40 rfl dX3_holds_98 ?_
                refine G.csZ 99 (As := [.int (mI M a1 (x5 + (1 : Int32)).toNatClampNeg)]) (c_X2_isDigit Z hs21 (mI M a1 (x5 + (1 : Int32)).toNatClampNeg) rfl) mk_X2_isDigit wd_903 wd_1049 hR (by decide +kernel) ⟨rfl, rfl⟩ rfl (Nat.le_of_ble_eq_true rfl) dX3_holds_99 (fun hs41 z42 => ?_)
                refine G.if_eq 102 109 dX3_holds_102 (by decide) (fun h43 => ?_) (fun h43 => ?_)
                · replace hf := (if_pos h43).symm.trans hf
                  exact b_X3_holds_109 Z X hR hq (L_X3_holds_26 n) ih a0 a1 x2 a3 x4 x5 hs41 k_a0 (ln_k k_a1) k_a3 hf
                · replace hf := (if_neg h43).symm.trans hf
                  refine G.iconst 105 (1 : Int32) dX3_holds_105 (by decide +kernel) ?_
                  refine G.goto 106 110 dX3_holds_106 (by decide) ?_
                  refine G.istore 110 [(6, .int (1 : Int32)), (0, .ref (zs Z + a0)), (1, .ref (zs Z + a1)), (2, .int x2), (3, .ref (zs Z + a3)), (4, .int x4), (5, .int x5)] dX3_holds_110 (Nat.le_of_ble_eq_true rfl) rfl ?_
                  refine G.aload_n 112 1 dX3_holds_112 rfl rfl ?_
                  refine G.aload_n 113 2 dX3_holds_113 rfl rfl ?_
                  refine G.iload 114 6 dX3_holds_114 rfl ?_
                  refine G.ia 116 x5.toNatClampNeg (hs41.k k_a1) g17 rfl dX3_holds_116 ?_
                  refine G.bipush 117 (48 : Int32) dX3_holds_117 (by decide +kernel) ?_
                  refine G.isub 119 dX3_holds_119 ?_
                  refine G.iload 120 0 dX3_holds_120 rfl ?_
                  refine G.if_ne 122 129 dX3_holds_122 (by decide) (fun h44 => ?_) (fun h44 => ?_)
                  · replace hf := (if_neg h44).symm.trans hf
                    refine G.iconst 129 (0 : Int32) dX3_holds_129 (by decide +kernel) ?_
                    obtain ⟨q47, e48, hf⟩ := bd_e hf
                    refine G.cvV 130 (As := [.int ((mI M a1 x5.toNatClampNeg) - (48 : Int32)), .int (0 : Int32)]) ck_3 (hs41.k k_a0) (c_X3_takeDigit Z hs41 a0 ((mI M a1 x5.toNatClampNeg) - (48 : Int32)) (0 : Int32) k_a0 e48) mk_X3_takeDigit vk_X3_takeDigit rfl wd_1050 hR (by decide +kernel) ⟨rfl, rfl⟩ rfl (Nat.le_of_ble_eq_true rfl) dX3_holds_130 (fun hs45 => ?_)
                    refine G.goto 133 144 dX3_holds_133 (by decide) ?_
                    refine G.locs [1, 2, 3, 4, 5, 6] rfl ?_
                    exact b_X3_holds_144 Z X hR hq (L_X3_holds_26 n) ih a0 a1 x2 a3 x4 x5 hs45 k_a0 (ln_k k_a1) k_a3 hf
                  · replace hf := (if_pos h44).symm.trans hf
                    refine G.iconst 125 (1 : Int32) dX3_holds_125 (by decide +kernel) ?_
                    refine G.goto 126 130 dX3_holds_126 (by decide) ?_
                    obtain ⟨q51, e52, hf⟩ := bd_e hf
                    refine G.cvV 130 (As := [.int ((mI M a1 x5.toNatClampNeg) - (48 : Int32)), .int (1 : Int32)]) ck_3 (hs41.k k_a0) (c_X3_takeDigit Z hs41 a0 ((mI M a1 x5.toNatClampNeg) - (48 : Int32)) (1 : Int32) k_a0 e52) mk_X3_takeDigit vk_X3_takeDigit rfl wd_1050 hR (by decide +kernel) ⟨rfl, rfl⟩ rfl (Nat.le_of_ble_eq_true rfl) dX3_holds_130 (fun hs49 => ?_)
                    refine G.goto 133 144 dX3_holds_133 (by decide) ?_
                    refine G.locs [1, 2, 3, 4, 5, 6] rfl ?_
                    exact b_X3_holds_144 Z X hR hq (L_X3_holds_26 n) ih a0 a1 x2 a3 x4 x5 hs49 k_a0 (ln_k k_a1) k_a3 hf
        · replace hf := (if_neg h20).symm.trans hf
          refine G.aload_n 49 0 dX3_holds_49 rfl rfl ?_
          refine G.aload_n 50 1 dX3_holds_50 rfl rfl ?_
          refine G.iload 51 5 dX3_holds_51 rfl ?_
          refine G.ia 53 x5.toNatClampNeg (hs18.k k_a1) g17 rfl dX3_holds_53 ?_
          refine G.aload_n 54 3 dX3_holds_54 rfl rfl ?_
          refine G.iload 55 4 dX3_holds_55 rfl ?_
          obtain ⟨q55, e56, hf⟩ := bd_e hf
          refine G.csI 57 (As := [.int (mI M a1 x5.toNatClampNeg), .ref (zs Z + a3), .int x4]) (c_X3_fieldOf Z hs18 (mI M a1 x5.toNatClampNeg) a3 x4 k_a3 e56) mk_X3_fieldOf wd_1042 wd_1041 hR (by decide +kernel) ⟨rfl, rfl⟩ rfl (Nat.le_of_ble_eq_true rfl) dX3_holds_57 (fun hs53 => ?_)
          obtain ⟨q59, e60, hf⟩ := bd_e hf
          refine G.cvV 60 (As := [.int q55]) ck_3 (hs53.k k_a0) (c_X3_takeAtom Z hs53 a0 q55 k_a0 e60) mk_X3_takeAtom vk_X3_takeAtom rfl wd_1045 hR (by decide +kernel) ⟨rfl, rfl⟩ rfl (Nat.le_of_ble_eq_true rfl) dX3_holds_60 (fun hs57 => ?_)
          refine G.goto 63 144 dX3_holds_63 (by decide) ?_
          exact b_X3_holds_144 Z X hR hq (L_X3_holds_26 n) ih a0 a1 x2 a3 x4 x5 hs57 k_a0 (ln_k k_a1) k_a3 hf
set_option maxRecDepth 100000 in
set_option maxHeartbeats 4000000 in
theorem c_X3_holds (Z : Sys) {M : Mem} (hs : St M) (a0 : Nat) (a1 : Nat) (x2 : Int32) (a3 : Nat) (x4 : Int32) (k_a0 : K0[a0]? = some (3, 11)) (k_a1 : K0[a1]? = some (10, (ln a1))) (k_a3 : K0[a3]? = some (1, 12)) {q : Int32 × Mem} (hf : f_X3_holds a0 a1 x2 a3 x4 M = some q) : Ct Z yX3_holds cX3_holds 7 (some .boolean) rm_X3_holds [.ref (zs Z + a0), .ref (zs Z + a1), .int x2, .ref (zs Z + a3), .int x4] M False (PostZ q.1 q.2) := by
  refine Ct.of (by decide +kernel) (Nat.le_of_ble_eq_true rfl) (fun X hR hq _ => ?_)
  show G Z X Y_X3_holds False 0 0 0 [(0, .ref (zs Z + a0)), (1, .ref (zs Z + a1)), (2, .int x2), (3, .ref (zs Z + a3)), (4, .int x4)] [] M
  replace hq : RetOk Z X (some .boolean) False (PostZ q.1 q.2) 0 0 := hq
  unfold f_X3_holds at hf
  refine G.aload_n 0 0 dX3_holds_0 rfl rfl ?_
  refine G.iconst 1 (0 : Int32) dX3_holds_1 (by decide +kernel) ?_
  refine G.puti 2 ck_3 3 (hs.k k_a0) (by decide) (by decide +kernel) rfl wd_130 rfl rfl dX3_holds_2 ?_
  refine G.aload_n 5 0 dX3_holds_5 rfl rfl ?_
  obtain ⟨q3, e4, hf⟩ := bd_e hf
  refine G.cvV 6 (As := []) ck_3 ((St.i hs).k k_a0) (c_X3_beginGroup Z (St.i hs) a0 k_a0 e4) mk_X3_beginGroup vk_X3_beginGroup rfl wd_1028 hR (by decide +kernel) ⟨rfl, rfl⟩ rfl (Nat.le_of_ble_eq_true rfl) dX3_holds_6 (fun hs1 => ?_)
  refine G.aload_n 9 0 dX3_holds_9 rfl rfl ?_
  obtain ⟨q7, e8, hf⟩ := bd_e hf
  refine G.cvV 10 (As := []) ck_3 (hs1.k k_a0) (c_X3_beginSum Z hs1 a0 k_a0 e8) mk_X3_beginSum vk_X3_beginSum rfl wd_1032 hR (by decide +kernel) ⟨rfl, rfl⟩ rfl (Nat.le_of_ble_eq_true rfl) dX3_holds_10 (fun hs5 => ?_)
  refine G.aload_n 13 0 dX3_holds_13 rfl rfl ?_
  refine G.iconst 14 (0 : Int32) dX3_holds_14 (by decide +kernel) ?_
  refine G.puti 15 ck_3 5 (hs5.k k_a0) (by decide) (by decide +kernel) rfl wd_132 rfl rfl dX3_holds_15 ?_
  refine G.aload_n 18 0 dX3_holds_18 rfl rfl ?_
  refine G.iconst 19 (0 : Int32) dX3_holds_19 (by decide +kernel) ?_
  refine G.puti 20 ck_3 10 ((St.i hs5).k k_a0) (by decide) (by decide +kernel) rfl wd_137 rfl rfl dX3_holds_20 ?_
  refine G.iconst 23 (2 : Int32) dX3_holds_23 (by decide +kernel) ?_
  refine G.istore 24 [(5, .int (2 : Int32)), (0, .ref (zs Z + a0)), (1, .ref (zs Z + a1)), (2, .int x2), (3, .ref (zs Z + a3)), (4, .int x4)] dX3_holds_24 (Nat.le_of_ble_eq_true rfl) rfl ?_
  refine G.locs [1, 2, 3, 4, 5, 0] rfl ?_
  exact l_X3_holds_26 Z X hR hq FU a0 a1 x2 a3 x4 (2 : Int32) (sI (sI q7 a0 5 (0 : Int32)) a0 10 (0 : Int32)) (St.i (St.i hs5)) k_a0 (ln_k k_a1) k_a3 hf
abbrev Y_X0_nameOf : My := (cX0_nameOf, RX0, 3)
def rm_X0_nameOf : Room := { frames := 22, cells := 0, slots := 0, locals := 1046 }
theorem dX0_nameOf_0 : decode cX0_nameOf 0 = .ok (.aload_n 0, 1) := by decide +kernel
theorem dX0_nameOf_1 : decode cX0_nameOf 1 = .ok (.getfield 13, 3) := by decide +kernel
theorem dX0_nameOf_4 : decode cX0_nameOf 4 = .ok (.iload_n 1, 1) := by decide +kernel
theorem dX0_nameOf_5 : decode cX0_nameOf 5 = .ok (.aaload, 1) := by decide +kernel
theorem dX0_nameOf_6 : decode cX0_nameOf 6 = .ok (.getfield 78, 3) := by decide +kernel
theorem dX0_nameOf_9 : decode cX0_nameOf 9 = .ok (.ifCond .eq 6, 3) := by decide +kernel
theorem dX0_nameOf_12 : decode cX0_nameOf 12 = .ok (.bipush (-4), 2) := by decide +kernel
theorem dX0_nameOf_14 : decode cX0_nameOf 14 = .ok (.ireturn, 1) := by decide +kernel
theorem dX0_nameOf_15 : decode cX0_nameOf 15 = .ok (.iconst 0, 1) := by decide +kernel
theorem dX0_nameOf_16 : decode cX0_nameOf 16 = .ok (.istore_n 2, 1) := by decide +kernel
theorem dX0_nameOf_17 : decode cX0_nameOf 17 = .ok (.iload_n 2, 1) := by decide +kernel
theorem dX0_nameOf_18 : decode cX0_nameOf 18 = .ok (.aload_n 0, 1) := by decide +kernel
theorem dX0_nameOf_19 : decode cX0_nameOf 19 = .ok (.getfield 67, 3) := by decide +kernel
theorem dX0_nameOf_22 : decode cX0_nameOf 22 = .ok (.if_icmp .ge 47, 3) := by decide +kernel
theorem dX0_nameOf_25 : decode cX0_nameOf 25 = .ok (.aload_n 0, 1) := by decide +kernel
theorem dX0_nameOf_26 : decode cX0_nameOf 26 = .ok (.getfield 42, 3) := by decide +kernel
theorem dX0_nameOf_29 : decode cX0_nameOf 29 = .ok (.aload_n 0, 1) := by decide +kernel
theorem dX0_nameOf_30 : decode cX0_nameOf 30 = .ok (.getfield 33, 3) := by decide +kernel
theorem dX0_nameOf_33 : decode cX0_nameOf 33 = .ok (.iload_n 2, 1) := by decide +kernel
theorem dX0_nameOf_34 : decode cX0_nameOf 34 = .ok (.aaload, 1) := by decide +kernel
theorem dX0_nameOf_35 : decode cX0_nameOf 35 = .ok (.aload_n 0, 1) := by decide +kernel
theorem dX0_nameOf_36 : decode cX0_nameOf 36 = .ok (.getfield 36, 3) := by decide +kernel
theorem dX0_nameOf_39 : decode cX0_nameOf 39 = .ok (.iload_n 2, 1) := by decide +kernel
theorem dX0_nameOf_40 : decode cX0_nameOf 40 = .ok (.iaload, 1) := by decide +kernel
theorem dX0_nameOf_41 : decode cX0_nameOf 41 = .ok (.aload_n 0, 1) := by decide +kernel
theorem dX0_nameOf_42 : decode cX0_nameOf 42 = .ok (.getfield 13, 3) := by decide +kernel
theorem dX0_nameOf_45 : decode cX0_nameOf 45 = .ok (.iload_n 1, 1) := by decide +kernel
theorem dX0_nameOf_46 : decode cX0_nameOf 46 = .ok (.aaload, 1) := by decide +kernel
theorem dX0_nameOf_47 : decode cX0_nameOf 47 = .ok (.iload_n 1, 1) := by decide +kernel
theorem dX0_nameOf_48 : decode cX0_nameOf 48 = .ok (.invokevirtual 82, 3) := by decide +kernel
theorem dX0_nameOf_51 : decode cX0_nameOf 51 = .ok (.ifCond .eq 12, 3) := by decide +kernel
theorem dX0_nameOf_54 : decode cX0_nameOf 54 = .ok (.aload_n 0, 1) := by decide +kernel
theorem dX0_nameOf_55 : decode cX0_nameOf 55 = .ok (.getfield 33, 3) := by decide +kernel
theorem dX0_nameOf_58 : decode cX0_nameOf 58 = .ok (.iload_n 2, 1) := by decide +kernel
theorem dX0_nameOf_59 : decode cX0_nameOf 59 = .ok (.aaload, 1) := by decide +kernel
theorem dX0_nameOf_60 : decode cX0_nameOf 60 = .ok (.iconst 0, 1) := by decide +kernel
theorem dX0_nameOf_61 : decode cX0_nameOf 61 = .ok (.iaload, 1) := by decide +kernel
theorem dX0_nameOf_62 : decode cX0_nameOf 62 = .ok (.ireturn, 1) := by decide +kernel
theorem dX0_nameOf_63 : decode cX0_nameOf 63 = .ok (.iinc 2 1, 3) := by decide +kernel
theorem dX0_nameOf_66 : decode cX0_nameOf 66 = .ok (.goto (-49), 3) := by decide +kernel
theorem dX0_nameOf_69 : decode cX0_nameOf 69 = .ok (.bipush (-4), 2) := by decide +kernel
theorem dX0_nameOf_71 : decode cX0_nameOf 71 = .ok (.ireturn, 1) := by decide +kernel
def L_X0_nameOf_17 : Nat → Nat → Int32 → Int32 → Mem → Option (Int32 × Mem)
  | 0, _, _, _, _ => none
  | n + 1, a0, x1, x2, M => if (mI M a0 8) ≤ x2 then some ((-4 : Int32), M) else gd (inR x2 10) (gd (inR x1 30) ((f_X3_holds (a0 + 18) ((a0 + 6) + 1 + 1 * x2.toNatClampNeg) (mI M (a0 + 17) x2.toNatClampNeg) ((a0 + 1) + 23 + 2 * x1.toNatClampNeg) x1 M).bind fun q8 => if q8.1 = 0 then L_X0_nameOf_17 n a0 x1 (x2 + 1) q8.2 else some ((mI q8.2 ((a0 + 6) + 1 + 1 * x2.toNatClampNeg) 0), q8.2)))
def f_X0_nameOf (a0 : Nat) (x1 : Int32) (M : Mem) : Option (Int32 × Mem) := gd (inR x1 30) (if (mI M ((a0 + 1) + 23 + 2 * x1.toNatClampNeg) 9) = 0 then L_X0_nameOf_17 FU a0 x1 (0 : Int32) M else some ((-4 : Int32), M))
set_option maxRecDepth 100000 in
set_option maxHeartbeats 4000000 in
theorem l_X0_nameOf_17 (Z : Sys) (X : Cx) (hR : xR X = rm_X0_nameOf) {q : Int32 × Mem} (hq : RetOk Z X (some .int) False (PostI q.1 q.2) 0 0) : ∀ (n : Nat) (a0 : Nat) (x1 : Int32) (x2 : Int32) (M : Mem) (hs : St M) (k_a0 : K0[a0]? = some (0, 12)) (hf : L_X0_nameOf_17 n a0 x1 x2 M = some q), G Z X Y_X0_nameOf False 0 0 17 [(0, .ref (zs Z + a0)), (1, .int x1), (2, .int x2)] [] M := by
  intro n
  induction n with
  | zero => intro a0 x1 x2 M hs k_a0 hf; cases hf
  | succ n ih =>
    intro a0 x1 x2 M hs k_a0 hf
    unfold L_X0_nameOf_17 at hf
    refine G.iload_n 17 2 dX0_nameOf_17 rfl rfl ?_
    refine G.aload_n 18 0 dX0_nameOf_18 rfl rfl ?_
    refine G.geti 19 ck_0 8 (hs.k k_a0) (by decide) (by decide +kernel) wd_275 dX0_nameOf_19 ?_
    refine G.icmp_ge 22 69 dX0_nameOf_22 (by decide) (fun h3 => ?_) (fun h3 => ?_)
    · replace hf := (if_pos h3).symm.trans hf
      refine G.bipush 69 (-4 : Int32) dX0_nameOf_69 (by decide +kernel) ?_
      (have hf9 := Option.some.inj hf; subst hf9)
      exact G.rI 71 hq dX0_nameOf_71 hs
    · replace hf := (if_neg h3).symm.trans hf
      refine G.aload_n 25 0 dX0_nameOf_25 rfl rfl ?_
      refine G.getp 26 ck_0 9 (a0 + 18) (hs.k k_a0) (pt_0_9 hs k_a0).1 (by decide) (by decide +kernel) wd_277 dX0_nameOf_26 ?_
      refine G.aload_n 29 0 dX0_nameOf_29 rfl rfl ?_
      refine G.getp 30 ck_0 6 (a0 + 6) (hs.k k_a0) (pt_0_6 hs k_a0).1 (by decide) (by decide +kernel) wd_273 dX0_nameOf_30 ?_
      refine G.iload_n 33 2 dX0_nameOf_33 rfl rfl ?_
      obtain ⟨g4, hf⟩ := gd_e hf
      refine G.aa 34 x2.toNatClampNeg ((a0 + 6) + 1 + 1 * x2.toNatClampNeg) (hs.k (pt_0_6 hs k_a0).2) (by decide) rfl rfl g4 rfl (pa_15 hs (pt_0_6 hs k_a0).2 (inlt g4)).1 dX0_nameOf_34 ?_
      refine G.aload_n 35 0 dX0_nameOf_35 rfl rfl ?_
      refine G.getp 36 ck_0 7 (a0 + 17) (hs.k k_a0) (pt_0_7 hs k_a0).1 (by decide) (by decide +kernel) wd_274 dX0_nameOf_36 ?_
      refine G.iload_n 39 2 dX0_nameOf_39 rfl rfl ?_
      refine G.ia 40 x2.toNatClampNeg (hs.k (pt_0_7 hs k_a0).2) g4 rfl dX0_nameOf_40 ?_
      refine G.aload_n 41 0 dX0_nameOf_41 rfl rfl ?_
      refine G.getp 42 ck_0 0 (a0 + 1) (hs.k k_a0) (pt_0_0 hs k_a0).1 (by decide) (by decide +kernel) wd_257 dX0_nameOf_42 ?_
      refine G.iload_n 45 1 dX0_nameOf_45 rfl rfl ?_
      obtain ⟨g5, hf⟩ := gd_e hf
      refine G.aa 46 x1.toNatClampNeg ((a0 + 1) + 23 + 2 * x1.toNatClampNeg) (hs.k (pt_0_0 hs k_a0).2) (by decide) rfl rfl g5 rfl (pa_13 hs (pt_0_0 hs k_a0).2 (inlt g5)).1 dX0_nameOf_46 ?_
      refine G.iload_n 47 1 dX0_nameOf_47 rfl rfl ?_
      obtain ⟨q8, e9, hf⟩ := bd_e hf
      refine G.cvZ 48 (As := [.ref (zs Z + ((a0 + 6) + 1 + 1 * x2.toNatClampNeg)), .int (mI M (a0 + 17) x2.toNatClampNeg), .ref (zs Z + ((a0 + 1) + 23 + 2 * x1.toNatClampNeg)), .int x1]) ck_3 (hs.k (pt_0_9 hs k_a0).2) (c_X3_holds Z hs (a0 + 18) ((a0 + 6) + 1 + 1 * x2.toNatClampNeg) (mI M (a0 + 17) x2.toNatClampNeg) ((a0 + 1) + 23 + 2 * x1.toNatClampNeg) x1 (pt_0_9 hs k_a0).2 (ln_k (pa_15 hs (pt_0_6 hs k_a0).2 (inlt g4)).2) (pa_13 hs (pt_0_0 hs k_a0).2 (inlt g5)).2 e9) mk_X3_holds vk_X3_holds rfl wd_1024 hR (by decide +kernel) ⟨rfl, rfl⟩ rfl (Nat.le_of_ble_eq_true rfl) dX0_nameOf_48 (fun hs6 z7 => ?_)
      refine G.if_eq 51 63 dX0_nameOf_51 (by decide) (fun h10 => ?_) (fun h10 => ?_)
      · replace hf := (if_pos h10).symm.trans hf
        refine G.iinc 63 2 (x2 + 1) [(2, .int (x2 + 1)), (0, .ref (zs Z + a0)), (1, .int x1)] dX0_nameOf_63 rfl (congrArg (fun z => x2 + z) (by decide +kernel)) (Nat.le_of_ble_eq_true rfl) rfl ?_
        refine G.goto 66 17 dX0_nameOf_66 (by decide) ?_
        refine G.locs [1, 2, 0] rfl ?_
        exact ih a0 x1 (x2 + 1) q8.2 hs6 k_a0 hf
      · replace hf := (if_neg h10).symm.trans hf
        refine G.aload_n 54 0 dX0_nameOf_54 rfl rfl ?_
        refine G.getp 55 ck_0 6 (a0 + 6) (hs6.k k_a0) (pt_0_6 hs6 k_a0).1 (by decide) (by decide +kernel) wd_273 dX0_nameOf_55 ?_
        refine G.iload_n 58 2 dX0_nameOf_58 rfl rfl ?_
        refine G.aa 59 x2.toNatClampNeg ((a0 + 6) + 1 + 1 * x2.toNatClampNeg) (hs6.k (pt_0_6 hs6 k_a0).2) (by decide) rfl rfl g4 rfl (pa_15 hs6 (pt_0_6 hs6 k_a0).2 (inlt g4)).1 dX0_nameOf_59 ?_
        refine G.iconst 60 (0 : Int32) dX0_nameOf_60 (by decide +kernel) ?_
        refine G.ia 61 0 (hs6.k (pa_15 hs6 (pt_0_6 hs6 k_a0).2 (inlt g4)).2) (by decide +kernel) (by decide +kernel) dX0_nameOf_61 ?_
        (have hf9 := Option.some.inj hf; subst hf9)
        exact G.rI 62 hq dX0_nameOf_62 hs6
set_option maxRecDepth 100000 in
set_option maxHeartbeats 4000000 in
theorem c_X0_nameOf (Z : Sys) {M : Mem} (hs : St M) (a0 : Nat) (x1 : Int32) (k_a0 : K0[a0]? = some (0, 12)) {q : Int32 × Mem} (hf : f_X0_nameOf a0 x1 M = some q) : Ct Z yX0_nameOf cX0_nameOf 3 (some .int) rm_X0_nameOf [.ref (zs Z + a0), .int x1] M False (PostI q.1 q.2) := by
  refine Ct.of (by decide +kernel) (Nat.le_of_ble_eq_true rfl) (fun X hR hq _ => ?_)
  show G Z X Y_X0_nameOf False 0 0 0 [(0, .ref (zs Z + a0)), (1, .int x1)] [] M
  replace hq : RetOk Z X (some .int) False (PostI q.1 q.2) 0 0 := hq
  unfold f_X0_nameOf at hf
  refine G.aload_n 0 0 dX0_nameOf_0 rfl rfl ?_
  refine G.getp 1 ck_0 0 (a0 + 1) (hs.k k_a0) (pt_0_0 hs k_a0).1 (by decide) (by decide +kernel) wd_257 dX0_nameOf_1 ?_
  refine G.iload_n 4 1 dX0_nameOf_4 rfl rfl ?_
  obtain ⟨g1, hf⟩ := gd_e hf
  refine G.aa 5 x1.toNatClampNeg ((a0 + 1) + 23 + 2 * x1.toNatClampNeg) (hs.k (pt_0_0 hs k_a0).2) (by decide) rfl rfl g1 rfl (pa_13 hs (pt_0_0 hs k_a0).2 (inlt g1)).1 dX0_nameOf_5 ?_
  refine G.geti 6 ck_1 9 (hs.k (pa_13 hs (pt_0_0 hs k_a0).2 (inlt g1)).2) (by decide) (by decide +kernel) wd_222 dX0_nameOf_6 ?_
  refine G.if_eq 9 15 dX0_nameOf_9 (by decide) (fun h2 => ?_) (fun h2 => ?_)
  · replace hf := (if_pos h2).symm.trans hf
    refine G.iconst 15 (0 : Int32) dX0_nameOf_15 (by decide +kernel) ?_
    refine G.istore_n 16 [(2, .int (0 : Int32)), (0, .ref (zs Z + a0)), (1, .int x1)] dX0_nameOf_16 rfl (Nat.le_of_ble_eq_true rfl) rfl ?_
    refine G.locs [1, 2, 0] rfl ?_
    exact l_X0_nameOf_17 Z X hR hq FU a0 x1 (0 : Int32) M hs k_a0 hf
  · replace hf := (if_neg h2).symm.trans hf
    refine G.bipush 12 (-4 : Int32) dX0_nameOf_12 (by decide +kernel) ?_
    (have hf9 := Option.some.inj hf; subst hf9)
    exact G.rI 14 hq dX0_nameOf_14 hs
abbrev Y_X0_rowsWith : My := (cX0_rowsWith, RX0, 9)
def rm_X0_rowsWith : Room := { frames := 1, cells := 0, slots := 0, locals := 200 }
theorem dX0_rowsWith_0 : decode cX0_rowsWith 0 = .ok (.lconst 0, 1) := by decide +kernel
theorem dX0_rowsWith_1 : decode cX0_rowsWith 1 = .ok (.lstore_n 2, 1) := by decide +kernel
theorem dX0_rowsWith_2 : decode cX0_rowsWith 2 = .ok (.lconst 1, 1) := by decide +kernel
theorem dX0_rowsWith_3 : decode cX0_rowsWith 3 = .ok (.lstore 4, 2) := by decide +kernel
theorem dX0_rowsWith_5 : decode cX0_rowsWith 5 = .ok (.lconst 1, 1) := by decide +kernel
theorem dX0_rowsWith_6 : decode cX0_rowsWith 6 = .ok (.lstore 6, 2) := by decide +kernel
theorem dX0_rowsWith_8 : decode cX0_rowsWith 8 = .ok (.iload_n 0, 1) := by decide +kernel
theorem dX0_rowsWith_9 : decode cX0_rowsWith 9 = .ok (.istore 8, 2) := by decide +kernel
theorem dX0_rowsWith_11 : decode cX0_rowsWith 11 = .ok (.iload 8, 2) := by decide +kernel
theorem dX0_rowsWith_13 : decode cX0_rowsWith 13 = .ok (.iload_n 1, 1) := by decide +kernel
theorem dX0_rowsWith_14 : decode cX0_rowsWith 14 = .ok (.if_icmp .lt 41, 3) := by decide +kernel
theorem dX0_rowsWith_17 : decode cX0_rowsWith 17 = .ok (.lload_n 2, 1) := by decide +kernel
theorem dX0_rowsWith_18 : decode cX0_rowsWith 18 = .ok (.lload 6, 2) := by decide +kernel
theorem dX0_rowsWith_20 : decode cX0_rowsWith 20 = .ok (.lload 4, 2) := by decide +kernel
theorem dX0_rowsWith_22 : decode cX0_rowsWith 22 = .ok (.lmul, 1) := by decide +kernel
theorem dX0_rowsWith_23 : decode cX0_rowsWith 23 = .ok (.ladd, 1) := by decide +kernel
theorem dX0_rowsWith_24 : decode cX0_rowsWith 24 = .ok (.lstore_n 2, 1) := by decide +kernel
theorem dX0_rowsWith_25 : decode cX0_rowsWith 25 = .ok (.lload 6, 2) := by decide +kernel
theorem dX0_rowsWith_27 : decode cX0_rowsWith 27 = .ok (.iload 8, 2) := by decide +kernel
theorem dX0_rowsWith_29 : decode cX0_rowsWith 29 = .ok (.i2l, 1) := by decide +kernel
theorem dX0_rowsWith_30 : decode cX0_rowsWith 30 = .ok (.lmul, 1) := by decide +kernel
theorem dX0_rowsWith_31 : decode cX0_rowsWith 31 = .ok (.iload_n 0, 1) := by decide +kernel
theorem dX0_rowsWith_32 : decode cX0_rowsWith 32 = .ok (.iload 8, 2) := by decide +kernel
theorem dX0_rowsWith_34 : decode cX0_rowsWith 34 = .ok (.isub, 1) := by decide +kernel
theorem dX0_rowsWith_35 : decode cX0_rowsWith 35 = .ok (.iconst 1, 1) := by decide +kernel
theorem dX0_rowsWith_36 : decode cX0_rowsWith 36 = .ok (.iadd, 1) := by decide +kernel
theorem dX0_rowsWith_37 : decode cX0_rowsWith 37 = .ok (.i2l, 1) := by decide +kernel
theorem dX0_rowsWith_38 : decode cX0_rowsWith 38 = .ok (.ldiv, 1) := by decide +kernel
theorem dX0_rowsWith_39 : decode cX0_rowsWith 39 = .ok (.lstore 6, 2) := by decide +kernel
theorem dX0_rowsWith_41 : decode cX0_rowsWith 41 = .ok (.lload 4, 2) := by decide +kernel
theorem dX0_rowsWith_43 : decode cX0_rowsWith 43 = .ok (.ldc2_w 113, 3) := by decide +kernel
theorem dX0_rowsWith_46 : decode cX0_rowsWith 46 = .ok (.lmul, 1) := by decide +kernel
theorem dX0_rowsWith_47 : decode cX0_rowsWith 47 = .ok (.lstore 4, 2) := by decide +kernel
theorem dX0_rowsWith_49 : decode cX0_rowsWith 49 = .ok (.iinc 8 (-1), 3) := by decide +kernel
theorem dX0_rowsWith_52 : decode cX0_rowsWith 52 = .ok (.goto (-41), 3) := by decide +kernel
theorem dX0_rowsWith_55 : decode cX0_rowsWith 55 = .ok (.lload_n 2, 1) := by decide +kernel
theorem dX0_rowsWith_56 : decode cX0_rowsWith 56 = .ok (.lreturn, 1) := by decide +kernel
def L_X0_rowsWith_11 : Nat → Int32 → Int32 → Int64 → Int64 → Int64 → Int32 → Option Int64
  | 0, _, _, _, _, _, _ => none
  | n + 1, x0, x1, l2, l4, l6, x8 => if x8 < x1 then some l2 else gd (¬ ((x0 - x8) + (1 : Int32)).toInt64 = 0) (L_X0_rowsWith_11 n x0 x1 (l2 + (l6 * l4)) (l4 * (9 : Int64)) ((l6 * x8.toInt64) / ((x0 - x8) + (1 : Int32)).toInt64) (x8 + (-1 : Int32)))
def f_X0_rowsWith (x0 : Int32) (x1 : Int32) : Option Int64 := L_X0_rowsWith_11 FU x0 x1 (0 : Int64) (1 : Int64) (1 : Int64) x0
set_option maxRecDepth 100000 in
set_option maxHeartbeats 4000000 in
theorem l_X0_rowsWith_11 (Z : Sys) (X : Cx) (hR : xR X = rm_X0_rowsWith) {q : Int64} {M : Mem} (hq : RetOk Z X (some .long) False (PostL q M) 0 0) : ∀ (n : Nat) (x0 : Int32) (x1 : Int32) (l2 : Int64) (l4 : Int64) (l6 : Int64) (x8 : Int32) (hs : St M) (hf : L_X0_rowsWith_11 n x0 x1 l2 l4 l6 x8 = some q), G Z X Y_X0_rowsWith False 0 0 11 [(0, .int x0), (1, .int x1), (2, .long l2), (4, .long l4), (6, .long l6), (8, .int x8)] [] M := by
  intro n
  induction n with
  | zero => intro x0 x1 l2 l4 l6 x8 hs  hf; cases hf
  | succ n ih =>
    intro x0 x1 l2 l4 l6 x8 hs  hf
    unfold L_X0_rowsWith_11 at hf
    refine G.iload 11 5 dX0_rowsWith_11 rfl ?_
    refine G.iload_n 13 1 dX0_rowsWith_13 rfl rfl ?_
    refine G.icmp_lt 14 55 dX0_rowsWith_14 (by decide) (fun h1 => ?_) (fun h1 => ?_)
    · replace hf := (if_pos h1).symm.trans hf
      refine G.lload_n 55 2 dX0_rowsWith_55 rfl rfl ?_
      (have hf9 := Option.some.inj hf; subst hf9)
      exact G.rL 56 hq dX0_rowsWith_56 hs
    · replace hf := (if_neg h1).symm.trans hf
      refine G.lload_n 17 2 dX0_rowsWith_17 rfl rfl ?_
      refine G.lload 18 4 dX0_rowsWith_18 rfl ?_
      refine G.lload 20 3 dX0_rowsWith_20 rfl ?_
      refine G.lmul 22 dX0_rowsWith_22 ?_
      refine G.ladd 23 dX0_rowsWith_23 ?_
      refine G.lstore_n 24 [(2, .long (l2 + (l6 * l4))), (0, .int x0), (1, .int x1), (4, .long l4), (6, .long l6), (8, .int x8)] dX0_rowsWith_24 rfl (Nat.le_of_ble_eq_true rfl) rfl ?_
      refine G.lload 25 4 dX0_rowsWith_25 rfl ?_
      refine G.iload 27 5 dX0_rowsWith_27 rfl ?_
      refine G.i2l 29 dX0_rowsWith_29 ?_
      refine G.lmul 30 dX0_rowsWith_30 ?_
      refine G.iload_n 31 1 dX0_rowsWith_31 rfl rfl ?_
      refine G.iload 32 5 dX0_rowsWith_32 rfl ?_
      refine G.isub 34 dX0_rowsWith_34 ?_
      refine G.iconst 35 (1 : Int32) dX0_rowsWith_35 (by decide +kernel) ?_
      refine G.iadd 36 dX0_rowsWith_36 ?_
      refine G.i2l 37 dX0_rowsWith_37 ?_
      obtain ⟨g2, hf⟩ := gd_e hf
      refine G.ldiv 38 dX0_rowsWith_38 g2 ?_
      refine G.lstore 39 [(6, .long ((l6 * x8.toInt64) / ((x0 - x8) + (1 : Int32)).toInt64)), (2, .long (l2 + (l6 * l4))), (0, .int x0), (1, .int x1), (4, .long l4), (8, .int x8)] dX0_rowsWith_39 (Nat.le_of_ble_eq_true rfl) rfl ?_
      refine G.lload 41 4 dX0_rowsWith_41 rfl ?_
      refine G.ldc2 43 (9 : Int64) wd_583 dX0_rowsWith_43 ?_
      refine G.lmul 46 dX0_rowsWith_46 ?_
      refine G.lstore 47 [(4, .long (l4 * (9 : Int64))), (6, .long ((l6 * x8.toInt64) / ((x0 - x8) + (1 : Int32)).toInt64)), (2, .long (l2 + (l6 * l4))), (0, .int x0), (1, .int x1), (8, .int x8)] dX0_rowsWith_47 (Nat.le_of_ble_eq_true rfl) rfl ?_
      refine G.iinc 49 5 (x8 + (-1 : Int32)) [(8, .int (x8 + (-1 : Int32))), (4, .long (l4 * (9 : Int64))), (6, .long ((l6 * x8.toInt64) / ((x0 - x8) + (1 : Int32)).toInt64)), (2, .long (l2 + (l6 * l4))), (0, .int x0), (1, .int x1)] dX0_rowsWith_49 rfl (congrArg (fun z => x8 + z) (by decide +kernel)) (Nat.le_of_ble_eq_true rfl) rfl ?_
      refine G.goto 52 11 dX0_rowsWith_52 (by decide) ?_
      refine G.locs [4, 5, 3, 1, 2, 0] rfl ?_
      exact ih x0 x1 (l2 + (l6 * l4)) (l4 * (9 : Int64)) ((l6 * x8.toInt64) / ((x0 - x8) + (1 : Int32)).toInt64) (x8 + (-1 : Int32)) hs hf
set_option maxRecDepth 100000 in
set_option maxHeartbeats 4000000 in
theorem c_X0_rowsWith (Z : Sys) {M : Mem} (hs : St M) (x0 : Int32) (x1 : Int32) {q : Int64} (hf : f_X0_rowsWith x0 x1 = some q) : Ct Z yX0_rowsWith cX0_rowsWith 9 (some .long) rm_X0_rowsWith [.int x0, .int x1] M False (PostL q M) := by
  refine Ct.of (by decide +kernel) (Nat.le_of_ble_eq_true rfl) (fun X hR hq _ => ?_)
  show G Z X Y_X0_rowsWith False 0 0 0 [(0, .int x0), (1, .int x1)] [] M
  replace hq : RetOk Z X (some .long) False (PostL q M) 0 0 := hq
  unfold f_X0_rowsWith at hf
  refine G.lconst 0 (0 : Int64) dX0_rowsWith_0 (by decide +kernel) ?_
  refine G.lstore_n 1 [(2, .long (0 : Int64)), (0, .int x0), (1, .int x1)] dX0_rowsWith_1 rfl (Nat.le_of_ble_eq_true rfl) rfl ?_
  refine G.lconst 2 (1 : Int64) dX0_rowsWith_2 (by decide +kernel) ?_
  refine G.lstore 3 [(4, .long (1 : Int64)), (2, .long (0 : Int64)), (0, .int x0), (1, .int x1)] dX0_rowsWith_3 (Nat.le_of_ble_eq_true rfl) rfl ?_
  refine G.lconst 5 (1 : Int64) dX0_rowsWith_5 (by decide +kernel) ?_
  refine G.lstore 6 [(6, .long (1 : Int64)), (4, .long (1 : Int64)), (2, .long (0 : Int64)), (0, .int x0), (1, .int x1)] dX0_rowsWith_6 (Nat.le_of_ble_eq_true rfl) rfl ?_
  refine G.iload_n 8 3 dX0_rowsWith_8 rfl rfl ?_
  refine G.istore 9 [(8, .int x0), (6, .long (1 : Int64)), (4, .long (1 : Int64)), (2, .long (0 : Int64)), (0, .int x0), (1, .int x1)] dX0_rowsWith_9 (Nat.le_of_ble_eq_true rfl) rfl ?_
  refine G.locs [4, 5, 3, 2, 1, 0] rfl ?_
  exact l_X0_rowsWith_11 Z X hR hq FU x0 x1 (0 : Int64) (1 : Int64) (1 : Int64) x0 hs hf
abbrev Y_X0_rowsWithFigure : My := (cX0_rowsWithFigure, RX0, 6)
def rm_X0_rowsWithFigure : Room := { frames := 2, cells := 0, slots := 0, locals := 228 }
theorem dX0_rowsWithFigure_0 : decode cX0_rowsWithFigure 0 = .ok (.iconst 0, 1) := by decide +kernel
theorem dX0_rowsWithFigure_1 : decode cX0_rowsWithFigure 1 = .ok (.istore_n 2, 1) := by decide +kernel
theorem dX0_rowsWithFigure_2 : decode cX0_rowsWithFigure 2 = .ok (.iconst 0, 1) := by decide +kernel
theorem dX0_rowsWithFigure_3 : decode cX0_rowsWithFigure 3 = .ok (.istore_n 3, 1) := by decide +kernel
theorem dX0_rowsWithFigure_4 : decode cX0_rowsWithFigure 4 = .ok (.iconst 0, 1) := by decide +kernel
theorem dX0_rowsWithFigure_5 : decode cX0_rowsWithFigure 5 = .ok (.istore 4, 2) := by decide +kernel
theorem dX0_rowsWithFigure_7 : decode cX0_rowsWithFigure 7 = .ok (.iload 4, 2) := by decide +kernel
theorem dX0_rowsWithFigure_9 : decode cX0_rowsWithFigure 9 = .ok (.aload_n 0, 1) := by decide +kernel
theorem dX0_rowsWithFigure_10 : decode cX0_rowsWithFigure 10 = .ok (.getfield 53, 3) := by decide +kernel
theorem dX0_rowsWithFigure_13 : decode cX0_rowsWithFigure 13 = .ok (.if_icmp .ge 56, 3) := by decide +kernel
theorem dX0_rowsWithFigure_16 : decode cX0_rowsWithFigure 16 = .ok (.iload_n 2, 1) := by decide +kernel
theorem dX0_rowsWithFigure_17 : decode cX0_rowsWithFigure 17 = .ok (.bipush 18, 2) := by decide +kernel
theorem dX0_rowsWithFigure_19 : decode cX0_rowsWithFigure 19 = .ok (.if_icmp .ge 50, 3) := by decide +kernel
theorem dX0_rowsWithFigure_22 : decode cX0_rowsWithFigure 22 = .ok (.aload_n 0, 1) := by decide +kernel
theorem dX0_rowsWithFigure_23 : decode cX0_rowsWithFigure 23 = .ok (.getfield 13, 3) := by decide +kernel
theorem dX0_rowsWithFigure_26 : decode cX0_rowsWithFigure 26 = .ok (.iload 4, 2) := by decide +kernel
theorem dX0_rowsWithFigure_28 : decode cX0_rowsWithFigure 28 = .ok (.aaload, 1) := by decide +kernel
theorem dX0_rowsWithFigure_29 : decode cX0_rowsWithFigure 29 = .ok (.invokevirtual 106, 3) := by decide +kernel
theorem dX0_rowsWithFigure_32 : decode cX0_rowsWithFigure 32 = .ok (.istore 5, 2) := by decide +kernel
theorem dX0_rowsWithFigure_34 : decode cX0_rowsWithFigure 34 = .ok (.iload_n 2, 1) := by decide +kernel
theorem dX0_rowsWithFigure_35 : decode cX0_rowsWithFigure 35 = .ok (.iload 5, 2) := by decide +kernel
theorem dX0_rowsWithFigure_37 : decode cX0_rowsWithFigure 37 = .ok (.bipush (-4), 2) := by decide +kernel
theorem dX0_rowsWithFigure_39 : decode cX0_rowsWithFigure 39 = .ok (.if_icmp .eq 7, 3) := by decide +kernel
theorem dX0_rowsWithFigure_42 : decode cX0_rowsWithFigure 42 = .ok (.iconst 1, 1) := by decide +kernel
theorem dX0_rowsWithFigure_43 : decode cX0_rowsWithFigure 43 = .ok (.goto 4, 3) := by decide +kernel
theorem dX0_rowsWithFigure_46 : decode cX0_rowsWithFigure 46 = .ok (.iconst 0, 1) := by decide +kernel
theorem dX0_rowsWithFigure_47 : decode cX0_rowsWithFigure 47 = .ok (.iadd, 1) := by decide +kernel
theorem dX0_rowsWithFigure_48 : decode cX0_rowsWithFigure 48 = .ok (.istore_n 2, 1) := by decide +kernel
theorem dX0_rowsWithFigure_49 : decode cX0_rowsWithFigure 49 = .ok (.iload_n 3, 1) := by decide +kernel
theorem dX0_rowsWithFigure_50 : decode cX0_rowsWithFigure 50 = .ok (.iload 5, 2) := by decide +kernel
theorem dX0_rowsWithFigure_52 : decode cX0_rowsWithFigure 52 = .ok (.iload_n 1, 1) := by decide +kernel
theorem dX0_rowsWithFigure_53 : decode cX0_rowsWithFigure 53 = .ok (.if_icmp .ne 7, 3) := by decide +kernel
theorem dX0_rowsWithFigure_56 : decode cX0_rowsWithFigure 56 = .ok (.iconst 1, 1) := by decide +kernel
theorem dX0_rowsWithFigure_57 : decode cX0_rowsWithFigure 57 = .ok (.goto 4, 3) := by decide +kernel
theorem dX0_rowsWithFigure_60 : decode cX0_rowsWithFigure 60 = .ok (.iconst 0, 1) := by decide +kernel
theorem dX0_rowsWithFigure_61 : decode cX0_rowsWithFigure 61 = .ok (.iadd, 1) := by decide +kernel
theorem dX0_rowsWithFigure_62 : decode cX0_rowsWithFigure 62 = .ok (.istore_n 3, 1) := by decide +kernel
theorem dX0_rowsWithFigure_63 : decode cX0_rowsWithFigure 63 = .ok (.iinc 4 1, 3) := by decide +kernel
theorem dX0_rowsWithFigure_66 : decode cX0_rowsWithFigure 66 = .ok (.goto (-59), 3) := by decide +kernel
theorem dX0_rowsWithFigure_69 : decode cX0_rowsWithFigure 69 = .ok (.iload_n 2, 1) := by decide +kernel
theorem dX0_rowsWithFigure_70 : decode cX0_rowsWithFigure 70 = .ok (.iload_n 3, 1) := by decide +kernel
theorem dX0_rowsWithFigure_71 : decode cX0_rowsWithFigure 71 = .ok (.invokestatic 109, 3) := by decide +kernel
theorem dX0_rowsWithFigure_74 : decode cX0_rowsWithFigure 74 = .ok (.lreturn, 1) := by decide +kernel
def B_X0_rowsWithFigure_69 (x2 : Int32) (x3 : Int32) (M : Mem) : Option Int64 := (f_X0_rowsWith x2 x3).bind fun q4 => some q4
def L_X0_rowsWithFigure_7 : Nat → Nat → Int32 → Int32 → Int32 → Int32 → Mem → Option Int64
  | 0, _, _, _, _, _, _ => none
  | n + 1, a0, x1, x2, x3, x4, M => if (mI M a0 1) ≤ x4 then B_X0_rowsWithFigure_69 x2 x3 M else if (18 : Int32) ≤ x2 then B_X0_rowsWithFigure_69 x2 x3 M else gd (inR x4 30) (if (f_X1_lastFigure ((a0 + 1) + 23 + 2 * x4.toNatClampNeg) M) = (-4 : Int32) then if (f_X1_lastFigure ((a0 + 1) + 23 + 2 * x4.toNatClampNeg) M) = x1 then L_X0_rowsWithFigure_7 n a0 x1 (x2 + (0 : Int32)) (x3 + (1 : Int32)) (x4 + 1) M else L_X0_rowsWithFigure_7 n a0 x1 (x2 + (0 : Int32)) (x3 + (0 : Int32)) (x4 + 1) M else if (f_X1_lastFigure ((a0 + 1) + 23 + 2 * x4.toNatClampNeg) M) = x1 then L_X0_rowsWithFigure_7 n a0 x1 (x2 + (1 : Int32)) (x3 + (1 : Int32)) (x4 + 1) M else L_X0_rowsWithFigure_7 n a0 x1 (x2 + (1 : Int32)) (x3 + (0 : Int32)) (x4 + 1) M)
def f_X0_rowsWithFigure (a0 : Nat) (x1 : Int32) (M : Mem) : Option Int64 := L_X0_rowsWithFigure_7 FU a0 x1 (0 : Int32) (0 : Int32) (0 : Int32) M
set_option maxRecDepth 100000 in
set_option maxHeartbeats 4000000 in
theorem b_X0_rowsWithFigure_69 (Z : Sys) (X : Cx) (hR : xR X = rm_X0_rowsWithFigure) {q : Int64} {M : Mem} (hq : RetOk Z X (some .long) False (PostL q M) 0 0) (x2 : Int32) (x3 : Int32) (hs : St M) (hf : B_X0_rowsWithFigure_69 x2 x3 M = some q) : G Z X Y_X0_rowsWithFigure False 0 0 69 [(2, .int x2), (3, .int x3)] [] M := by
  unfold B_X0_rowsWithFigure_69 at hf
  refine G.iload_n 69 0 dX0_rowsWithFigure_69 rfl rfl ?_
  refine G.iload_n 70 1 dX0_rowsWithFigure_70 rfl rfl ?_
  obtain ⟨q4, e5, hf⟩ := bd_e hf
  refine G.csL 71 (As := [.int x2, .int x3]) (c_X0_rowsWith Z hs x2 x3 e5) mk_X0_rowsWith wd_581 wd_580 hR (by decide +kernel) ⟨rfl, rfl⟩ rfl (Nat.le_of_ble_eq_true rfl) dX0_rowsWithFigure_71 (fun hs2 => ?_)
  (have hf9 := Option.some.inj hf; subst hf9)
  exact G.rL 74 hq dX0_rowsWithFigure_74 hs2
set_option maxRecDepth 100000 in
set_option maxHeartbeats 4000000 in
theorem l_X0_rowsWithFigure_7 (Z : Sys) (X : Cx) (hR : xR X = rm_X0_rowsWithFigure) {q : Int64} {M : Mem} (hq : RetOk Z X (some .long) False (PostL q M) 0 0) : ∀ (n : Nat) (a0 : Nat) (x1 : Int32) (x2 : Int32) (x3 : Int32) (x4 : Int32) (hs : St M) (k_a0 : K0[a0]? = some (0, 12)) (hf : L_X0_rowsWithFigure_7 n a0 x1 x2 x3 x4 M = some q), G Z X Y_X0_rowsWithFigure False 0 0 7 [(0, .ref (zs Z + a0)), (1, .int x1), (2, .int x2), (3, .int x3), (4, .int x4)] [] M := by
  intro n
  induction n with
  | zero => intro a0 x1 x2 x3 x4 hs k_a0 hf; cases hf
  | succ n ih =>
    intro a0 x1 x2 x3 x4 hs k_a0 hf
    unfold L_X0_rowsWithFigure_7 at hf
    refine G.iload 7 4 dX0_rowsWithFigure_7 rfl ?_
    refine G.aload_n 9 0 dX0_rowsWithFigure_9 rfl rfl ?_
    refine G.geti 10 ck_0 1 (hs.k k_a0) (by decide) (by decide +kernel) wd_261 dX0_rowsWithFigure_10 ?_
    refine G.icmp_ge 13 69 dX0_rowsWithFigure_13 (by decide) (fun h1 => ?_) (fun h1 => ?_)
    · replace hf := (if_pos h1).symm.trans hf
      refine G.locs [2, 3] rfl ?_
      exact b_X0_rowsWithFigure_69 Z X hR hq x2 x3 hs hf
    · replace hf := (if_neg h1).symm.trans hf
      refine G.iload_n 16 2 dX0_rowsWithFigure_16 rfl rfl ?_
      refine G.bipush 17 (18 : Int32) dX0_rowsWithFigure_17 (by decide +kernel) ?_
      refine G.icmp_ge 19 69 dX0_rowsWithFigure_19 (by decide) (fun h6 => ?_) (fun h6 => ?_)
      · replace hf := (if_pos h6).symm.trans hf
        refine G.locs [2, 3] rfl ?_
        exact b_X0_rowsWithFigure_69 Z X hR hq x2 x3 hs hf
      · replace hf := (if_neg h6).symm.trans hf
        refine G.aload_n 22 0 dX0_rowsWithFigure_22 rfl rfl ?_
        refine G.getp 23 ck_0 0 (a0 + 1) (hs.k k_a0) (pt_0_0 hs k_a0).1 (by decide) (by decide +kernel) wd_257 dX0_rowsWithFigure_23 ?_
        refine G.iload 26 4 dX0_rowsWithFigure_26 rfl ?_
        obtain ⟨g7, hf⟩ := gd_e hf
        refine G.aa 28 x4.toNatClampNeg ((a0 + 1) + 23 + 2 * x4.toNatClampNeg) (hs.k (pt_0_0 hs k_a0).2) (by decide) rfl rfl g7 rfl (pa_13 hs (pt_0_0 hs k_a0).2 (inlt g7)).1 dX0_rowsWithFigure_28 ?_
        refine G.cvI 29 (As := []) ck_1 (hs.k (pa_13 hs (pt_0_0 hs k_a0).2 (inlt g7)).2) (c_X1_lastFigure Z hs ((a0 + 1) + 23 + 2 * x4.toNatClampNeg) (pa_13 hs (pt_0_0 hs k_a0).2 (inlt g7)).2 rfl) mk_X1_lastFigure vk_X1_lastFigure rfl wd_567 hR (by decide +kernel) ⟨rfl, rfl⟩ rfl (Nat.le_of_ble_eq_true rfl) dX0_rowsWithFigure_29 (fun hs8 => ?_)
        refine G.istore 32 [(5, .int (f_X1_lastFigure ((a0 + 1) + 23 + 2 * x4.toNatClampNeg) M)), (0, .ref (zs Z + a0)), (1, .int x1), (2, .int x2), (3, .int x3), (4, .int x4)] dX0_rowsWithFigure_32 (Nat.le_of_ble_eq_true rfl) rfl ?_
        refine G.iload_n 34 3 dX0_rowsWithFigure_34 rfl rfl ?_
        refine G.iload 35 0 dX0_rowsWithFigure_35 rfl ?_
        refine G.bipush 37 (-4 : Int32) dX0_rowsWithFigure_37 (by decide +kernel) ?_
        refine G.icmp_eq 39 46 dX0_rowsWithFigure_39 (by decide) (fun h10 => ?_) (fun h10 => ?_)
        · replace hf := (if_pos h10).symm.trans hf
          refine G.iconst 46 (0 : Int32) dX0_rowsWithFigure_46 (by decide +kernel) ?_
          refine G.iadd 47 dX0_rowsWithFigure_47 ?_
          refine G.istore_n 48 [(2, .int (x2 + (0 : Int32))), (5, .int (f_X1_lastFigure ((a0 + 1) + 23 + 2 * x4.toNatClampNeg) M)), (0, .ref (zs Z + a0)), (1, .int x1), (3, .int x3), (4, .int x4)] dX0_rowsWithFigure_48 rfl (Nat.le_of_ble_eq_true rfl) rfl ?_
          refine G.iload_n 49 4 dX0_rowsWithFigure_49 rfl rfl ?_
          refine G.iload 50 1 dX0_rowsWithFigure_50 rfl ?_
          refine G.iload_n 52 3 dX0_rowsWithFigure_52 rfl rfl ?_
          refine G.icmp_ne 53 60 dX0_rowsWithFigure_53 (by decide) (fun h11 => ?_) (fun h11 => ?_)
          · replace hf := (if_neg h11).symm.trans hf
            refine G.iconst 60 (0 : Int32) dX0_rowsWithFigure_60 (by decide +kernel) ?_
            refine G.iadd 61 dX0_rowsWithFigure_61 ?_
            refine G.istore_n 62 [(3, .int (x3 + (0 : Int32))), (2, .int (x2 + (0 : Int32))), (5, .int (f_X1_lastFigure ((a0 + 1) + 23 + 2 * x4.toNatClampNeg) M)), (0, .ref (zs Z + a0)), (1, .int x1), (4, .int x4)] dX0_rowsWithFigure_62 rfl (Nat.le_of_ble_eq_true rfl) rfl ?_
            refine G.iinc 63 5 (x4 + 1) [(4, .int (x4 + 1)), (3, .int (x3 + (0 : Int32))), (2, .int (x2 + (0 : Int32))), (5, .int (f_X1_lastFigure ((a0 + 1) + 23 + 2 * x4.toNatClampNeg) M)), (0, .ref (zs Z + a0)), (1, .int x1)] dX0_rowsWithFigure_63 rfl (congrArg (fun z => x4 + z) (by decide +kernel)) (Nat.le_of_ble_eq_true rfl) rfl ?_
            refine G.goto 66 7 dX0_rowsWithFigure_66 (by decide) ?_
            refine G.locs [4, 5, 2, 1, 0] rfl ?_
            exact ih a0 x1 (x2 + (0 : Int32)) (x3 + (0 : Int32)) (x4 + 1) hs8 k_a0 hf
          · replace hf := (if_pos h11).symm.trans hf
            refine G.iconst 56 (1 : Int32) dX0_rowsWithFigure_56 (by decide +kernel) ?_
            refine G.goto 57 61 dX0_rowsWithFigure_57 (by decide) ?_
            refine G.iadd 61 dX0_rowsWithFigure_61 ?_
            refine G.istore_n 62 [(3, .int (x3 + (1 : Int32))), (2, .int (x2 + (0 : Int32))), (5, .int (f_X1_lastFigure ((a0 + 1) + 23 + 2 * x4.toNatClampNeg) M)), (0, .ref (zs Z + a0)), (1, .int x1), (4, .int x4)] dX0_rowsWithFigure_62 rfl (Nat.le_of_ble_eq_true rfl) rfl ?_
            refine G.iinc 63 5 (x4 + 1) [(4, .int (x4 + 1)), (3, .int (x3 + (1 : Int32))), (2, .int (x2 + (0 : Int32))), (5, .int (f_X1_lastFigure ((a0 + 1) + 23 + 2 * x4.toNatClampNeg) M)), (0, .ref (zs Z + a0)), (1, .int x1)] dX0_rowsWithFigure_63 rfl (congrArg (fun z => x4 + z) (by decide +kernel)) (Nat.le_of_ble_eq_true rfl) rfl ?_
            refine G.goto 66 7 dX0_rowsWithFigure_66 (by decide) ?_
            refine G.locs [4, 5, 2, 1, 0] rfl ?_
            exact ih a0 x1 (x2 + (0 : Int32)) (x3 + (1 : Int32)) (x4 + 1) hs8 k_a0 hf
        · replace hf := (if_neg h10).symm.trans hf
          refine G.iconst 42 (1 : Int32) dX0_rowsWithFigure_42 (by decide +kernel) ?_
          refine G.goto 43 47 dX0_rowsWithFigure_43 (by decide) ?_
          refine G.iadd 47 dX0_rowsWithFigure_47 ?_
          refine G.istore_n 48 [(2, .int (x2 + (1 : Int32))), (5, .int (f_X1_lastFigure ((a0 + 1) + 23 + 2 * x4.toNatClampNeg) M)), (0, .ref (zs Z + a0)), (1, .int x1), (3, .int x3), (4, .int x4)] dX0_rowsWithFigure_48 rfl (Nat.le_of_ble_eq_true rfl) rfl ?_
          refine G.iload_n 49 4 dX0_rowsWithFigure_49 rfl rfl ?_
          refine G.iload 50 1 dX0_rowsWithFigure_50 rfl ?_
          refine G.iload_n 52 3 dX0_rowsWithFigure_52 rfl rfl ?_
          refine G.icmp_ne 53 60 dX0_rowsWithFigure_53 (by decide) (fun h12 => ?_) (fun h12 => ?_)
          · replace hf := (if_neg h12).symm.trans hf
            refine G.iconst 60 (0 : Int32) dX0_rowsWithFigure_60 (by decide +kernel) ?_
            refine G.iadd 61 dX0_rowsWithFigure_61 ?_
            refine G.istore_n 62 [(3, .int (x3 + (0 : Int32))), (2, .int (x2 + (1 : Int32))), (5, .int (f_X1_lastFigure ((a0 + 1) + 23 + 2 * x4.toNatClampNeg) M)), (0, .ref (zs Z + a0)), (1, .int x1), (4, .int x4)] dX0_rowsWithFigure_62 rfl (Nat.le_of_ble_eq_true rfl) rfl ?_
            refine G.iinc 63 5 (x4 + 1) [(4, .int (x4 + 1)), (3, .int (x3 + (0 : Int32))), (2, .int (x2 + (1 : Int32))), (5, .int (f_X1_lastFigure ((a0 + 1) + 23 + 2 * x4.toNatClampNeg) M)), (0, .ref (zs Z + a0)), (1, .int x1)] dX0_rowsWithFigure_63 rfl (congrArg (fun z => x4 + z) (by decide +kernel)) (Nat.le_of_ble_eq_true rfl) rfl ?_
            refine G.goto 66 7 dX0_rowsWithFigure_66 (by decide) ?_
            refine G.locs [4, 5, 2, 1, 0] rfl ?_
            exact ih a0 x1 (x2 + (1 : Int32)) (x3 + (0 : Int32)) (x4 + 1) hs8 k_a0 hf
          · replace hf := (if_pos h12).symm.trans hf
            refine G.iconst 56 (1 : Int32) dX0_rowsWithFigure_56 (by decide +kernel) ?_
            refine G.goto 57 61 dX0_rowsWithFigure_57 (by decide) ?_
            refine G.iadd 61 dX0_rowsWithFigure_61 ?_
            refine G.istore_n 62 [(3, .int (x3 + (1 : Int32))), (2, .int (x2 + (1 : Int32))), (5, .int (f_X1_lastFigure ((a0 + 1) + 23 + 2 * x4.toNatClampNeg) M)), (0, .ref (zs Z + a0)), (1, .int x1), (4, .int x4)] dX0_rowsWithFigure_62 rfl (Nat.le_of_ble_eq_true rfl) rfl ?_
            refine G.iinc 63 5 (x4 + 1) [(4, .int (x4 + 1)), (3, .int (x3 + (1 : Int32))), (2, .int (x2 + (1 : Int32))), (5, .int (f_X1_lastFigure ((a0 + 1) + 23 + 2 * x4.toNatClampNeg) M)), (0, .ref (zs Z + a0)), (1, .int x1)] dX0_rowsWithFigure_63 rfl (congrArg (fun z => x4 + z) (by decide +kernel)) (Nat.le_of_ble_eq_true rfl) rfl ?_
            refine G.goto 66 7 dX0_rowsWithFigure_66 (by decide) ?_
            refine G.locs [4, 5, 2, 1, 0] rfl ?_
            exact ih a0 x1 (x2 + (1 : Int32)) (x3 + (1 : Int32)) (x4 + 1) hs8 k_a0 hf
set_option maxRecDepth 100000 in
set_option maxHeartbeats 4000000 in
theorem c_X0_rowsWithFigure (Z : Sys) {M : Mem} (hs : St M) (a0 : Nat) (x1 : Int32) (k_a0 : K0[a0]? = some (0, 12)) {q : Int64} (hf : f_X0_rowsWithFigure a0 x1 M = some q) : Ct Z yX0_rowsWithFigure cX0_rowsWithFigure 6 (some .long) rm_X0_rowsWithFigure [.ref (zs Z + a0), .int x1] M False (PostL q M) := by
  refine Ct.of (by decide +kernel) (Nat.le_of_ble_eq_true rfl) (fun X hR hq _ => ?_)
  show G Z X Y_X0_rowsWithFigure False 0 0 0 [(0, .ref (zs Z + a0)), (1, .int x1)] [] M
  replace hq : RetOk Z X (some .long) False (PostL q M) 0 0 := hq
  unfold f_X0_rowsWithFigure at hf
  refine G.iconst 0 (0 : Int32) dX0_rowsWithFigure_0 (by decide +kernel) ?_
  refine G.istore_n 1 [(2, .int (0 : Int32)), (0, .ref (zs Z + a0)), (1, .int x1)] dX0_rowsWithFigure_1 rfl (Nat.le_of_ble_eq_true rfl) rfl ?_
  refine G.iconst 2 (0 : Int32) dX0_rowsWithFigure_2 (by decide +kernel) ?_
  refine G.istore_n 3 [(3, .int (0 : Int32)), (2, .int (0 : Int32)), (0, .ref (zs Z + a0)), (1, .int x1)] dX0_rowsWithFigure_3 rfl (Nat.le_of_ble_eq_true rfl) rfl ?_
  refine G.iconst 4 (0 : Int32) dX0_rowsWithFigure_4 (by decide +kernel) ?_
  refine G.istore 5 [(4, .int (0 : Int32)), (3, .int (0 : Int32)), (2, .int (0 : Int32)), (0, .ref (zs Z + a0)), (1, .int x1)] dX0_rowsWithFigure_5 (Nat.le_of_ble_eq_true rfl) rfl ?_
  refine G.locs [3, 4, 2, 1, 0] rfl ?_
  exact l_X0_rowsWithFigure_7 Z X hR hq FU a0 x1 (0 : Int32) (0 : Int32) (0 : Int32) hs k_a0 hf
abbrev Y_X0_sentCame : My := (cX0_sentCame, RX0, 2)
def rm_X0_sentCame : Room := { frames := 2, cells := 0, slots := 0, locals := 223 }
theorem dX0_sentCame_0 : decode cX0_sentCame 0 = .ok (.aload_n 0, 1) := by decide +kernel
theorem dX0_sentCame_1 : decode cX0_sentCame 1 = .ok (.getfield 21, 3) := by decide +kernel
theorem dX0_sentCame_4 : decode cX0_sentCame 4 = .ok (.iload_n 1, 1) := by decide +kernel
theorem dX0_sentCame_5 : decode cX0_sentCame 5 = .ok (.baload, 1) := by decide +kernel
theorem dX0_sentCame_6 : decode cX0_sentCame 6 = .ok (.ifCond .eq 12, 3) := by decide +kernel
theorem dX0_sentCame_9 : decode cX0_sentCame 9 = .ok (.aload_n 0, 1) := by decide +kernel
theorem dX0_sentCame_10 : decode cX0_sentCame 10 = .ok (.getfield 25, 3) := by decide +kernel
theorem dX0_sentCame_13 : decode cX0_sentCame 13 = .ok (.iload_n 1, 1) := by decide +kernel
theorem dX0_sentCame_14 : decode cX0_sentCame 14 = .ok (.iaload, 1) := by decide +kernel
theorem dX0_sentCame_15 : decode cX0_sentCame 15 = .ok (.goto 8, 3) := by decide +kernel
theorem dX0_sentCame_18 : decode cX0_sentCame 18 = .ok (.aload_n 0, 1) := by decide +kernel
theorem dX0_sentCame_19 : decode cX0_sentCame 19 = .ok (.iload_n 1, 1) := by decide +kernel
theorem dX0_sentCame_20 : decode cX0_sentCame 20 = .ok (.invokevirtual 145, 3) := by decide +kernel
theorem dX0_sentCame_23 : decode cX0_sentCame 23 = .ok (.ireturn, 1) := by decide +kernel
def f_X0_sentCame (a0 : Nat) (x1 : Int32) (M : Mem) : Option Int32 := gd (inR x1 4) (if (mI M (a0 + 3) x1.toNatClampNeg) = 0 then (f_X0_writtenCame a0 x1 M).bind fun q5 => some q5 else some (mI M (a0 + 4) x1.toNatClampNeg))
set_option maxRecDepth 100000 in
set_option maxHeartbeats 4000000 in
theorem c_X0_sentCame (Z : Sys) {M : Mem} (hs : St M) (a0 : Nat) (x1 : Int32) (k_a0 : K0[a0]? = some (0, 12)) {q : Int32} (hf : f_X0_sentCame a0 x1 M = some q) : Ct Z yX0_sentCame cX0_sentCame 2 (some .int) rm_X0_sentCame [.ref (zs Z + a0), .int x1] M False (PostI q M) := by
  refine Ct.of (by decide +kernel) (Nat.le_of_ble_eq_true rfl) (fun X hR hq _ => ?_)
  show G Z X Y_X0_sentCame False 0 0 0 [(0, .ref (zs Z + a0)), (1, .int x1)] [] M
  replace hq : RetOk Z X (some .int) False (PostI q M) 0 0 := hq
  unfold f_X0_sentCame at hf
  refine G.aload_n 0 0 dX0_sentCame_0 rfl rfl ?_
  refine G.getp 1 ck_0 3 (a0 + 3) (hs.k k_a0) (pt_0_3 hs k_a0).1 (by decide) (by decide +kernel) wd_267 dX0_sentCame_1 ?_
  refine G.iload_n 4 1 dX0_sentCame_4 rfl rfl ?_
  obtain ⟨g1, hf⟩ := gd_e hf
  refine G.za 5 x1.toNatClampNeg (hs.k (pt_0_3 hs k_a0).2) g1 rfl dX0_sentCame_5 ?_
  refine G.if_eq 6 18 dX0_sentCame_6 (by decide) (fun h2 => ?_) (fun h2 => ?_)
  · replace hf := (if_pos h2).symm.trans hf
    refine G.aload_n 18 0 dX0_sentCame_18 rfl rfl ?_
    refine G.iload_n 19 1 dX0_sentCame_19 rfl rfl ?_
    obtain ⟨q5, e6, hf⟩ := bd_e hf
    refine G.cvI 20 (As := [.int x1]) ck_0 (hs.k k_a0) (c_X0_writtenCame Z hs a0 x1 k_a0 e6) mk_X0_writtenCame vk_X0_writtenCame rfl wd_710 hR (by decide +kernel) ⟨rfl, rfl⟩ rfl (Nat.le_of_ble_eq_true rfl) dX0_sentCame_20 (fun hs3 => ?_)
    (have hf9 := Option.some.inj hf; subst hf9)
    exact G.rI 23 hq dX0_sentCame_23 hs3
  · replace hf := (if_neg h2).symm.trans hf
    refine G.aload_n 9 0 dX0_sentCame_9 rfl rfl ?_
    refine G.getp 10 ck_0 4 (a0 + 4) (hs.k k_a0) (pt_0_4 hs k_a0).1 (by decide) (by decide +kernel) wd_269 dX0_sentCame_10 ?_
    refine G.iload_n 13 1 dX0_sentCame_13 rfl rfl ?_
    refine G.ia 14 x1.toNatClampNeg (hs.k (pt_0_4 hs k_a0).2) g1 rfl dX0_sentCame_14 ?_
    refine G.goto 15 23 dX0_sentCame_15 (by decide) ?_
    (have hf9 := Option.some.inj hf; subst hf9)
    exact G.rI 23 hq dX0_sentCame_23 hs
abbrev Y_X0_sentOurs : My := (cX0_sentOurs, RX0, 2)
def rm_X0_sentOurs : Room := { frames := 2, cells := 0, slots := 0, locals := 223 }
theorem dX0_sentOurs_0 : decode cX0_sentOurs 0 = .ok (.aload_n 0, 1) := by decide +kernel
theorem dX0_sentOurs_1 : decode cX0_sentOurs 1 = .ok (.getfield 21, 3) := by decide +kernel
theorem dX0_sentOurs_4 : decode cX0_sentOurs 4 = .ok (.iload_n 1, 1) := by decide +kernel
theorem dX0_sentOurs_5 : decode cX0_sentOurs 5 = .ok (.baload, 1) := by decide +kernel
theorem dX0_sentOurs_6 : decode cX0_sentOurs 6 = .ok (.ifCond .eq 12, 3) := by decide +kernel
theorem dX0_sentOurs_9 : decode cX0_sentOurs 9 = .ok (.aload_n 0, 1) := by decide +kernel
theorem dX0_sentOurs_10 : decode cX0_sentOurs 10 = .ok (.getfield 28, 3) := by decide +kernel
theorem dX0_sentOurs_13 : decode cX0_sentOurs 13 = .ok (.iload_n 1, 1) := by decide +kernel
theorem dX0_sentOurs_14 : decode cX0_sentOurs 14 = .ok (.iaload, 1) := by decide +kernel
theorem dX0_sentOurs_15 : decode cX0_sentOurs 15 = .ok (.goto 8, 3) := by decide +kernel
theorem dX0_sentOurs_18 : decode cX0_sentOurs 18 = .ok (.aload_n 0, 1) := by decide +kernel
theorem dX0_sentOurs_19 : decode cX0_sentOurs 19 = .ok (.iload_n 1, 1) := by decide +kernel
theorem dX0_sentOurs_20 : decode cX0_sentOurs 20 = .ok (.invokevirtual 148, 3) := by decide +kernel
theorem dX0_sentOurs_23 : decode cX0_sentOurs 23 = .ok (.ireturn, 1) := by decide +kernel
def f_X0_sentOurs (a0 : Nat) (x1 : Int32) (M : Mem) : Option Int32 := gd (inR x1 4) (if (mI M (a0 + 3) x1.toNatClampNeg) = 0 then (f_X0_writtenOurs a0 x1 M).bind fun q5 => some q5 else some (mI M (a0 + 5) x1.toNatClampNeg))
set_option maxRecDepth 100000 in
set_option maxHeartbeats 4000000 in
theorem c_X0_sentOurs (Z : Sys) {M : Mem} (hs : St M) (a0 : Nat) (x1 : Int32) (k_a0 : K0[a0]? = some (0, 12)) {q : Int32} (hf : f_X0_sentOurs a0 x1 M = some q) : Ct Z yX0_sentOurs cX0_sentOurs 2 (some .int) rm_X0_sentOurs [.ref (zs Z + a0), .int x1] M False (PostI q M) := by
  refine Ct.of (by decide +kernel) (Nat.le_of_ble_eq_true rfl) (fun X hR hq _ => ?_)
  show G Z X Y_X0_sentOurs False 0 0 0 [(0, .ref (zs Z + a0)), (1, .int x1)] [] M
  replace hq : RetOk Z X (some .int) False (PostI q M) 0 0 := hq
  unfold f_X0_sentOurs at hf
  refine G.aload_n 0 0 dX0_sentOurs_0 rfl rfl ?_
  refine G.getp 1 ck_0 3 (a0 + 3) (hs.k k_a0) (pt_0_3 hs k_a0).1 (by decide) (by decide +kernel) wd_267 dX0_sentOurs_1 ?_
  refine G.iload_n 4 1 dX0_sentOurs_4 rfl rfl ?_
  obtain ⟨g1, hf⟩ := gd_e hf
  refine G.za 5 x1.toNatClampNeg (hs.k (pt_0_3 hs k_a0).2) g1 rfl dX0_sentOurs_5 ?_
  refine G.if_eq 6 18 dX0_sentOurs_6 (by decide) (fun h2 => ?_) (fun h2 => ?_)
  · replace hf := (if_pos h2).symm.trans hf
    refine G.aload_n 18 0 dX0_sentOurs_18 rfl rfl ?_
    refine G.iload_n 19 1 dX0_sentOurs_19 rfl rfl ?_
    obtain ⟨q5, e6, hf⟩ := bd_e hf
    refine G.cvI 20 (As := [.int x1]) ck_0 (hs.k k_a0) (c_X0_writtenOurs Z hs a0 x1 k_a0 e6) mk_X0_writtenOurs vk_X0_writtenOurs rfl wd_715 hR (by decide +kernel) ⟨rfl, rfl⟩ rfl (Nat.le_of_ble_eq_true rfl) dX0_sentOurs_20 (fun hs3 => ?_)
    (have hf9 := Option.some.inj hf; subst hf9)
    exact G.rI 23 hq dX0_sentOurs_23 hs3
  · replace hf := (if_neg h2).symm.trans hf
    refine G.aload_n 9 0 dX0_sentOurs_9 rfl rfl ?_
    refine G.getp 10 ck_0 5 (a0 + 5) (hs.k k_a0) (pt_0_5 hs k_a0).1 (by decide) (by decide +kernel) wd_271 dX0_sentOurs_10 ?_
    refine G.iload_n 13 1 dX0_sentOurs_13 rfl rfl ?_
    refine G.ia 14 x1.toNatClampNeg (hs.k (pt_0_5 hs k_a0).2) g1 rfl dX0_sentOurs_14 ?_
    refine G.goto 15 23 dX0_sentOurs_15 (by decide) ?_
    (have hf9 := Option.some.inj hf; subst hf9)
    exact G.rI 23 hq dX0_sentOurs_23 hs
abbrev Y_X0_sentMargin : My := (cX0_sentMargin, RX0, 3)
def rm_X0_sentMargin : Room := { frames := 3, cells := 0, slots := 0, locals := 244 }
theorem dX0_sentMargin_0 : decode cX0_sentMargin 0 = .ok (.iconst 0, 1) := by decide +kernel
theorem dX0_sentMargin_1 : decode cX0_sentMargin 1 = .ok (.istore_n 1, 1) := by decide +kernel
theorem dX0_sentMargin_2 : decode cX0_sentMargin 2 = .ok (.iconst 0, 1) := by decide +kernel
theorem dX0_sentMargin_3 : decode cX0_sentMargin 3 = .ok (.istore_n 2, 1) := by decide +kernel
theorem dX0_sentMargin_4 : decode cX0_sentMargin 4 = .ok (.iload_n 2, 1) := by decide +kernel
theorem dX0_sentMargin_5 : decode cX0_sentMargin 5 = .ok (.iconst 4, 1) := by decide +kernel
theorem dX0_sentMargin_6 : decode cX0_sentMargin 6 = .ok (.if_icmp .ge 25, 3) := by decide +kernel
theorem dX0_sentMargin_9 : decode cX0_sentMargin 9 = .ok (.iload_n 1, 1) := by decide +kernel
theorem dX0_sentMargin_10 : decode cX0_sentMargin 10 = .ok (.iconst 2, 1) := by decide +kernel
theorem dX0_sentMargin_11 : decode cX0_sentMargin 11 = .ok (.aload_n 0, 1) := by decide +kernel
theorem dX0_sentMargin_12 : decode cX0_sentMargin 12 = .ok (.iload_n 2, 1) := by decide +kernel
theorem dX0_sentMargin_13 : decode cX0_sentMargin 13 = .ok (.invokevirtual 151, 3) := by decide +kernel
theorem dX0_sentMargin_16 : decode cX0_sentMargin 16 = .ok (.imul, 1) := by decide +kernel
theorem dX0_sentMargin_17 : decode cX0_sentMargin 17 = .ok (.aload_n 0, 1) := by decide +kernel
theorem dX0_sentMargin_18 : decode cX0_sentMargin 18 = .ok (.iload_n 2, 1) := by decide +kernel
theorem dX0_sentMargin_19 : decode cX0_sentMargin 19 = .ok (.invokevirtual 154, 3) := by decide +kernel
theorem dX0_sentMargin_22 : decode cX0_sentMargin 22 = .ok (.isub, 1) := by decide +kernel
theorem dX0_sentMargin_23 : decode cX0_sentMargin 23 = .ok (.iadd, 1) := by decide +kernel
theorem dX0_sentMargin_24 : decode cX0_sentMargin 24 = .ok (.istore_n 1, 1) := by decide +kernel
theorem dX0_sentMargin_25 : decode cX0_sentMargin 25 = .ok (.iinc 2 1, 3) := by decide +kernel
theorem dX0_sentMargin_28 : decode cX0_sentMargin 28 = .ok (.goto (-24), 3) := by decide +kernel
theorem dX0_sentMargin_31 : decode cX0_sentMargin 31 = .ok (.iload_n 1, 1) := by decide +kernel
theorem dX0_sentMargin_32 : decode cX0_sentMargin 32 = .ok (.ireturn, 1) := by decide +kernel
def L_X0_sentMargin_4 : Nat → Nat → Int32 → Int32 → Mem → Option Int32
  | 0, _, _, _, _ => none
  | n + 1, a0, x1, x2, M => if (4 : Int32) ≤ x2 then some x1 else (f_X0_sentOurs a0 x2 M).bind fun q4 => (f_X0_sentCame a0 x2 M).bind fun q8 => L_X0_sentMargin_4 n a0 (x1 + (((2 : Int32) * q4) - q8)) (x2 + 1) M
def f_X0_sentMargin (a0 : Nat) (M : Mem) : Option Int32 := L_X0_sentMargin_4 FU a0 (0 : Int32) (0 : Int32) M
set_option maxRecDepth 100000 in
set_option maxHeartbeats 4000000 in
theorem l_X0_sentMargin_4 (Z : Sys) (X : Cx) (hR : xR X = rm_X0_sentMargin) {q : Int32} {M : Mem} (hq : RetOk Z X (some .int) False (PostI q M) 0 0) : ∀ (n : Nat) (a0 : Nat) (x1 : Int32) (x2 : Int32) (hs : St M) (k_a0 : K0[a0]? = some (0, 12)) (hf : L_X0_sentMargin_4 n a0 x1 x2 M = some q), G Z X Y_X0_sentMargin False 0 0 4 [(0, .ref (zs Z + a0)), (1, .int x1), (2, .int x2)] [] M := by
  intro n
  induction n with
  | zero => intro a0 x1 x2 hs k_a0 hf; cases hf
  | succ n ih =>
    intro a0 x1 x2 hs k_a0 hf
    unfold L_X0_sentMargin_4 at hf
    refine G.iload_n 4 2 dX0_sentMargin_4 rfl rfl ?_
    refine G.iconst 5 (4 : Int32) dX0_sentMargin_5 (by decide +kernel) ?_
    refine G.icmp_ge 6 31 dX0_sentMargin_6 (by decide) (fun h1 => ?_) (fun h1 => ?_)
    · replace hf := (if_pos h1).symm.trans hf
      refine G.iload_n 31 1 dX0_sentMargin_31 rfl rfl ?_
      (have hf9 := Option.some.inj hf; subst hf9)
      exact G.rI 32 hq dX0_sentMargin_32 hs
    · replace hf := (if_neg h1).symm.trans hf
      refine G.iload_n 9 1 dX0_sentMargin_9 rfl rfl ?_
      refine G.iconst 10 (2 : Int32) dX0_sentMargin_10 (by decide +kernel) ?_
      refine G.aload_n 11 0 dX0_sentMargin_11 rfl rfl ?_
      refine G.iload_n 12 2 dX0_sentMargin_12 rfl rfl ?_
      obtain ⟨q4, e5, hf⟩ := bd_e hf
      refine G.cvI 13 (As := [.int x2]) ck_0 (hs.k k_a0) (c_X0_sentOurs Z hs a0 x2 k_a0 e5) mk_X0_sentOurs vk_X0_sentOurs rfl wd_724 hR (by decide +kernel) ⟨rfl, rfl⟩ rfl (Nat.le_of_ble_eq_true rfl) dX0_sentMargin_13 (fun hs2 => ?_)
      refine G.imul 16 dX0_sentMargin_16 ?_
      refine G.aload_n 17 0 dX0_sentMargin_17 rfl rfl ?_
      refine G.iload_n 18 2 dX0_sentMargin_18 rfl rfl ?_
      obtain ⟨q8, e9, hf⟩ := bd_e hf
      refine G.cvI 19 (As := [.int x2]) ck_0 (hs2.k k_a0) (c_X0_sentCame Z hs2 a0 x2 k_a0 e9) mk_X0_sentCame vk_X0_sentCame rfl wd_725 hR (by decide +kernel) ⟨rfl, rfl⟩ rfl (Nat.le_of_ble_eq_true rfl) dX0_sentMargin_19 (fun hs6 => ?_)
      refine G.isub 22 dX0_sentMargin_22 ?_
      refine G.iadd 23 dX0_sentMargin_23 ?_
      refine G.istore_n 24 [(1, .int (x1 + (((2 : Int32) * q4) - q8))), (0, .ref (zs Z + a0)), (2, .int x2)] dX0_sentMargin_24 rfl (Nat.le_of_ble_eq_true rfl) rfl ?_
      refine G.iinc 25 2 (x2 + 1) [(2, .int (x2 + 1)), (1, .int (x1 + (((2 : Int32) * q4) - q8))), (0, .ref (zs Z + a0))] dX0_sentMargin_25 rfl (congrArg (fun z => x2 + z) (by decide +kernel)) (Nat.le_of_ble_eq_true rfl) rfl ?_
      refine G.goto 28 4 dX0_sentMargin_28 (by decide) ?_
      refine G.locs [2, 1, 0] rfl ?_
      exact ih a0 (x1 + (((2 : Int32) * q4) - q8)) (x2 + 1) hs6 k_a0 hf
set_option maxRecDepth 100000 in
set_option maxHeartbeats 4000000 in
theorem c_X0_sentMargin (Z : Sys) {M : Mem} (hs : St M) (a0 : Nat) (k_a0 : K0[a0]? = some (0, 12)) {q : Int32} (hf : f_X0_sentMargin a0 M = some q) : Ct Z yX0_sentMargin cX0_sentMargin 3 (some .int) rm_X0_sentMargin [.ref (zs Z + a0)] M False (PostI q M) := by
  refine Ct.of (by decide +kernel) (Nat.le_of_ble_eq_true rfl) (fun X hR hq _ => ?_)
  show G Z X Y_X0_sentMargin False 0 0 0 [(0, .ref (zs Z + a0))] [] M
  replace hq : RetOk Z X (some .int) False (PostI q M) 0 0 := hq
  unfold f_X0_sentMargin at hf
  refine G.iconst 0 (0 : Int32) dX0_sentMargin_0 (by decide +kernel) ?_
  refine G.istore_n 1 [(1, .int (0 : Int32)), (0, .ref (zs Z + a0))] dX0_sentMargin_1 rfl (Nat.le_of_ble_eq_true rfl) rfl ?_
  refine G.iconst 2 (0 : Int32) dX0_sentMargin_2 (by decide +kernel) ?_
  refine G.istore_n 3 [(2, .int (0 : Int32)), (1, .int (0 : Int32)), (0, .ref (zs Z + a0))] dX0_sentMargin_3 rfl (Nat.le_of_ble_eq_true rfl) rfl ?_
  refine G.locs [2, 1, 0] rfl ?_
  exact l_X0_sentMargin_4 Z X hR hq FU a0 (0 : Int32) (0 : Int32) hs k_a0 hf
abbrev Y_X0_shareFromMiddle : My := (cX0_shareFromMiddle, RX0, 2)
def rm_X0_shareFromMiddle : Room := { frames := 4, cells := 0, slots := 0, locals := 265 }
theorem dX0_shareFromMiddle_0 : decode cX0_shareFromMiddle 0 = .ok (.aload_n 1, 1) := by decide +kernel
theorem dX0_shareFromMiddle_1 : decode cX0_shareFromMiddle 1 = .ok (.invokevirtual 125, 3) := by decide +kernel
theorem dX0_shareFromMiddle_4 : decode cX0_shareFromMiddle 4 = .ok (.aload_n 0, 1) := by decide +kernel
theorem dX0_shareFromMiddle_5 : decode cX0_shareFromMiddle 5 = .ok (.aload_n 1, 1) := by decide +kernel
theorem dX0_shareFromMiddle_6 : decode cX0_shareFromMiddle 6 = .ok (.getfield 131, 3) := by decide +kernel
theorem dX0_shareFromMiddle_9 : decode cX0_shareFromMiddle 9 = .ok (.invokevirtual 138, 3) := by decide +kernel
theorem dX0_shareFromMiddle_12 : decode cX0_shareFromMiddle 12 = .ok (.isub, 1) := by decide +kernel
theorem dX0_shareFromMiddle_13 : decode cX0_shareFromMiddle 13 = .ok (.ireturn, 1) := by decide +kernel
def f_X0_shareFromMiddle (a0 : Nat) (a1 : Nat) (M : Mem) : Option (Int32 × Mem) := (f_X1_share a1 M).bind fun q3 => (f_X0_middleShare a0 (mI M a1 2) M).bind fun q7 => some ((q3 - q7.1), q7.2)
set_option maxRecDepth 100000 in
set_option maxHeartbeats 4000000 in
theorem c_X0_shareFromMiddle (Z : Sys) {M : Mem} (hs : St M) (a0 : Nat) (a1 : Nat) (k_a0 : K0[a0]? = some (0, 12)) (k_a1 : K0[a1]? = some (1, 12)) {q : Int32 × Mem} (hf : f_X0_shareFromMiddle a0 a1 M = some q) : Ct Z yX0_shareFromMiddle cX0_shareFromMiddle 2 (some .int) rm_X0_shareFromMiddle [.ref (zs Z + a0), .ref (zs Z + a1)] M False (PostI q.1 q.2) := by
  refine Ct.of (by decide +kernel) (Nat.le_of_ble_eq_true rfl) (fun X hR hq _ => ?_)
  show G Z X Y_X0_shareFromMiddle False 0 0 0 [(0, .ref (zs Z + a0)), (1, .ref (zs Z + a1))] [] M
  replace hq : RetOk Z X (some .int) False (PostI q.1 q.2) 0 0 := hq
  unfold f_X0_shareFromMiddle at hf
  refine G.aload_n 0 1 dX0_shareFromMiddle_0 rfl rfl ?_
  obtain ⟨q3, e4, hf⟩ := bd_e hf
  refine G.cvI 1 (As := []) ck_1 (hs.k k_a1) (c_X1_share Z hs a1 k_a1 e4) mk_X1_share vk_X1_share rfl wd_595 hR (by decide +kernel) ⟨rfl, rfl⟩ rfl (Nat.le_of_ble_eq_true rfl) dX0_shareFromMiddle_1 (fun hs1 => ?_)
  refine G.aload_n 4 0 dX0_shareFromMiddle_4 rfl rfl ?_
  refine G.aload_n 5 1 dX0_shareFromMiddle_5 rfl rfl ?_
  refine G.geti 6 ck_1 2 (hs1.k k_a1) (by decide) (by decide +kernel) wd_196 dX0_shareFromMiddle_6 ?_
  obtain ⟨q7, e8, hf⟩ := bd_e hf
  refine G.cvI 9 (As := [.int (mI M a1 2)]) ck_0 (hs1.k k_a0) (c_X0_middleShare Z hs1 a0 (mI M a1 2) k_a0 e8) mk_X0_middleShare vk_X0_middleShare rfl wd_629 hR (by decide +kernel) ⟨rfl, rfl⟩ rfl (Nat.le_of_ble_eq_true rfl) dX0_shareFromMiddle_9 (fun hs5 => ?_)
  refine G.isub 12 dX0_shareFromMiddle_12 ?_
  (have hf9 := Option.some.inj hf; subst hf9)
  exact G.rI 13 hq dX0_shareFromMiddle_13 hs5
abbrev Y_X0_watchedCount : My := (cX0_watchedCount, RX0, 3)
def rm_X0_watchedCount : Room := { frames := 1, cells := 0, slots := 0, locals := 200 }
theorem dX0_watchedCount_0 : decode cX0_watchedCount 0 = .ok (.iconst 0, 1) := by decide +kernel
theorem dX0_watchedCount_1 : decode cX0_watchedCount 1 = .ok (.istore_n 1, 1) := by decide +kernel
theorem dX0_watchedCount_2 : decode cX0_watchedCount 2 = .ok (.iconst 0, 1) := by decide +kernel
theorem dX0_watchedCount_3 : decode cX0_watchedCount 3 = .ok (.istore_n 2, 1) := by decide +kernel
theorem dX0_watchedCount_4 : decode cX0_watchedCount 4 = .ok (.iload_n 2, 1) := by decide +kernel
theorem dX0_watchedCount_5 : decode cX0_watchedCount 5 = .ok (.aload_n 0, 1) := by decide +kernel
theorem dX0_watchedCount_6 : decode cX0_watchedCount 6 = .ok (.getfield 53, 3) := by decide +kernel
theorem dX0_watchedCount_9 : decode cX0_watchedCount 9 = .ok (.if_icmp .ge 24, 3) := by decide +kernel
theorem dX0_watchedCount_12 : decode cX0_watchedCount 12 = .ok (.aload_n 0, 1) := by decide +kernel
theorem dX0_watchedCount_13 : decode cX0_watchedCount 13 = .ok (.getfield 13, 3) := by decide +kernel
theorem dX0_watchedCount_16 : decode cX0_watchedCount 16 = .ok (.iload_n 2, 1) := by decide +kernel
theorem dX0_watchedCount_17 : decode cX0_watchedCount 17 = .ok (.aaload, 1) := by decide +kernel
theorem dX0_watchedCount_18 : decode cX0_watchedCount 18 = .ok (.getfield 86, 3) := by decide +kernel
theorem dX0_watchedCount_21 : decode cX0_watchedCount 21 = .ok (.ifCond .eq 6, 3) := by decide +kernel
theorem dX0_watchedCount_24 : decode cX0_watchedCount 24 = .ok (.iinc 1 1, 3) := by decide +kernel
theorem dX0_watchedCount_27 : decode cX0_watchedCount 27 = .ok (.iinc 2 1, 3) := by decide +kernel
theorem dX0_watchedCount_30 : decode cX0_watchedCount 30 = .ok (.goto (-26), 3) := by decide +kernel
theorem dX0_watchedCount_33 : decode cX0_watchedCount 33 = .ok (.iload_n 1, 1) := by decide +kernel
theorem dX0_watchedCount_34 : decode cX0_watchedCount 34 = .ok (.ireturn, 1) := by decide +kernel
def B_X0_watchedCount_27 (rc_4 : Nat → Int32 → Int32 → Mem → Option Int32) (a0 : Nat) (x1 : Int32) (x2 : Int32) (M : Mem) : Option Int32 := rc_4 a0 x1 (x2 + 1) M
def L_X0_watchedCount_4 : Nat → Nat → Int32 → Int32 → Mem → Option Int32
  | 0, _, _, _, _ => none
  | n + 1, a0, x1, x2, M => if (mI M a0 1) ≤ x2 then some x1 else gd (inR x2 30) (if (mI M ((a0 + 1) + 23 + 2 * x2.toNatClampNeg) 8) = 0 then B_X0_watchedCount_27 (L_X0_watchedCount_4 n) a0 x1 x2 M else B_X0_watchedCount_27 (L_X0_watchedCount_4 n) a0 (x1 + 1) x2 M)
def f_X0_watchedCount (a0 : Nat) (M : Mem) : Option Int32 := L_X0_watchedCount_4 FU a0 (0 : Int32) (0 : Int32) M
set_option maxRecDepth 100000 in
set_option maxHeartbeats 4000000 in
theorem b_X0_watchedCount_27 (Z : Sys) (X : Cx) (hR : xR X = rm_X0_watchedCount) {q : Int32} {M : Mem} (hq : RetOk Z X (some .int) False (PostI q M) 0 0) (rc_4 : Nat → Int32 → Int32 → Mem → Option Int32) (hrc_4 : ∀ (a0 : Nat) (x1 : Int32) (x2 : Int32), St M → K0[a0]? = some (0, 12) → rc_4 a0 x1 x2 M = some q → G Z X Y_X0_watchedCount False 0 0 4 [(0, .ref (zs Z + a0)), (1, .int x1), (2, .int x2)] [] M) (a0 : Nat) (x1 : Int32) (x2 : Int32) (hs : St M) (k_a0 : K0[a0]? = some (0, 12)) (hf : B_X0_watchedCount_27 rc_4 a0 x1 x2 M = some q) : G Z X Y_X0_watchedCount False 0 0 27 [(0, .ref (zs Z + a0)), (1, .int x1), (2, .int x2)] [] M := by
  unfold B_X0_watchedCount_27 at hf
  refine G.iinc 27 2 (x2 + 1) [(2, .int (x2 + 1)), (0, .ref (zs Z + a0)), (1, .int x1)] dX0_watchedCount_27 rfl (congrArg (fun z => x2 + z) (by decide +kernel)) (Nat.le_of_ble_eq_true rfl) rfl ?_
  refine G.goto 30 4 dX0_watchedCount_30 (by decide) ?_
  refine G.locs [1, 2, 0] rfl ?_
  exact hrc_4 a0 x1 (x2 + 1) hs k_a0 hf
set_option maxRecDepth 100000 in
set_option maxHeartbeats 4000000 in
theorem l_X0_watchedCount_4 (Z : Sys) (X : Cx) (hR : xR X = rm_X0_watchedCount) {q : Int32} {M : Mem} (hq : RetOk Z X (some .int) False (PostI q M) 0 0) : ∀ (n : Nat) (a0 : Nat) (x1 : Int32) (x2 : Int32) (hs : St M) (k_a0 : K0[a0]? = some (0, 12)) (hf : L_X0_watchedCount_4 n a0 x1 x2 M = some q), G Z X Y_X0_watchedCount False 0 0 4 [(0, .ref (zs Z + a0)), (1, .int x1), (2, .int x2)] [] M := by
  intro n
  induction n with
  | zero => intro a0 x1 x2 hs k_a0 hf; cases hf
  | succ n ih =>
    intro a0 x1 x2 hs k_a0 hf
    unfold L_X0_watchedCount_4 at hf
    refine G.iload_n 4 2 dX0_watchedCount_4 rfl rfl ?_
    refine G.aload_n 5 0 dX0_watchedCount_5 rfl rfl ?_
    refine G.geti 6 ck_0 1 (hs.k k_a0) (by decide) (by decide +kernel) wd_261 dX0_watchedCount_6 ?_
    refine G.icmp_ge 9 33 dX0_watchedCount_9 (by decide) (fun h1 => ?_) (fun h1 => ?_)
    · replace hf := (if_pos h1).symm.trans hf
      refine G.iload_n 33 1 dX0_watchedCount_33 rfl rfl ?_
      (have hf9 := Option.some.inj hf; subst hf9)
      exact G.rI 34 hq dX0_watchedCount_34 hs
    · replace hf := (if_neg h1).symm.trans hf
      refine G.aload_n 12 0 dX0_watchedCount_12 rfl rfl ?_
      refine G.getp 13 ck_0 0 (a0 + 1) (hs.k k_a0) (pt_0_0 hs k_a0).1 (by decide) (by decide +kernel) wd_257 dX0_watchedCount_13 ?_
      refine G.iload_n 16 2 dX0_watchedCount_16 rfl rfl ?_
      obtain ⟨g2, hf⟩ := gd_e hf
      refine G.aa 17 x2.toNatClampNeg ((a0 + 1) + 23 + 2 * x2.toNatClampNeg) (hs.k (pt_0_0 hs k_a0).2) (by decide) rfl rfl g2 rfl (pa_13 hs (pt_0_0 hs k_a0).2 (inlt g2)).1 dX0_watchedCount_17 ?_
      refine G.geti 18 ck_1 8 (hs.k (pa_13 hs (pt_0_0 hs k_a0).2 (inlt g2)).2) (by decide) (by decide +kernel) wd_216 dX0_watchedCount_18 ?_
      refine G.if_eq 21 27 dX0_watchedCount_21 (by decide) (fun h3 => ?_) (fun h3 => ?_)
      · replace hf := (if_pos h3).symm.trans hf
        exact b_X0_watchedCount_27 Z X hR hq (L_X0_watchedCount_4 n) ih a0 x1 x2 hs k_a0 hf
      · replace hf := (if_neg h3).symm.trans hf
        refine G.iinc 24 1 (x1 + 1) [(1, .int (x1 + 1)), (0, .ref (zs Z + a0)), (2, .int x2)] dX0_watchedCount_24 rfl (congrArg (fun z => x1 + z) (by decide +kernel)) (Nat.le_of_ble_eq_true rfl) rfl ?_
        refine G.locs [1, 0, 2] rfl ?_
        exact b_X0_watchedCount_27 Z X hR hq (L_X0_watchedCount_4 n) ih a0 (x1 + 1) x2 hs k_a0 hf
set_option maxRecDepth 100000 in
set_option maxHeartbeats 4000000 in
theorem c_X0_watchedCount (Z : Sys) {M : Mem} (hs : St M) (a0 : Nat) (k_a0 : K0[a0]? = some (0, 12)) {q : Int32} (hf : f_X0_watchedCount a0 M = some q) : Ct Z yX0_watchedCount cX0_watchedCount 3 (some .int) rm_X0_watchedCount [.ref (zs Z + a0)] M False (PostI q M) := by
  refine Ct.of (by decide +kernel) (Nat.le_of_ble_eq_true rfl) (fun X hR hq _ => ?_)
  show G Z X Y_X0_watchedCount False 0 0 0 [(0, .ref (zs Z + a0))] [] M
  replace hq : RetOk Z X (some .int) False (PostI q M) 0 0 := hq
  unfold f_X0_watchedCount at hf
  refine G.iconst 0 (0 : Int32) dX0_watchedCount_0 (by decide +kernel) ?_
  refine G.istore_n 1 [(1, .int (0 : Int32)), (0, .ref (zs Z + a0))] dX0_watchedCount_1 rfl (Nat.le_of_ble_eq_true rfl) rfl ?_
  refine G.iconst 2 (0 : Int32) dX0_watchedCount_2 (by decide +kernel) ?_
  refine G.istore_n 3 [(2, .int (0 : Int32)), (1, .int (0 : Int32)), (0, .ref (zs Z + a0))] dX0_watchedCount_3 rfl (Nat.le_of_ble_eq_true rfl) rfl ?_
  refine G.locs [2, 1, 0] rfl ?_
  exact l_X0_watchedCount_4 Z X hR hq FU a0 (0 : Int32) (0 : Int32) hs k_a0 hf
