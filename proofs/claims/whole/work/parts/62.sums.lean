/-! SUMS OVER HALLS -/
theorem c100 : ((1 : Int32) = 3) = False := by decide
theorem c101 : ((4 : Int32) = 3) = False := by decide
theorem c102 : ((3 : Int32) = 1) = False := by decide
theorem c103 : ((4 : Int32) = 1) = False := by decide
theorem c104 : ((5 : Int32) = 1) = False := by decide
theorem c105 : ((5 : Int32) = 3) = False := by decide
theorem c106 : ((5 : Int32) = 4) = False := by decide
theorem c107 : ((6 : Int32) = 1) = False := by decide
theorem c108 : ((6 : Int32) = 3) = False := by decide
theorem c109 : ((6 : Int32) = 4) = False := by decide
theorem c110 : ((6 : Int32) = 5) = False := by decide
def isr (a b : Int32) : Int32 := if a ≤ 0 then 0 else if jrem (b * 100) a = 0 then (if jrem (b * 100 / a) 5 = 0 then 1 else 0) else 0
theorem isr_c (a b : Int32) : f_X8_isRound a b = some (isr a b) := by
  unfold f_X8_isRound isr
  by_cases h : a ≤ 0
  · rw [if_pos h, if_pos h]
  · rw [if_neg h, if_neg h, gd_t (by intro e; apply h; rw [e]; decide)]
    split
    · split <;> rfl
    · rfl
theorem isr_m (a b : Int32) : f_X9_isRound a b = some (isr a b) := isr_c a b
def wr (S : Nat → Int32) (N k : Nat) (d : Int32) : Int32 := fdN (fun h a => if S (12 * h + 9) < 0 then a else if S (12 * h + 3) = d then a + S (12 * h + k) else a) 0 N
def zrnd (S : Nat → Int32) (N : Nat) (p : Int32) : Int32 := fdN (fun h a => if S (12 * h + 9) < 0 then a else if isr (S (12 * h + 9)) (S (12 * h + 10)) = 0 then a else if p = -1 then a + 1 else if sh S (12 * h) = p then a + 1 else a) 0 N
def hgh (S : Nat → Int32) (N : Nat) : Int32 := fdN (fun h a => if S (12 * h + 9) < 0 then a else if sh S (12 * h) < 95 then a else a + 1) 0 N
def mba (S : Nat → Int32) (N : Nat) : Int32 := fdN (fun h a => if S (12 * h + 9) < 0 then a else a + mb S (12 * h)) 0 N
def uta (S : Nat → Int32) (N : Nat) : Int32 := fdN (fun h a => if S (12 * h + 9) < 0 then a else a + ut S (12 * h)) 0 N
def thr (S : Nat → Int32) (N : Nat) : Int32 := fdN (fun h a => if S (12 * h + 9) < 0 then a else a + 1) 0 N
def lst (S : Nat → Int32) (N : Nat) : Int32 := fdN (fun h a => a + S (12 * h)) 0 N
def wtd (S : Nat → Int32) (N : Nat) : Int32 := fdN (fun h a => a + S (12 * h + 11)) 0 N
def wra (S : Nat → Int32) (N k : Nat) : Int32 := fdN (fun h a => if S (12 * h + 9) < 0 then a else a + S (12 * h + k)) 0 N
section
variable {A B : Mem} {c N K : Nat} {S : Nat → Int32}
theorem c_lists (R : CQ A c S N) : f_X0_allLists c A = some (fdN (fun h a => a + S (12 * h)) 0 N) := by
  have hN := cq_N R
  have en := cq_n R
  refine up_val (L := fun n x a => L_X0_allLists_4 n c a x A) N _ some (by omega) ?_ ?_ 0
  · intro n s
    simp (disch := omega) only [L_X0_allLists_4, en, le_f, le_t, if_true, if_false, ↓gd_r, o_clamp, o_succ, i10, i01, eq_self, Option.bind_some, Int32.add_zero, c100, c101]
  · intro n i s hi
    obtain ⟨e1, e2, e3, e9, ew⟩ := cq_h R hi
    by_cases hm : S (12 * i + 9) < 0
    · rw [if_pos hm] at e9
      simp (disch := omega) only [L_X0_allLists_4, en, e1, e2, e3, e9, hm, le_f, le_t, if_true, if_false, ↓gd_r, o_clamp, o_succ, i10, i01, eq_self, Option.bind_some, Int32.add_zero, c100, c101]
    · rw [if_neg hm] at e9
      obtain ⟨e10, e11⟩ := ew hm
      simp (disch := omega) only [L_X0_allLists_4, en, e1, e2, e3, e9, e10, e11, hm, c_share e10 e11, c_must (bq_h R.1 hi) hm e1 e10, le_f, le_t, if_true, if_false, ↓gd_r, o_clamp, o_succ, i10, i01, eq_self, Option.bind_some, Int32.add_zero, c100, c101]
theorem c_there (R : CQ A c S N) : f_X0_writtenCount c A = some (fdN (fun h a => if S (12 * h + 9) < 0 then a else a + 1) 0 N) := by
  have hN := cq_N R
  have en := cq_n R
  refine up_val (L := fun n x a => L_X0_writtenCount_4 n c a x A) N _ some (by omega) ?_ ?_ 0
  · intro n s
    simp (disch := omega) only [L_X0_writtenCount_4, B_X0_writtenCount_27, en, le_f, le_t, if_true, if_false, ↓gd_r, o_clamp, o_succ, i10, i01, eq_self, Option.bind_some, Int32.add_zero, c100, c101]
  · intro n i s hi
    obtain ⟨e1, e2, e3, e9, ew⟩ := cq_h R hi
    by_cases hm : S (12 * i + 9) < 0
    · rw [if_pos hm] at e9
      simp (disch := omega) only [L_X0_writtenCount_4, B_X0_writtenCount_27, en, e1, e2, e3, e9, hm, le_f, le_t, if_true, if_false, ↓gd_r, o_clamp, o_succ, i10, i01, eq_self, Option.bind_some, Int32.add_zero, c100, c101]
    · rw [if_neg hm] at e9
      obtain ⟨e10, e11⟩ := ew hm
      simp (disch := omega) only [L_X0_writtenCount_4, B_X0_writtenCount_27, en, e1, e2, e3, e9, e10, e11, hm, c_share e10 e11, c_must (bq_h R.1 hi) hm e1 e10, le_f, le_t, if_true, if_false, ↓gd_r, o_clamp, o_succ, i10, i01, eq_self, Option.bind_some, Int32.add_zero, c100, c101]
theorem c_mba (R : CQ A c S N) : f_X0_allMustBe c A = some (fdN (fun h a => if S (12 * h + 9) < 0 then a else a + mb S (12 * h)) 0 N) := by
  have hN := cq_N R
  have en := cq_n R
  refine up_val (L := fun n x a => L_X0_allMustBe_4 n c a x A) N _ some (by omega) ?_ ?_ 0
  · intro n s
    simp (disch := omega) only [L_X0_allMustBe_4, en, le_f, le_t, if_true, if_false, ↓gd_r, o_clamp, o_succ, i10, i01, eq_self, Option.bind_some, Int32.add_zero, c100, c101]
  · intro n i s hi
    obtain ⟨e1, e2, e3, e9, ew⟩ := cq_h R hi
    by_cases hm : S (12 * i + 9) < 0
    · rw [if_pos hm] at e9
      simp (disch := omega) only [L_X0_allMustBe_4, en, e1, e2, e3, e9, hm, le_f, le_t, if_true, if_false, ↓gd_r, o_clamp, o_succ, i10, i01, eq_self, Option.bind_some, Int32.add_zero, c100, c101]
    · rw [if_neg hm] at e9
      obtain ⟨e10, e11⟩ := ew hm
      simp (disch := omega) only [L_X0_allMustBe_4, en, e1, e2, e3, e9, e10, e11, hm, c_share e10 e11, c_must (bq_h R.1 hi) hm e1 e10, le_f, le_t, if_true, if_false, ↓gd_r, o_clamp, o_succ, i10, i01, eq_self, Option.bind_some, Int32.add_zero, c100, c101]
theorem c_uta (R : CQ A c S N) (hr : ∀ h, h < N → RR A (c + 1 + 23 + 2 * h) S (12 * h)) : f_X0_allUntrue c A = some (fdN (fun h a => if S (12 * h + 9) < 0 then a else a + ut S (12 * h)) 0 N) := by
  have hN := cq_N R
  have en := cq_n R
  refine up_val (L := fun n x a => L_X0_allUntrue_4 n c a x A) N _ some (by omega) ?_ ?_ 0
  · intro n s
    simp (disch := omega) only [L_X0_allUntrue_4, en, le_f, le_t, if_true, if_false, ↓gd_r, o_clamp, o_succ, i10, i01, eq_self, Option.bind_some, Int32.add_zero, c100, c101]
  · intro n i s hi
    obtain ⟨e1, e2, e3, e9, ew⟩ := cq_h R hi
    obtain ⟨e4, e5, e6, e7, f0, f1, e8⟩ := hr i hi
    by_cases hm : S (12 * i + 9) < 0
    · rw [if_pos hm] at e9
      simp (disch := omega) only [L_X0_allUntrue_4, en, e1, e2, e3, e4, e5, e6, e7, f0, f1, e8, e9, hm, le_f, le_t, if_true, if_false, ↓gd_r, o_clamp, o_succ, i10, i01, eq_self, Option.bind_some, Int32.add_zero, c100, c101]
    · rw [if_neg hm] at e9
      obtain ⟨e10, e11⟩ := ew hm
      simp (disch := omega) only [L_X0_allUntrue_4, en, e1, e2, e3, e4, e5, e6, e7, f0, f1, e8, e9, e10, e11, hm, c_share e10 e11, c_must (bq_h R.1 hi) hm e1 e10, c_untruth e6 e7 e10 e11, le_f, le_t, if_true, if_false, ↓gd_r, o_clamp, o_succ, i10, i01, eq_self, Option.bind_some, Int32.add_zero, c100, c101]
theorem c_high (R : CQ A c S N) : f_X0_highCount c A = some (fdN (fun h a => if S (12 * h + 9) < 0 then a else if sh S (12 * h) < 95 then a else a + 1) 0 N) := by
  have hN := cq_N R
  have en := cq_n R
  refine up_val (L := fun n x a => L_X0_highCount_4 n c a x A) N _ some (by omega) ?_ ?_ 0
  · intro n s
    simp (disch := omega) only [L_X0_highCount_4, B_X0_highCount_41, en, le_f, le_t, if_true, if_false, ↓gd_r, o_clamp, o_succ, i10, i01, eq_self, Option.bind_some, Int32.add_zero, c100, c101]
  · intro n i s hi
    obtain ⟨e1, e2, e3, e9, ew⟩ := cq_h R hi
    by_cases hm : S (12 * i + 9) < 0
    · rw [if_pos hm] at e9
      simp (disch := omega) only [L_X0_highCount_4, B_X0_highCount_41, en, e1, e2, e3, e9, hm, le_f, le_t, if_true, if_false, ↓gd_r, o_clamp, o_succ, i10, i01, eq_self, Option.bind_some, Int32.add_zero, c100, c101]
      all_goals (repeat (first | rfl | split))
      all_goals first | rfl | (exfalso; simp_all; done) | simp_all
    · rw [if_neg hm] at e9
      obtain ⟨e10, e11⟩ := ew hm
      simp (disch := omega) only [L_X0_highCount_4, B_X0_highCount_41, en, e1, e2, e3, e9, e10, e11, hm, c_share e10 e11, c_must (bq_h R.1 hi) hm e1 e10, le_f, le_t, if_true, if_false, ↓gd_r, o_clamp, o_succ, i10, i01, eq_self, Option.bind_some, Int32.add_zero, c100, c101]
      all_goals (repeat (first | rfl | split))
      all_goals first | rfl | (exfalso; simp_all; done) | simp_all
theorem c_rnd (R : CQ A c S N) (p : Int32) : f_X0_roundCount c p A = some (fdN (fun h a => if S (12 * h + 9) < 0 then a else if isr (S (12 * h + 9)) (S (12 * h + 10)) = 0 then a else if p = -1 then a + 1 else if sh S (12 * h) = p then a + 1 else a) 0 N) := by
  have hN := cq_N R
  have en := cq_n R
  refine up_val (L := fun n x a => L_X0_roundCount_4 n c p a x A) N _ some (by omega) ?_ ?_ 0
  · intro n s
    simp (disch := omega) only [L_X0_roundCount_4, B_X0_roundCount_61, B_X0_roundCount_58, isr_c, en, le_f, le_t, if_true, if_false, ↓gd_r, o_clamp, o_succ, i10, i01, eq_self, Option.bind_some, Int32.add_zero, c100, c101]
  · intro n i s hi
    obtain ⟨e1, e2, e3, e9, ew⟩ := cq_h R hi
    by_cases hm : S (12 * i + 9) < 0
    · rw [if_pos hm] at e9
      simp (disch := omega) only [L_X0_roundCount_4, B_X0_roundCount_61, B_X0_roundCount_58, isr_c, en, e1, e2, e3, e9, hm, le_f, le_t, if_true, if_false, ↓gd_r, o_clamp, o_succ, i10, i01, eq_self, Option.bind_some, Int32.add_zero, c100, c101]
      all_goals (repeat (first | rfl | split))
      all_goals first | rfl | (exfalso; simp_all; done) | simp_all
    · rw [if_neg hm] at e9
      obtain ⟨e10, e11⟩ := ew hm
      simp (disch := omega) only [L_X0_roundCount_4, B_X0_roundCount_61, B_X0_roundCount_58, isr_c, en, e1, e2, e3, e9, e10, e11, hm, c_share e10 e11, c_must (bq_h R.1 hi) hm e1 e10, le_f, le_t, if_true, if_false, ↓gd_r, o_clamp, o_succ, i10, i01, eq_self, Option.bind_some, Int32.add_zero, c100, c101]
      all_goals (repeat (first | rfl | split))
      all_goals first | rfl | (exfalso; simp_all; done) | simp_all
theorem c_wrC (R : CQ A c S N) (hr : ∀ h, h < N → RR A (c + 1 + 23 + 2 * h) S (12 * h)) (d : Int32) : f_X0_writtenCame c d A = some (fdN (fun h a => if S (12 * h + 9) < 0 then a else if S (12 * h + 3) = d then a + S (12 * h + 9) else a) 0 N) := by
  have hN := cq_N R
  have en := cq_n R
  refine up_val (L := fun n x a => L_X0_writtenCame_4 n c d a x A) N _ some (by omega) ?_ ?_ 0
  · intro n s
    simp (disch := omega) only [L_X0_writtenCame_4, en, le_f, le_t, if_true, if_false, ↓gd_r, o_clamp, o_succ, i10, i01, eq_self, Option.bind_some, Int32.add_zero, c100, c101]
  · intro n i s hi
    obtain ⟨e1, e2, e3, e9, ew⟩ := cq_h R hi
    obtain ⟨e4, e5, e6, e7, f0, f1, e8⟩ := hr i hi
    by_cases hm : S (12 * i + 9) < 0
    · rw [if_pos hm] at e9
      simp (disch := omega) only [L_X0_writtenCame_4, en, e1, e2, e3, e4, e5, e6, e7, f0, f1, e8, e9, hm, le_f, le_t, if_true, if_false, ↓gd_r, o_clamp, o_succ, i10, i01, eq_self, Option.bind_some, Int32.add_zero, c100, c101]
      all_goals (repeat (first | rfl | split))
      all_goals first | rfl | (exfalso; simp_all; done) | simp_all
    · rw [if_neg hm] at e9
      obtain ⟨e10, e11⟩ := ew hm
      simp (disch := omega) only [L_X0_writtenCame_4, en, e1, e2, e3, e4, e5, e6, e7, f0, f1, e8, e9, e10, e11, hm, c_share e10 e11, c_must (bq_h R.1 hi) hm e1 e10, c_untruth e6 e7 e10 e11, le_f, le_t, if_true, if_false, ↓gd_r, o_clamp, o_succ, i10, i01, eq_self, Option.bind_some, Int32.add_zero, c100, c101]
      all_goals (repeat (first | rfl | split))
      all_goals first | rfl | (exfalso; simp_all; done) | simp_all
theorem c_wrO (R : CQ A c S N) (hr : ∀ h, h < N → RR A (c + 1 + 23 + 2 * h) S (12 * h)) (d : Int32) : f_X0_writtenOurs c d A = some (fdN (fun h a => if S (12 * h + 9) < 0 then a else if S (12 * h + 3) = d then a + S (12 * h + 10) else a) 0 N) := by
  have hN := cq_N R
  have en := cq_n R
  refine up_val (L := fun n x a => L_X0_writtenOurs_4 n c d a x A) N _ some (by omega) ?_ ?_ 0
  · intro n s
    simp (disch := omega) only [L_X0_writtenOurs_4, en, le_f, le_t, if_true, if_false, ↓gd_r, o_clamp, o_succ, i10, i01, eq_self, Option.bind_some, Int32.add_zero, c100, c101]
  · intro n i s hi
    obtain ⟨e1, e2, e3, e9, ew⟩ := cq_h R hi
    obtain ⟨e4, e5, e6, e7, f0, f1, e8⟩ := hr i hi
    by_cases hm : S (12 * i + 9) < 0
    · rw [if_pos hm] at e9
      simp (disch := omega) only [L_X0_writtenOurs_4, en, e1, e2, e3, e4, e5, e6, e7, f0, f1, e8, e9, hm, le_f, le_t, if_true, if_false, ↓gd_r, o_clamp, o_succ, i10, i01, eq_self, Option.bind_some, Int32.add_zero, c100, c101]
      all_goals (repeat (first | rfl | split))
      all_goals first | rfl | (exfalso; simp_all; done) | simp_all
    · rw [if_neg hm] at e9
      obtain ⟨e10, e11⟩ := ew hm
      simp (disch := omega) only [L_X0_writtenOurs_4, en, e1, e2, e3, e4, e5, e6, e7, f0, f1, e8, e9, e10, e11, hm, c_share e10 e11, c_must (bq_h R.1 hi) hm e1 e10, c_untruth e6 e7 e10 e11, le_f, le_t, if_true, if_false, ↓gd_r, o_clamp, o_succ, i10, i01, eq_self, Option.bind_some, Int32.add_zero, c100, c101]
      all_goals (repeat (first | rfl | split))
      all_goals first | rfl | (exfalso; simp_all; done) | simp_all
theorem c_wtd (R : CQ A c S N) (hr : ∀ h, h < N → RR A (c + 1 + 23 + 2 * h) S (12 * h)) : f_X0_watchedCount c A = some (fdN (fun h a => a + S (12 * h + 11)) 0 N) := by
  have hN := cq_N R
  have en := cq_n R
  refine up_val (L := fun n x a => L_X0_watchedCount_4 n c a x A) N _ some (by omega) ?_ ?_ 0
  · intro n s
    simp (disch := omega) only [L_X0_watchedCount_4, en, le_f, le_t, if_true, if_false, ↓gd_r, o_clamp, o_succ, i10, i01, eq_self, Option.bind_some, Int32.add_zero, c100, c101]
  · intro n i s hi
    obtain ⟨e4, e5, e6, e7, f0, f1, e8⟩ := hr i hi
    obtain ⟨-, -, -, -, -, -, -, -, -, -, -, b11⟩ := bq_h R.1 hi
    by_cases h0 : S (12 * i + 11) = 0
    · simp (disch := omega) only [L_X0_watchedCount_4, B_X0_watchedCount_27, en, e8, h0, le_f, le_t, if_true, if_false, ↓gd_r, o_clamp, o_succ, i10, i01, eq_self, Option.bind_some, Int32.add_zero, c100, c101]
    · have h1 : S (12 * i + 11) = 1 := by
        have z : (0 : Int32).toInt = 0 := rfl
        have z1 : (1 : Int32).toInt = 1 := rfl
        have h0' : (S (12 * i + 11)).toInt ≠ 0 := fun e => h0 (Int32.toInt_inj.mp (by rw [e, z]))
        unfold bt at b11
        exact Int32.toInt_inj.mp (by omega)
      simp (disch := omega) only [L_X0_watchedCount_4, B_X0_watchedCount_27, en, e8, h1, le_f, le_t, if_true, if_false, ↓gd_r, o_clamp, o_succ, i10, i01, eq_self, Option.bind_some, Int32.add_zero, c100, c101]
theorem m_lists (R : BQ (mI B 285) N) : L_X9_count_46 FU 3 0 0 B = some (fdN (fun h a => a + mI B 285 (12 * h)) 0 N) := by
  have hN := R.1
  have en := R.2.1
  refine up_val (L := fun n x a => L_X9_count_46 n 3 a x B) N _ (some) (by omega) ?_ ?_ 0
  · intro n s
    simp (disch := omega) only [L_X9_count_46, c102, en, le_f, le_t, if_true, if_false, ↓gd_r, o_clamp, o_succ, i10, i01, eq_self, Option.bind_some, Int32.add_zero, c100, c101]
  · intro n i s hi
    have hi' : i < 30 := by omega
    by_cases hm : mI B 285 (12 * i + 9) < 0
    · simp (disch := omega) only [L_X9_count_46, c102, en, hs hi', g0 hi', g1 hi', g2 hi', g3 hi', g9 hi', g10 hi', g11 hi', m_share hi', hm, le_f, le_t, if_true, if_false, ↓gd_r, o_clamp, o_succ, i10, i01, eq_self, Option.bind_some, Int32.add_zero, c100, c101]
    · simp (disch := omega) only [L_X9_count_46, c102, en, hs hi', g0 hi', g1 hi', g2 hi', g3 hi', g9 hi', g10 hi', g11 hi', m_share hi', m_must hi', m_untruth hi', hm, le_f, le_t, if_true, if_false, ↓gd_r, o_clamp, o_succ, i10, i01, eq_self, Option.bind_some, Int32.add_zero, c100, c101]
theorem m_wtd (R : BQ (mI B 285) N) : L_X9_count_46 FU 4 0 0 B = some (fdN (fun h a => a + mI B 285 (12 * h + 11)) 0 N) := by
  have hN := R.1
  have en := R.2.1
  refine up_val (L := fun n x a => L_X9_count_46 n 4 a x B) N _ (some) (by omega) ?_ ?_ 0
  · intro n s
    simp (disch := omega) only [L_X9_count_46, c103, en, le_f, le_t, if_true, if_false, ↓gd_r, o_clamp, o_succ, i10, i01, eq_self, Option.bind_some, Int32.add_zero, c100, c101]
  · intro n i s hi
    have hi' : i < 30 := by omega
    by_cases hm : mI B 285 (12 * i + 9) < 0
    · simp (disch := omega) only [L_X9_count_46, c103, en, hs hi', g0 hi', g1 hi', g2 hi', g3 hi', g9 hi', g10 hi', g11 hi', m_share hi', hm, le_f, le_t, if_true, if_false, ↓gd_r, o_clamp, o_succ, i10, i01, eq_self, Option.bind_some, Int32.add_zero, c100, c101]
    · simp (disch := omega) only [L_X9_count_46, c103, en, hs hi', g0 hi', g1 hi', g2 hi', g3 hi', g9 hi', g10 hi', g11 hi', m_share hi', m_must hi', m_untruth hi', hm, le_f, le_t, if_true, if_false, ↓gd_r, o_clamp, o_succ, i10, i01, eq_self, Option.bind_some, Int32.add_zero, c100, c101]
theorem m_miss (R : BQ (mI B 285) N) : L_X9_count_46 FU 1 0 0 B = some (fdN (fun h a => if mI B 285 (12 * h + 9) < 0 then a + 1 else a) 0 N) := by
  have hN := R.1
  have en := R.2.1
  refine up_val (L := fun n x a => L_X9_count_46 n 1 a x B) N _ (some) (by omega) ?_ ?_ 0
  · intro n s
    simp (disch := omega) only [L_X9_count_46, en, le_f, le_t, if_true, if_false, ↓gd_r, o_clamp, o_succ, i10, i01, eq_self, Option.bind_some, Int32.add_zero, c100, c101]
  · intro n i s hi
    have hi' : i < 30 := by omega
    by_cases hm : mI B 285 (12 * i + 9) < 0
    · simp (disch := omega) only [L_X9_count_46, en, hs hi', g0 hi', g1 hi', g2 hi', g3 hi', g9 hi', g10 hi', g11 hi', m_share hi', hm, le_f, le_t, if_true, if_false, ↓gd_r, o_clamp, o_succ, i10, i01, eq_self, Option.bind_some, Int32.add_zero, c100, c101]
    · simp (disch := omega) only [L_X9_count_46, en, hs hi', g0 hi', g1 hi', g2 hi', g3 hi', g9 hi', g10 hi', g11 hi', m_share hi', m_must hi', m_untruth hi', hm, le_f, le_t, if_true, if_false, ↓gd_r, o_clamp, o_succ, i10, i01, eq_self, Option.bind_some, Int32.add_zero, c100, c101]
theorem m_cnt5 (R : BQ (mI B 285) N) : L_X9_count_46 FU 5 0 0 B = some (fdN (fun h a => if mI B 285 (12 * h + 9) < 0 then a else a + mI B 285 (12 * h + 9)) 0 N) := by
  have hN := R.1
  have en := R.2.1
  refine up_val (L := fun n x a => L_X9_count_46 n 5 a x B) N _ (some) (by omega) ?_ ?_ 0
  · intro n s
    simp (disch := omega) only [L_X9_count_46, c104, c105, c106, en, le_f, le_t, if_true, if_false, ↓gd_r, o_clamp, o_succ, i10, i01, eq_self, Option.bind_some, Int32.add_zero, c100, c101]
  · intro n i s hi
    have hi' : i < 30 := by omega
    by_cases hm : mI B 285 (12 * i + 9) < 0
    · simp (disch := omega) only [L_X9_count_46, c104, c105, c106, en, hs hi', g0 hi', g1 hi', g2 hi', g3 hi', g9 hi', g10 hi', g11 hi', m_share hi', hm, le_f, le_t, if_true, if_false, ↓gd_r, o_clamp, o_succ, i10, i01, eq_self, Option.bind_some, Int32.add_zero, c100, c101]
    · simp (disch := omega) only [L_X9_count_46, c104, c105, c106, en, hs hi', g0 hi', g1 hi', g2 hi', g3 hi', g9 hi', g10 hi', g11 hi', m_share hi', m_must hi', m_untruth hi', hm, le_f, le_t, if_true, if_false, ↓gd_r, o_clamp, o_succ, i10, i01, eq_self, Option.bind_some, Int32.add_zero, c100, c101]
theorem m_cnt6 (R : BQ (mI B 285) N) : L_X9_count_46 FU 6 0 0 B = some (fdN (fun h a => if mI B 285 (12 * h + 9) < 0 then a else a + mI B 285 (12 * h + 10)) 0 N) := by
  have hN := R.1
  have en := R.2.1
  refine up_val (L := fun n x a => L_X9_count_46 n 6 a x B) N _ (some) (by omega) ?_ ?_ 0
  · intro n s
    simp (disch := omega) only [L_X9_count_46, c107, c108, c109, c110, en, le_f, le_t, if_true, if_false, ↓gd_r, o_clamp, o_succ, i10, i01, eq_self, Option.bind_some, Int32.add_zero, c100, c101]
  · intro n i s hi
    have hi' : i < 30 := by omega
    by_cases hm : mI B 285 (12 * i + 9) < 0
    · simp (disch := omega) only [L_X9_count_46, c107, c108, c109, c110, en, hs hi', g0 hi', g1 hi', g2 hi', g3 hi', g9 hi', g10 hi', g11 hi', m_share hi', hm, le_f, le_t, if_true, if_false, ↓gd_r, o_clamp, o_succ, i10, i01, eq_self, Option.bind_some, Int32.add_zero, c100, c101]
    · simp (disch := omega) only [L_X9_count_46, c107, c108, c109, c110, en, hs hi', g0 hi', g1 hi', g2 hi', g3 hi', g9 hi', g10 hi', g11 hi', m_share hi', m_must hi', m_untruth hi', hm, le_f, le_t, if_true, if_false, ↓gd_r, o_clamp, o_succ, i10, i01, eq_self, Option.bind_some, Int32.add_zero, c100, c101]
theorem m_there (R : BQ (mI B 285) N) : f_X9_there B = some (fdN (fun h a => if mI B 285 (12 * h + 9) < 0 then a else a + 1) 0 N) := by
  have hN := R.1
  have en := R.2.1
  refine up_val (L := fun n x a => L_X9_there_4 n a x B) N _ (some) (by omega) ?_ ?_ 0
  · intro n s
    simp (disch := omega) only [L_X9_there_4, en, le_f, le_t, if_true, if_false, ↓gd_r, o_clamp, o_succ, i10, i01, eq_self, Option.bind_some, Int32.add_zero, c100, c101]
  · intro n i s hi
    have hi' : i < 30 := by omega
    by_cases hm : mI B 285 (12 * i + 9) < 0
    · simp (disch := omega) only [L_X9_there_4, en, hs hi', g0 hi', g1 hi', g2 hi', g3 hi', g9 hi', g10 hi', g11 hi', m_share hi', hm, le_f, le_t, if_true, if_false, ↓gd_r, o_clamp, o_succ, i10, i01, eq_self, Option.bind_some, Int32.add_zero, c100, c101]
    · simp (disch := omega) only [L_X9_there_4, en, hs hi', g0 hi', g1 hi', g2 hi', g3 hi', g9 hi', g10 hi', g11 hi', m_share hi', m_must hi', m_untruth hi', hm, le_f, le_t, if_true, if_false, ↓gd_r, o_clamp, o_succ, i10, i01, eq_self, Option.bind_some, Int32.add_zero, c100, c101]
theorem m_mba (R : BQ (mI B 285) N) : f_X9_untrueAll 1 B = some (fdN (fun h a => if mI B 285 (12 * h + 9) < 0 then a else a + mb (mI B 285) (12 * h)) 0 N) := by
  have hN := R.1
  have en := R.2.1
  refine up_val (L := fun n x a => L_X9_untrueAll_4 n 1 a x B) N _ (some) (by omega) ?_ ?_ 0
  · intro n s
    simp (disch := omega) only [L_X9_untrueAll_4, en, le_f, le_t, if_true, if_false, ↓gd_r, o_clamp, o_succ, i10, i01, eq_self, Option.bind_some, Int32.add_zero, c100, c101]
  · intro n i s hi
    have hi' : i < 30 := by omega
    by_cases hm : mI B 285 (12 * i + 9) < 0
    · simp (disch := omega) only [L_X9_untrueAll_4, en, hs hi', g0 hi', g1 hi', g2 hi', g3 hi', g9 hi', g10 hi', g11 hi', m_share hi', hm, le_f, le_t, if_true, if_false, ↓gd_r, o_clamp, o_succ, i10, i01, eq_self, Option.bind_some, Int32.add_zero, c100, c101]
    · simp (disch := omega) only [L_X9_untrueAll_4, en, hs hi', g0 hi', g1 hi', g2 hi', g3 hi', g9 hi', g10 hi', g11 hi', m_share hi', m_must hi', m_untruth hi', hm, le_f, le_t, if_true, if_false, ↓gd_r, o_clamp, o_succ, i10, i01, eq_self, Option.bind_some, Int32.add_zero, c100, c101]
theorem m_uta (R : BQ (mI B 285) N) : f_X9_untrueAll 0 B = some (fdN (fun h a => if mI B 285 (12 * h + 9) < 0 then a else a + ut (mI B 285) (12 * h)) 0 N) := by
  have hN := R.1
  have en := R.2.1
  refine up_val (L := fun n x a => L_X9_untrueAll_4 n 0 a x B) N _ (some) (by omega) ?_ ?_ 0
  · intro n s
    simp (disch := omega) only [L_X9_untrueAll_4, en, le_f, le_t, if_true, if_false, ↓gd_r, o_clamp, o_succ, i10, i01, eq_self, Option.bind_some, Int32.add_zero, c100, c101]
  · intro n i s hi
    have hi' : i < 30 := by omega
    by_cases hm : mI B 285 (12 * i + 9) < 0
    · simp (disch := omega) only [L_X9_untrueAll_4, en, hs hi', g0 hi', g1 hi', g2 hi', g3 hi', g9 hi', g10 hi', g11 hi', m_share hi', hm, le_f, le_t, if_true, if_false, ↓gd_r, o_clamp, o_succ, i10, i01, eq_self, Option.bind_some, Int32.add_zero, c100, c101]
    · simp (disch := omega) only [L_X9_untrueAll_4, en, hs hi', g0 hi', g1 hi', g2 hi', g3 hi', g9 hi', g10 hi', g11 hi', m_share hi', m_must hi', m_untruth hi', hm, le_f, le_t, if_true, if_false, ↓gd_r, o_clamp, o_succ, i10, i01, eq_self, Option.bind_some, Int32.add_zero, c100, c101]
theorem m_high (R : BQ (mI B 285) N) : L_X9_measureNow_46 FU 0 0 B = some (fdN (fun h a => if mI B 285 (12 * h + 9) < 0 then a else if sh (mI B 285) (12 * h) < 95 then a else a + 1) 0 N, B) := by
  have hN := R.1
  have en := R.2.1
  refine up_val (L := fun n x a => L_X9_measureNow_46 n a x B) N _ (fun a => some (a, B)) (by omega) ?_ ?_ 0
  · intro n s
    simp (disch := omega) only [L_X9_measureNow_46, en, le_f, le_t, if_true, if_false, ↓gd_r, o_clamp, o_succ, i10, i01, eq_self, Option.bind_some, Int32.add_zero, c100, c101]
  · intro n i s hi
    have hi' : i < 30 := by omega
    by_cases hm : mI B 285 (12 * i + 9) < 0
    · simp (disch := omega) only [L_X9_measureNow_46, en, hs hi', g0 hi', g1 hi', g2 hi', g3 hi', g9 hi', g10 hi', g11 hi', m_share hi', hm, le_f, le_t, if_true, if_false, ↓gd_r, o_clamp, o_succ, i10, i01, eq_self, Option.bind_some, Int32.add_zero, c100, c101]
      all_goals (repeat (first | rfl | split))
      all_goals first | rfl | (exfalso; simp_all; done) | simp_all
    · simp (disch := omega) only [L_X9_measureNow_46, en, hs hi', g0 hi', g1 hi', g2 hi', g3 hi', g9 hi', g10 hi', g11 hi', m_share hi', m_must hi', m_untruth hi', hm, le_f, le_t, if_true, if_false, ↓gd_r, o_clamp, o_succ, i10, i01, eq_self, Option.bind_some, Int32.add_zero, c100, c101]
      all_goals (repeat (first | rfl | split))
      all_goals first | rfl | (exfalso; simp_all; done) | simp_all
theorem m_rnd (R : BQ (mI B 285) N) (p : Int32) (hp : p < 0 ↔ p = -1) : B_X9_round_25 p B = some (fdN (fun h a => if mI B 285 (12 * h + 9) < 0 then a else if isr (mI B 285 (12 * h + 9)) (mI B 285 (12 * h + 10)) = 0 then a else if p = -1 then a + 1 else if sh (mI B 285) (12 * h) = p then a + 1 else a) 0 N) := by
  have hN := R.1
  have en := R.2.1
  refine up_val (L := fun n x a => L_X9_round_29 n p a x B) N _ (some) (by omega) ?_ ?_ 0
  · intro n s
    simp (disch := omega) only [L_X9_round_29, isr_m, hp, en, le_f, le_t, if_true, if_false, ↓gd_r, o_clamp, o_succ, i10, i01, eq_self, Option.bind_some, Int32.add_zero, c100, c101]
  · intro n i s hi
    have hi' : i < 30 := by omega
    by_cases hm : mI B 285 (12 * i + 9) < 0
    · simp (disch := omega) only [L_X9_round_29, isr_m, hp, en, hs hi', g0 hi', g1 hi', g2 hi', g3 hi', g9 hi', g10 hi', g11 hi', m_share hi', hm, le_f, le_t, if_true, if_false, ↓gd_r, o_clamp, o_succ, i10, i01, eq_self, Option.bind_some, Int32.add_zero, c100, c101]
      all_goals (repeat (first | rfl | split))
      all_goals first | rfl | (exfalso; simp_all; done) | simp_all
    · simp (disch := omega) only [L_X9_round_29, isr_m, hp, en, hs hi', g0 hi', g1 hi', g2 hi', g3 hi', g9 hi', g10 hi', g11 hi', m_share hi', m_must hi', m_untruth hi', hm, le_f, le_t, if_true, if_false, ↓gd_r, o_clamp, o_succ, i10, i01, eq_self, Option.bind_some, Int32.add_zero, c100, c101]
      all_goals (repeat (first | rfl | split))
      all_goals first | rfl | (exfalso; simp_all; done) | simp_all
theorem m_wr (R : BQ (mI B 285) N) (d : Int32) {x : Nat} (hx : x < 2) : f_X9_written d (Int32.ofNat x) B = some (fdN (fun h a => if mI B 285 (12 * h + 9) < 0 then a else if mI B 285 (12 * h + 3) = d then a + mI B 285 (12 * h + (9 + x)) else a) 0 N) := by
  have hN := R.1
  have en := R.2.1
  refine up_val (L := fun n y a => L_X9_written_5 n d (Int32.ofNat x) a y B) N _ (some) (by omega) ?_ ?_ 0
  · intro n s
    simp (disch := omega) only [L_X9_written_5, en, le_f, le_t, if_true, if_false, ↓gd_r, o_clamp, o_succ, i10, i01, eq_self, Option.bind_some, Int32.add_zero, c100, c101]
  · intro n i s hi
    have hi' : i < 30 := by omega
    by_cases hm : mI B 285 (12 * i + 9) < 0
    · simp (disch := omega) only [L_X9_written_5, g9x (h := i) (by omega) hx, Nat.add_assoc, en, hs hi', g0 hi', g1 hi', g2 hi', g3 hi', g9 hi', g10 hi', g11 hi', m_share hi', hm, le_f, le_t, if_true, if_false, ↓gd_r, o_clamp, o_succ, i10, i01, eq_self, Option.bind_some, Int32.add_zero, c100, c101]
      all_goals (repeat (first | rfl | split))
      all_goals first | rfl | (exfalso; simp_all; done) | simp_all
    · simp (disch := omega) only [L_X9_written_5, g9x (h := i) (by omega) hx, Nat.add_assoc, en, hs hi', g0 hi', g1 hi', g2 hi', g3 hi', g9 hi', g10 hi', g11 hi', m_share hi', m_must hi', m_untruth hi', hm, le_f, le_t, if_true, if_false, ↓gd_r, o_clamp, o_succ, i10, i01, eq_self, Option.bind_some, Int32.add_zero, c100, c101]
      all_goals (repeat (first | rfl | split))
      all_goals first | rfl | (exfalso; simp_all; done) | simp_all
end
