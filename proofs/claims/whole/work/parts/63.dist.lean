/-! SUMS OF DISTRICTS; small queries -/
theorem in_w (x a b : Int32) (a' b' : Int64) (ha : a.toInt64 = a') (hb : b.toInt64 = b') : f_X9_isIn x.toInt64 a' b' = f_X8_within x a b := by
  subst ha; subst hb; exact isIn_w x a b
theorem wi_n {x a b : Int32} (h : ¬ f_X8_within x a b = 0) : a.toInt ≤ x.toInt ∧ x.toInt ≤ b.toInt := by
  rw [within_t] at h
  by_cases q : a.toInt ≤ x.toInt ∧ x.toInt ≤ b.toInt
  · exact q
  · rw [if_neg q] at h; exact absurd rfl h
theorem wi_o {x b : Int32} {n : Nat} (h : ¬ f_X8_within x 0 b = 0) (hb : b.toInt < n) : ∃ i, i < n ∧ x = Int32.ofNat i := by
  obtain ⟨h0, h1⟩ := wi_n h
  rw [ti_zero] at h0
  exact of_in h0 (by omega)
def su (S : Nat → Int32) (N d x : Nat) : Int32 := if S (370 + 3 * d) = 0 then wr S N (9 + x) (Int32.ofNat d) else S (370 + 3 * d + 1 + x)
theorem k370 (d : Nat) : (370 : Int32) + (3 : Int32) * Int32.ofNat d = Int32.ofNat (370 + 3 * d) := by
  rw [show (3 : Int32) = Int32.ofNat 3 from rfl, o_mul, show (370 : Int32) = Int32.ofNat 370 from rfl, o_add]
theorem b01 {x : Int32} (h : bt x 0 1) : x = 0 ∨ x = 1 := by
  unfold bt at h
  have z1 : (1 : Int32).toInt = 1 := rfl
  by_cases q : x.toInt = 0
  · exact Or.inl (Int32.toInt_inj.mp (by rw [q, ti_zero]))
  · exact Or.inr (Int32.toInt_inj.mp (by omega))
theorem of_cases4 {x : Int32} (h : bt x 0 3) : x = 0 ∨ x = 1 ∨ x = 2 ∨ x = 3 := by
  unfold bt at h
  have z1 : (1 : Int32).toInt = 1 := rfl
  have z2 : (2 : Int32).toInt = 2 := rfl
  have z3 : (3 : Int32).toInt = 3 := rfl
  have : x.toInt = 0 ∨ x.toInt = 1 ∨ x.toInt = 2 ∨ x.toInt = 3 := by omega
  rcases this with q | q | q | q
  · exact Or.inl (Int32.toInt_inj.mp (by rw [q, ti_zero]))
  · exact Or.inr (Or.inl (Int32.toInt_inj.mp (by rw [q, z1])))
  · exact Or.inr (Or.inr (Or.inl (Int32.toInt_inj.mp (by rw [q, z2]))))
  · exact Or.inr (Or.inr (Or.inr (Int32.toInt_inj.mp (by rw [q, z3]))))
theorem wr_succ (S : Nat → Int32) (n k : Nat) (d : Int32) : wr S (n + 1) k d = if S (12 * n + 9) < 0 then wr S n k d else if S (12 * n + 3) = d then wr S n k d + S (12 * n + k) else wr S n k d := rfl
theorem wra_succ (S : Nat → Int32) (n k : Nat) : wra S (n + 1) k = if S (12 * n + 9) < 0 then wra S n k else wra S n k + S (12 * n + k) := rfl
theorem wr_all (S : Nat → Int32) (k : Nat) : ∀ n, (∀ h, h < n → bt (S (12 * h + 3)) 0 3) → 0 + wr S n k 0 + wr S n k 1 + wr S n k 2 + wr S n k 3 = wra S n k
  | 0, _ => by rfl
  | n + 1, b => by
    have ih := wr_all S k n (fun h hh => b h (by omega))
    rw [wr_succ, wr_succ, wr_succ, wr_succ, wra_succ, ← ih]
    by_cases hm : S (12 * n + 9) < 0
    · simp only [hm, if_true]
    · simp only [hm, if_false]
      rcases of_cases4 (b n (by omega)) with q | q | q | q <;> rw [q]
      · rw [if_pos rfl, if_neg (by decide), if_neg (by decide), if_neg (by decide)]; grind
      · rw [if_neg (by decide), if_pos rfl, if_neg (by decide), if_neg (by decide)]; grind
      · rw [if_neg (by decide), if_neg (by decide), if_pos rfl, if_neg (by decide)]; grind
      · rw [if_neg (by decide), if_neg (by decide), if_neg (by decide), if_pos rfl]; grind
theorem miss_sum (S : Nat → Int32) : ∀ n, fdN (fun h a => if S (12 * h + 9) < 0 then a else a + 1) (0 : Int32) n + fdN (fun h a => if S (12 * h + 9) < 0 then a + 1 else a) (0 : Int32) n = Int32.ofNat n
  | 0 => rfl
  | n + 1 => by
    have ih := miss_sum S n
    show (if S (12 * n + 9) < 0 then _ else _) + (if S (12 * n + 9) < 0 then _ else _) = _
    rw [← o_succ, ← ih]
    by_cases hm : S (12 * n + 9) < 0
    · simp only [hm, if_true]; grind
    · simp only [hm, if_false]; grind
section
variable {A B M : Mem} {c N K d h x : Nat} {S : Nat → Int32}
theorem rc_b3 (R : BQ S N) : ∀ h, h < N → bt (S (12 * h + 3)) 0 3 := fun h hh => (bq_h R hh).2.2.2.1
theorem c_allC (R : RC A c S N K) : f_X0_allWrittenCame c A = some (wra S N 9) := by
  have e := up_val (L := fun n x a => L_X0_allWrittenCame_4 n c a x A) 4 (fun d a => a + wr S N 9 (Int32.ofNat d)) some (by omega)
    (fun n s => by simp (disch := omega) only [L_X0_allWrittenCame_4, show (4 : Int32) = Int32.ofNat 4 from rfl, le_t, if_true])
    (fun n i s hi => by simp (disch := omega) only [L_X0_allWrittenCame_4, show (4 : Int32) = Int32.ofNat 4 from rfl, le_f, if_false, c_wrC R.1 R.2.1, Option.bind_some, o_succ]; rfl) 0
  refine e.trans ?_
  rw [← wr_all S 9 N (rc_b3 R.1.1)]; rfl
theorem c_allO (R : RC A c S N K) : f_X0_allWrittenOurs c A = some (wra S N 10) := by
  have e := up_val (L := fun n x a => L_X0_allWrittenOurs_4 n c a x A) 4 (fun d a => a + wr S N 10 (Int32.ofNat d)) some (by omega)
    (fun n s => by simp (disch := omega) only [L_X0_allWrittenOurs_4, show (4 : Int32) = Int32.ofNat 4 from rfl, le_t, if_true])
    (fun n i s hi => by simp (disch := omega) only [L_X0_allWrittenOurs_4, show (4 : Int32) = Int32.ofNat 4 from rfl, le_f, if_false, c_wrO R.1 R.2.1, Option.bind_some, o_succ]; rfl) 0
  refine e.trans ?_
  rw [← wr_all S 10 N (rc_b3 R.1.1)]; rfl
theorem c_sentC (R : RC A c S N K) (hd : d < 4) : f_X0_sentCame c (Int32.ofNat d) A = some (su S N d 0) := by
  obtain ⟨u0, u1, u2, u3⟩ := R.2.2.1 d hd
  unfold f_X0_sentCame su
  rw [gd_r (by omega) hd, o_clamp (by omega), u0, c_wrC R.1 R.2.1, Option.bind_some, u2]
  by_cases q : S (370 + 3 * d) = 0
  · rw [if_pos q, if_pos q]; rfl
  · rw [if_neg q, if_neg q, show 370 + 3 * d + 1 + 0 = 371 + 3 * d by omega]
theorem c_sentO (R : RC A c S N K) (hd : d < 4) : f_X0_sentOurs c (Int32.ofNat d) A = some (su S N d 1) := by
  obtain ⟨u0, u1, u2, u3⟩ := R.2.2.1 d hd
  unfold f_X0_sentOurs su
  rw [gd_r (by omega) hd, o_clamp (by omega), u0, c_wrO R.1 R.2.1, Option.bind_some, u3]
  by_cases q : S (370 + 3 * d) = 0
  · rw [if_pos q, if_pos q]; rfl
  · rw [if_neg q, if_neg q, show 370 + 3 * d + 1 + 1 = 372 + 3 * d by omega]
theorem m_wr' (R : BQ (mI B 285) N) (d : Int32) (hx : x < 2) : f_X9_written d (Int32.ofNat x) B = some (wr (mI B 285) N (9 + x) d) := m_wr R d hx
theorem m_sent (R : BQ (mI B 285) N) (u : bt (mI B 285 (370 + 3 * d)) 0 1) (hd : d < 4) (hx : x < 2) : f_X9_sentUp (Int32.ofNat d) (Int32.ofNat x) B = some (su (mI B 285) N d x) := by
  unfold f_X9_sentUp su
  rw [k370, gd_r (by omega) (by omega), o_clamp (by omega), o_succ, o_add, m_wr' R _ hx, Option.bind_some]
  rcases b01 u with q | q
  · rw [q, if_neg (by decide), if_pos rfl]
  · rw [q, if_pos rfl, if_neg (by decide), gd_r (by omega) (by omega), o_clamp (by omega)]
theorem ru_b (R : RC A c S N K) (hd : d < 4) : bt (S (370 + 3 * d)) 0 1 := (R.2.2.1 d hd).2.1
theorem c_sentM (R : RC A c S N K) : f_X0_sentMargin c A = some (fdN (fun d a => a + (2 * su S N d 1 - su S N d 0)) 0 4) := by
  refine up_val (L := fun n x a => L_X0_sentMargin_4 n c a x A) 4 _ some (by omega) ?_ ?_ 0
  · intro n s
    simp (disch := omega) only [L_X0_sentMargin_4, show (4 : Int32) = Int32.ofNat 4 from rfl, le_t, if_true]
  · intro n i s hi
    simp (disch := omega) only [L_X0_sentMargin_4, show (4 : Int32) = Int32.ofNat 4 from rfl, le_f, if_false, c_sentC R, c_sentO R, Option.bind_some, o_succ]
theorem m_won (R : RC A c (mI B 285) N K) : f_X9_won B = (f_X0_sentMargin c A).bind fun q => if q ≤ 0 then some (0 : Int32) else some (1 : Int32) := by
  rw [c_sentM R, Option.bind_some]
  refine up_val (L := fun n x a => L_X9_won_4 n a x B) 4 (fun d a => a + (2 * su (mI B 285) N d 1 - su (mI B 285) N d 0)) (fun q => if q ≤ 0 then some (0 : Int32) else some (1 : Int32)) (by omega) ?_ ?_ 0
  · intro n s
    simp (disch := omega) only [L_X9_won_4, B_X9_won_33, show (4 : Int32) = Int32.ofNat 4 from rfl, le_t, if_true]
  · intro n i s hi
    have s1 := m_sent (x := 1) R.1.1 (ru_b R hi) hi (by omega)
    have s0 := m_sent (x := 0) R.1.1 (ru_b R hi) hi (by omega)
    simp only [L_X9_won_4]
    rw [show (1 : Int32) = Int32.ofNat 1 from rfl, show (0 : Int32) = Int32.ofNat 0 from rfl, s1, s0]
    simp (disch := omega) only [show (4 : Int32) = Int32.ofNat 4 from rfl, le_f, if_false, Option.bind_some]
    rw [show Int32.ofNat i + Int32.ofNat 1 = Int32.ofNat (i + 1) from o_add]
theorem m_helped (R : RC A c (mI B 285) N K) : f_X9_helped B = some (fdN (fun d a => a + (2 * (su (mI B 285) N d 1 - wr (mI B 285) N 10 (Int32.ofNat d)) - (su (mI B 285) N d 0 - wr (mI B 285) N 9 (Int32.ofNat d)))) 0 4) := by
  refine up_val (L := fun n x a => L_X9_helped_4 n a x B) 4 _ some (by omega) ?_ ?_ 0
  · intro n s
    simp (disch := omega) only [L_X9_helped_4, show (4 : Int32) = Int32.ofNat 4 from rfl, le_t, if_true]
  · intro n i s hi
    have s1 := m_sent (x := 1) R.1.1 (ru_b R hi) hi (by omega)
    have s0 := m_sent (x := 0) R.1.1 (ru_b R hi) hi (by omega)
    have w1 := m_wr' (x := 1) R.1.1 (Int32.ofNat i) (by omega)
    have w0 := m_wr' (x := 0) R.1.1 (Int32.ofNat i) (by omega)
    simp only [L_X9_helped_4]
    rw [show (1 : Int32) = Int32.ofNat 1 from rfl, show (0 : Int32) = Int32.ofNat 0 from rfl, s1, s0, w1, w0]
    simp (disch := omega) only [show (4 : Int32) = Int32.ofNat 4 from rfl, le_f, if_false, Option.bind_some]
    rw [show Int32.ofNat i + Int32.ofNat 1 = Int32.ofNat (i + 1) from o_add]
theorem op_won (R : RC M 1 (mI M 285) N K) : ∃ r, f_X8_won M = some r ∧ f_X9_won M = some r := by
  have e := m_won R
  unfold f_X8_won
  rw [c_sentM R, Option.bind_some] at e ⊢
  rw [e]
  by_cases q : fdN (fun d a => a + (2 * su (mI M 285) N d 1 - su (mI M 285) N d 0)) 0 4 ≤ 0
  · rw [if_pos q]; exact ⟨_, rfl, rfl⟩
  · rw [if_neg q]; exact ⟨_, rfl, rfl⟩
theorem op_helped (R : RC M 1 (mI M 285) N K) : ∃ r, f_X8_helped M = some r ∧ f_X9_helped M = some r := by
  refine ⟨_, ?_, m_helped R⟩
  unfold f_X8_helped f_X0_writtenMargin
  rw [c_sentM R, c_allC R, c_allO R, Option.bind_some, Option.bind_some, Option.bind_some, Option.bind_some, ← wr_all _ 9 N (rc_b3 R.1.1), ← wr_all _ 10 N (rc_b3 R.1.1)]
  congr 1
  show (0 + (2 * su (mI M 285) N 0 1 - su (mI M 285) N 0 0) + (2 * su (mI M 285) N 1 1 - su (mI M 285) N 1 0) + (2 * su (mI M 285) N 2 1 - su (mI M 285) N 2 0) + (2 * su (mI M 285) N 3 1 - su (mI M 285) N 3 0)) - _ = (0 + (2 * (su (mI M 285) N 0 1 - wr (mI M 285) N 10 0) - (su (mI M 285) N 0 0 - wr (mI M 285) N 9 0)) + (2 * (su (mI M 285) N 1 1 - wr (mI M 285) N 10 1) - (su (mI M 285) N 1 0 - wr (mI M 285) N 9 1)) + (2 * (su (mI M 285) N 2 1 - wr (mI M 285) N 10 2) - (su (mI M 285) N 2 0 - wr (mI M 285) N 9 2)) + (2 * (su (mI M 285) N 3 1 - wr (mI M 285) N 10 3) - (su (mI M 285) N 3 0 - wr (mI M 285) N 9 3)))
  generalize su (mI M 285) N 0 1 = s01
  generalize su (mI M 285) N 0 0 = s00
  generalize su (mI M 285) N 1 1 = s11
  generalize su (mI M 285) N 1 0 = s10
  generalize su (mI M 285) N 2 1 = s21
  generalize su (mI M 285) N 2 0 = s20
  generalize su (mI M 285) N 3 1 = s31
  generalize su (mI M 285) N 3 0 = s30
  generalize wr (mI M 285) N 9 0 = w90
  generalize wr (mI M 285) N 9 1 = w91
  generalize wr (mI M 285) N 9 2 = w92
  generalize wr (mI M 285) N 9 3 = w93
  generalize wr (mI M 285) N 10 0 = w00
  generalize wr (mI M 285) N 10 1 = w01
  generalize wr (mI M 285) N 10 2 = w02
  generalize wr (mI M 285) N 10 3 = w03
  grind
theorem op_sum (R : RC M 1 (mI M 285) N K) (x1 x2 : Int32) : ∃ r, f_X8_sum x1 x2 M = some r ∧ f_X9_sum x1 x2 M = some r := by
  unfold f_X8_sum f_X9_sum f_X8_isDistrict
  rw [in_w x1 0 3 0 3 rfl rfl, in_w x2 0 5 0 5 rfl rfl]
  by_cases q1 : f_X8_within x1 0 3 = 0
  · rw [if_pos q1, if_pos q1]; exact ⟨_, rfl, rfl⟩
  obtain ⟨d, hd, rfl⟩ := wi_o (n := 4) q1 (by decide)
  rw [if_neg q1, if_neg q1]
  have sc := c_sentC R hd
  have so := c_sentO R hd
  have wc := c_wrC R.1 R.2.1 (Int32.ofNat d)
  have wo := c_wrO R.1 R.2.1 (Int32.ofNat d)
  have s1 := m_sent (x := 1) R.1.1 (ru_b R hd) hd (by omega)
  have s0 := m_sent (x := 0) R.1.1 (ru_b R hd) hd (by omega)
  have w1 := m_wr' (x := 1) R.1.1 (Int32.ofNat d) (by omega)
  have w0 := m_wr' (x := 0) R.1.1 (Int32.ofNat d) (by omega)
  by_cases q2 : f_X8_within x2 0 5 = 0
  · rw [if_pos q2]
    have n : ∀ y : Int32, f_X8_within y 0 5 ≠ 0 → x2 ≠ y := fun y hy e => hy (e ▸ q2)
    rw [if_neg (n 0 (by decide)), if_neg (n 1 (by decide)), if_neg (n 2 (by decide)), if_neg (n 3 (by decide)), if_neg (n 4 (by decide)), if_neg (n 5 (by decide))]
    exact ⟨_, rfl, rfl⟩
  obtain ⟨i, hi, rfl⟩ := wi_o (n := 6) q2 (by decide)
  rw [if_neg q2]
  have : i = 0 ∨ i = 1 ∨ i = 2 ∨ i = 3 ∨ i = 4 ∨ i = 5 := by omega
  rcases this with rfl | rfl | rfl | rfl | rfl | rfl
  · rw [if_pos (by decide), if_neg (by decide), wc, show f_X9_written (Int32.ofNat d) (Int32.ofNat 0) M = _ from w0]; exact ⟨_, rfl, rfl⟩
  · rw [if_neg (by decide), if_pos (by decide), if_neg (by decide), wo, show f_X9_written (Int32.ofNat d) (Int32.ofNat 1) M = _ from w1]; exact ⟨_, rfl, rfl⟩
  · rw [if_neg (by decide), if_neg (by decide), if_pos (by decide), if_pos (by decide), if_neg (by decide), sc, show Int32.ofNat 2 - 2 = Int32.ofNat 0 from rfl, s0]; exact ⟨_, rfl, rfl⟩
  · rw [if_neg (by decide), if_neg (by decide), if_neg (by decide), if_pos (by decide), if_pos (by decide), if_neg (by decide), so, show Int32.ofNat 3 - 2 = Int32.ofNat 1 from rfl, s1]; exact ⟨_, rfl, rfl⟩
  · rw [if_neg (by decide), if_neg (by decide), if_neg (by decide), if_neg (by decide), if_pos (by decide), if_pos (by decide), if_pos (by decide), sc, show Int32.ofNat 4 - 4 = Int32.ofNat 0 from rfl, s0, wc, w0]; exact ⟨_, rfl, rfl⟩
  · rw [if_neg (by decide), if_neg (by decide), if_neg (by decide), if_neg (by decide), if_neg (by decide), if_pos (by decide), if_pos (by decide), if_pos (by decide), so, show Int32.ofNat 5 - 4 = Int32.ofNat 1 from rfl, s1, wo, w1]; exact ⟨_, rfl, rfl⟩
theorem op_count (R : RC M 1 (mI M 285) N K) (x1 : Int32) : ∃ r, f_X8_count x1 M = some r ∧ f_X9_count x1 M = some r := by
  unfold f_X8_count f_X9_count B_X9_count_23
  rw [in_w x1 0 6 0 6 rfl rfl]
  have hN : N ≤ 30 := R.1.1.1
  by_cases q2 : f_X8_within x1 0 6 = 0
  · rw [if_pos q2]
    have n : ∀ y : Int32, f_X8_within y 0 6 ≠ 0 → x1 ≠ y := fun y hy e => hy (e ▸ q2)
    rw [if_neg (n 0 (by decide)), if_neg (n 1 (by decide)), if_neg (n 2 (by decide)), if_neg (n 3 (by decide)), if_neg (n 4 (by decide)), if_neg (n 5 (by decide)), if_neg (n 6 (by decide))]
    exact ⟨_, rfl, rfl⟩
  obtain ⟨i, hi, rfl⟩ := wi_o (n := 7) q2 (by decide)
  rw [if_neg q2]
  have : i = 0 ∨ i = 1 ∨ i = 2 ∨ i = 3 ∨ i = 4 ∨ i = 5 ∨ i = 6 := by omega
  rcases this with rfl | rfl | rfl | rfl | rfl | rfl | rfl
  · rw [if_pos (by decide), if_pos (by decide), if_pos (by decide)]; exact ⟨_, rfl, by rw [R.1.1.2.1, ← R.1.2.1]⟩
  · rw [if_neg (by decide), if_pos (by decide), if_neg (by decide), if_neg (by decide), c_there R.1, show Int32.ofNat 1 = 1 from rfl, m_miss R.1.1, R.1.2.1]
    refine ⟨_, rfl, ?_⟩
    rw [← miss_sum (mI M 285) N]
    congr 1
    generalize fdN (fun h a => if mI M 285 (12 * h + 9) < 0 then a else a + 1) (0 : Int32) N = a
    generalize fdN (fun h a => if mI M 285 (12 * h + 9) < 0 then a + 1 else a) (0 : Int32) N = b
    grind
  · rw [if_neg (by decide), if_neg (by decide), if_pos (by decide), if_neg (by decide), if_pos (by decide), if_neg (by decide)]; exact ⟨_, rfl, by rw [R.2.2.2.2.2.1, ← R.2.2.2.2.1]⟩
  · rw [if_neg (by decide), if_neg (by decide), if_neg (by decide), if_pos (by decide), if_neg (by decide), if_neg (by decide), c_lists R.1, show Int32.ofNat 3 = 3 from rfl, m_lists R.1.1]; exact ⟨_, rfl, rfl⟩
  · rw [if_neg (by decide), if_neg (by decide), if_neg (by decide), if_neg (by decide), if_pos (by decide), if_neg (by decide), if_neg (by decide), c_wtd R.1 R.2.1, show Int32.ofNat 4 = 4 from rfl, m_wtd R.1.1]; exact ⟨_, rfl, rfl⟩
  · rw [if_neg (by decide), if_neg (by decide), if_neg (by decide), if_neg (by decide), if_neg (by decide), if_pos (by decide), if_neg (by decide), if_neg (by decide), c_allC R, show Int32.ofNat 5 = 5 from rfl, m_cnt5 R.1.1]; exact ⟨_, rfl, rfl⟩
  · rw [if_neg (by decide), if_neg (by decide), if_neg (by decide), if_neg (by decide), if_neg (by decide), if_neg (by decide), if_pos (by decide), if_neg (by decide), if_neg (by decide), c_allO R, show Int32.ofNat 6 = 6 from rfl, m_cnt6 R.1.1]; exact ⟨_, rfl, rfl⟩
theorem rc_n (R : RC M 1 (mI M 285) N K) : mI M 285 1192 = Int32.ofNat N := R.1.1.2.1
/-- a hall's number that is one, or not one, on both sides -/
theorem isH (R : RC M 1 (mI M 285) N K) (x : Int32) : (f_X0_isHall 1 x M = 0 ∧ f_X9_isHall x M = 0) ∨ ∃ h, h < N ∧ x = Int32.ofNat h ∧ f_X0_isHall 1 x M = 1 ∧ f_X9_isHall x M = 1 := by
  have hN := R.1.1.1
  rw [isHall_c hN R.1.2.1, isHall_m hN (rc_n R)]
  by_cases q : 0 ≤ x.toInt ∧ x.toInt < N
  · obtain ⟨h, hh, e⟩ := of_in q.1 q.2
    rw [if_pos q]
    exact Or.inr ⟨h, hh, e, rfl, rfl⟩
  · rw [if_neg q]; exact Or.inl ⟨rfl, rfl⟩
theorem isH_y (R : RC M 1 (mI M 285) N K) (hh : h < N) : f_X0_isHall 1 (Int32.ofNat h) M = 1 ∧ f_X9_isHall (Int32.ofNat h) M = 1 := by
  have hN := R.1.1.1
  rw [isHall_c hN R.1.2.1, isHall_m hN (rc_n R), if_pos (by rw [o_toInt (by omega)]; omega)]
  exact ⟨rfl, rfl⟩
theorem hall1 (R : RC M 1 S N K) (hh : h < N) : RQ M (2 + 23 + 2 * h) S (12 * h) ∧ RR M (2 + 23 + 2 * h) S (12 * h) ∧ BH S (12 * h) := ⟨R.1.2.2.1 h hh, R.2.1 h hh, R.1.1.2.2.1 h hh⟩
theorem op_round (R : RC M 1 (mI M 285) N K) (p : Int32) : ∃ r, f_X8_round p M = some r ∧ f_X9_round p M = some r := by
  unfold f_X8_round f_X9_round B_X8_round_23
  rw [in_w p 0 100 0 100 rfl rfl, c_rnd R.1, Option.bind_some]
  by_cases q1 : p = -1
  · rw [if_pos q1, if_pos q1, m_rnd R.1.1 p (by subst q1; decide)]; exact ⟨_, rfl, rfl⟩
  rw [if_neg q1, if_neg q1]
  by_cases q2 : f_X8_within p 0 100 = 0
  · rw [if_pos q2, if_pos q2]; exact ⟨_, rfl, rfl⟩
  rw [if_neg q2, if_neg q2]
  by_cases q3 : jrem p 5 = 0
  · rw [if_pos q3, if_pos q3, m_rnd R.1.1 p ⟨fun h => by
      have := (wi_n q2).1
      rw [ti_zero] at this
      rw [Int32.lt_iff_toInt_lt, ti_zero] at h
      omega, fun h => absurd h q1⟩]
    exact ⟨_, rfl, rfl⟩
  · rw [if_neg q3, if_neg q3]; exact ⟨_, rfl, rfl⟩
theorem op_untrue (R : RC M 1 (mI M 285) N K) (x1 x2 : Int32) : ∃ r, f_X8_untrue x1 x2 M = some r ∧ f_X9_untrue x1 x2 M = some r := by
  unfold f_X8_untrue f_X9_untrue B_X8_untrue_16 B_X9_untrue_25
  rw [in_w x2 0 1 0 1 rfl rfl]
  have hN : N ≤ 30 := R.1.1.1
  by_cases q2 : f_X8_within x2 0 1 = 0
  · rw [if_pos q2, if_pos q2]
    by_cases q1 : x1 = -1
    · rw [if_pos q1]; exact ⟨_, rfl, rfl⟩
    · rw [if_neg q1]
      split <;> exact ⟨_, rfl, rfl⟩
  obtain ⟨i, hi, rfl⟩ := wi_o (n := 2) q2 (by decide)
  rw [if_neg q2, if_neg q2]
  by_cases q1 : x1 = -1
  · have q0 : ¬ (0 : Int32) ≤ x1 := by rw [q1]; decide
    rw [if_pos q1, if_pos q1, if_pos q1, if_neg q0]
    have : i = 0 ∨ i = 1 := by omega
    rcases this with rfl | rfl
    · rw [if_pos (show Int32.ofNat 0 = 0 from rfl), c_uta R.1 R.2.1, show Int32.ofNat 0 = 0 from rfl, m_uta R.1.1]; exact ⟨_, rfl, rfl⟩
    · rw [if_neg (show ¬ Int32.ofNat 1 = 0 by decide), c_mba R.1, show Int32.ofNat 1 = 1 from rfl, m_mba R.1.1]; exact ⟨_, rfl, rfl⟩
  rw [if_neg q1, if_neg q1, if_neg q1]
  rcases isH R x1 with ⟨a, b⟩ | ⟨h, hh, rfl, a, b⟩
  · rw [a, b, if_pos rfl, if_pos rfl]; exact ⟨_, rfl, rfl⟩
  · rw [a, b, if_neg n10, if_neg n10, gd_r (by omega) (by omega), o_clamp (by omega), if_pos (show (0 : Int32) ≤ Int32.ofNat h from (o_le (i := 0) (by omega) (by omega)).mpr (by omega)), hs (by omega), Option.bind_some]
    obtain ⟨⟨e1, e2, e3, e9, ew⟩, ⟨e4, e5, e6, e7, f0, f1, e8⟩, bh⟩ := hall1 R hh
    by_cases hm : mI M 285 (12 * h + 9) < 0
    · rw [e9, if_pos hm, if_neg n10, if_pos hm, if_pos rfl]; exact ⟨_, rfl, rfl⟩
    · obtain ⟨e10, e11⟩ := ew hm
      rw [e9, if_neg hm, if_pos rfl, if_neg hm, if_neg n10]
      have : i = 0 ∨ i = 1 := by omega
      rcases this with rfl | rfl
      · rw [if_pos (show Int32.ofNat 0 = 0 from rfl), c_untruth e6 e7 e10 e11, show Int32.ofNat 0 = 0 from rfl, m_untruth (by omega)]; exact ⟨_, rfl, rfl⟩
      · rw [if_neg (show ¬ Int32.ofNat 1 = 0 by decide), c_must bh hm e1 e10, show Int32.ofNat 1 = 1 from rfl, m_must (by omega)]; exact ⟨_, rfl, rfl⟩
end
