/-! WHAT A SHEET TELLS; of, trulyAll, may -/
def tc (S : Nat → Int32) (q : Nat) : Int32 := if S (q + 7) = 2 then f_X9_less (S q) (((S (q + 5) + 5) / 10) * 10) else if S (q + 7) = 3 then S (q + 5) else if S (q + 7) = 4 then S (q + 5) + S (q + 8) else if S (q + 7) = 5 then S (q + 5) else if S (q + 7) = 6 then S q else S (q + 5)
def mdo (a n l : Int32) : Int32 := if a < ((f_X9_less a ((a * n) / 100)) / 10) * 10 + l then f_X9_less a ((a * n) / 100) else ((f_X9_less a ((a * n) / 100)) / 10) * 10 + l
def cpo (a o : Int32) : Int32 := if a < (((o / 100) * 100) + ((jrem o 10) * 10)) + jrem (o / 10) 10 then o else (((o / 100) * 100) + ((jrem o 10) * 10)) + jrem (o / 10) 10
def to_ (S : Nat → Int32) (q : Nat) : Int32 := if S (q + 7) = 2 then f_X9_less (tc S q) (((S (q + 6) + 5) / 10) * 10) else if S (q + 7) = 3 then mdo (S (q + 5)) (S (q + 8)) (S 360) else if S (q + 7) = 4 then S (q + 6) + S (q + 8) else if S (q + 7) = 5 then f_X9_less (S (q + 5)) (S (q + 6) + S (q + 8)) else if S (q + 7) = 6 then S q else if S (q + 7) = 7 then cpo (S (q + 5)) (S (q + 6)) else S (q + 6)
theorem ite_le {α : Type} {a b : Int32} {x y : α} : (if a ≤ b then x else y) = (if b < a then y else x) := by
  by_cases h : a ≤ b
  · rw [if_pos h, if_neg (by rw [Int32.le_iff_toInt_le] at h; rw [Int32.lt_iff_toInt_lt]; omega)]
  · rw [if_neg h, if_pos (by rw [Int32.le_iff_toInt_le] at h; rw [Int32.lt_iff_toInt_lt]; omega)]
def fl (f : Nat → Bool) : Nat → Bool := fdN (fun h a => a || f h) false
theorem fl_up (f : Nat → Bool) : ∀ k i, fl f i = true → fl f (i + k) = true
  | 0, _, h => h
  | k + 1, i, h => by
    show (fl f (i + k) || f (i + k)) = true
    rw [fl_up f k i h]; rfl
section
variable {A B M : Mem} {c N K d h x : Nat} {S : Nat → Int32}
theorem c_tc {p q : Nat} (e1 : mI A p 1 = S q) (e6 : mI A p 6 = S (q + 5)) (f0 : mI A (p + 1) 0 = S (q + 7)) (f1 : mI A (p + 1) 1 = S (q + 8)) : f_X1_toldCame p A = tc S q := by
  unfold f_X1_toldCame f_X5_tellsCame tc f_X5_toTen
  rw [e1, e6, f0, f1, jmin_s]
theorem c_to {p q : Nat} (e1 : mI A p 1 = S q) (e6 : mI A p 6 = S (q + 5)) (e7 : mI A p 7 = S (q + 6)) (f0 : mI A (p + 1) 0 = S (q + 7)) (f1 : mI A (p + 1) 1 = S (q + 8)) : f_X1_toldOurs p (S 360) A = to_ S q := by
  have t := c_tc e1 e6 f0 f1
  unfold f_X1_toldCame at t
  unfold f_X1_toldOurs f_X5_tellsOurs to_ f_X5_toTen f_X5_madeOurs f_X5_copiedOurs mdo cpo
  rw [e1] at t ⊢
  rw [e6] at t ⊢
  rw [t, e7, f0, f1, jmin_s, jmin_s, jmin_s]
  simp only [ite_le]
theorem m_tc (hh : h < 30) : f_X9_tellsCame (Int32.ofNat h) B = some (tc (mI B 285) (12 * h)) := by
  unfold f_X9_tellsCame tc
  simp only [g5 hh, g7 hh, g0 hh, g8 hh, Option.bind_some]
  repeat (first | rfl | split)
theorem m_to (hh : h < 30) : f_X9_tellsOurs (Int32.ofNat h) B = some (to_ (mI B 285) (12 * h)) := by
  unfold f_X9_tellsOurs to_ mdo cpo
  simp only [m_tc hh, g5 hh, g6 hh, g7 hh, g0 hh, g8 hh, Option.bind_some]
  repeat (first | rfl | split)
theorem m_has (hh : h < 30) : f_X9_has (Int32.ofNat h) B = some (if mI B 285 (12 * h + 9) < 0 then 0 else 1) := hs hh
theorem op_of (R : RC M 1 (mI M 285) N K) (x1 x2 : Int32) : ∃ r, f_X8_of x1 x2 M = some r ∧ f_X9_of x1 x2 M = some r := by
  unfold f_X8_of f_X9_of
  have hN : N ≤ 30 := R.1.1.1
  rcases isH R x1 with ⟨a, b⟩ | ⟨h, hh, rfl, a, b⟩
  · rw [a, b, if_pos rfl, if_pos rfl]; exact ⟨_, rfl, rfl⟩
  obtain ⟨⟨e1, e2, e3, e9, ew⟩, ⟨e4, e5, e6, e7, f0, f1, e8⟩, bh⟩ := hall1 R hh
  have h30 : h < 30 := by omega
  have l0 : mI M 3 0 = mI M 285 360 := R.1.2.2.2 0 (by omega)
  rw [a, b, if_neg n10, if_neg n10, gd_r (by omega) (by omega), o_clamp (by omega), l0, c_tc e1 e6 f0 f1, c_to e1 e6 e7 f0 f1, g0 h30, g5 h30, g6 h30, m_tc h30, m_to h30, m_has h30, g9 h30, g10 h30, m_share h30, g7 h30, e1, e6, e7, f0, e9]
  simp only [Option.bind_some]
  by_cases hm : mI M 285 (12 * h + 9) < 0
  · simp only [if_pos hm, if_neg n10, if_true]
    repeat (first | exact ⟨_, rfl, rfl⟩ | split)
  · obtain ⟨e10, e11⟩ := ew hm
    rw [c_share e10 e11]
    simp only [if_neg hm, if_neg n10, if_true, e10, e11, Option.bind_some]
    repeat (first | exact ⟨_, rfl, rfl⟩ | split)
def hkc (S : Nat → Int32) (h o : Nat) : Bool := decide (o ≠ h ∧ ¬ S (12 * o + 9) < 0 ∧ S (12 * o + 2) = S (12 * h + 2) ∧ ¬ sh S (12 * o) < 95)
theorem c_hk (R : CQ A c S N) (hh : h < N) : f_X0_hasHighKin c (Int32.ofNat h) A = some (b2 (fl (hkc S h) N)) := by
  have hN := cq_N R
  have en := cq_n R
  obtain ⟨-, -, x3, -, -⟩ := cq_h R hh
  refine up_run (L := fun n x (_ : Unit) => L_X0_hasHighKin_2 n c (Int32.ofNat h) x A) N (fun i _ => fl (hkc S h) i = false) (fun o => o = some (b2 (fl (hkc S h) N))) (by omega) ?_ ?_ () rfl
  · intro n s hp
    simp (disch := omega) only [L_X0_hasHighKin_2, en, le_t, if_true]
    rw [hp]; rfl
  · intro n i s hi hp
    obtain ⟨e1, e2, e3, e9, ew⟩ := cq_h R hi
    have stay : hkc S h i = false → fl (hkc S h) (i + 1) = false := fun q => by
      show (fl (hkc S h) i || hkc S h i) = false
      rw [hp, q]; rfl
    have oe : (Int32.ofNat i = Int32.ofNat h) = (i = h) := propext (o_inj (by omega) (by omega))
    simp (disch := omega) only [L_X0_hasHighKin_2, B_X0_hasHighKin_56, en, le_f, if_false, ↓gd_r, o_clamp, o_succ, e9, e3, x3, oe]
    by_cases q1 : i = h
    · left; rw [if_pos q1]; exact ⟨(), stay (by simp [hkc, q1]), rfl⟩
    rw [if_neg q1]
    by_cases hm : S (12 * i + 9) < 0
    · left; rw [if_pos hm, if_neg n10]; exact ⟨(), stay (by simp [hkc, hm]), rfl⟩
    obtain ⟨e10, e11⟩ := ew hm
    rw [if_neg hm, if_pos rfl, c_share e10 e11]
    by_cases q2 : S (12 * i + 2) = S (12 * h + 2)
    · rw [if_pos q2, Option.bind_some]
      by_cases q3 : sh S (12 * i) < 95
      · left; rw [if_pos q3]; exact ⟨(), stay (by simp [hkc, q3]), rfl⟩
      · right; rw [if_neg q3]
        have t1 : fl (hkc S h) (i + 1) = true := by
          show (fl (hkc S h) i || hkc S h i) = true
          rw [show hkc S h i = true from decide_eq_true ⟨q1, hm, q2, q3⟩]; cases fl (hkc S h) i <;> rfl
        have := fl_up (hkc S h) (N - (i + 1)) (i + 1) t1
        rw [show i + 1 + (N - (i + 1)) = N by omega] at this
        rw [this]; rfl
    · left; rw [if_neg q2]; exact ⟨(), stay (by simp [hkc, q2]), rfl⟩
theorem m_ta (R : BQ (mI B 285) N) (hh : h < N) : L_X9_trulyAll_49 FU (Int32.ofNat h) 0 0 B = B_X9_trulyAll_115 (Int32.ofNat h) (b2 (fl (hkc (mI B 285) h) N)) B := by
  have hN := R.1
  have en := R.2.1
  have x2 := g2 (B := B) (h := h) (by omega)
  refine (up_run (L := fun n x s => L_X9_trulyAll_49 n (Int32.ofNat h) s x B) N (fun i s => s = b2 (fl (hkc (mI B 285) h) i)) (fun o => o = B_X9_trulyAll_115 (Int32.ofNat h) (b2 (fl (hkc (mI B 285) h) N)) B) (by omega) ?_ ?_ 0 rfl)
  · intro n s hp
    simp (disch := omega) only [L_X9_trulyAll_49, en, le_t, if_true]
    rw [hp]
  · intro n i s hi hp
    have hi' : i < 30 := by omega
    left
    have oe : (Int32.ofNat i = Int32.ofNat h) = (i = h) := propext (o_inj (by omega) (by omega))
    subst hp
    refine ⟨b2 (fl (hkc (mI B 285) h) (i + 1)), rfl, ?_⟩
    have se : fl (hkc (mI B 285) h) (i + 1) = (fl (hkc (mI B 285) h) i || hkc (mI B 285) h i) := rfl
    rw [se]
    simp (disch := omega) only [L_X9_trulyAll_49, B_X9_trulyAll_107, B_X9_trulyAll_103, en, le_f, if_false, o_succ, oe, b2_0]
    cases fl (hkc (mI B 285) h) i
    · rw [if_pos rfl]
      by_cases q1 : i = h
      · rw [if_pos q1, show hkc (mI B 285) h i = false by simp [hkc, q1]]; rfl
      rw [if_neg q1, hs hi', Option.bind_some]
      by_cases hm : mI B 285 (12 * i + 9) < 0
      · rw [if_pos hm, if_pos rfl, show hkc (mI B 285) h i = false by simp [hkc, hm]]; rfl
      rw [if_neg hm, if_neg n10, g2 hi', x2, Option.bind_some, Option.bind_some, m_share hi', Option.bind_some]
      by_cases q2 : mI B 285 (12 * i + 2) = mI B 285 (12 * h + 2)
      · rw [if_pos q2]
        by_cases q3 : sh (mI B 285) (12 * i) < 95
        · rw [if_pos q3, show hkc (mI B 285) h i = false by simp [hkc, q3]]; rfl
        · rw [if_neg q3, show hkc (mI B 285) h i = true from decide_eq_true ⟨q1, hm, q2, q3⟩]; rfl
      · rw [if_neg q2, show hkc (mI B 285) h i = false by simp [hkc, q2]]; rfl
    · rw [if_neg (by decide)]; rfl
theorem op_trulyAll (R : RC M 1 (mI M 285) N K) (x1 : Int32) : ∃ r, f_X8_trulyAll x1 M = some r ∧ f_X9_trulyAll x1 M = some r := by
  unfold f_X8_trulyAll f_X9_trulyAll
  have hN : N ≤ 30 := R.1.1.1
  rcases isH R x1 with ⟨a, b⟩ | ⟨h, hh, rfl, a, b⟩
  · rw [a, b, if_pos rfl, if_pos rfl]; exact ⟨_, rfl, rfl⟩
  obtain ⟨⟨e1, e2, e3, e9, ew⟩, ⟨e4, e5, e6, e7, f0, f1, e8⟩, bh⟩ := hall1 R hh
  have h30 : h < 30 := by omega
  rw [a, b, if_neg n10, if_neg n10, gd_r (by omega) (by omega), o_clamp (by omega), g0 h30, g9 h30, g10 h30, e1, e9, e5, c_hk R.1 hh, m_ta R.1.1 hh]
  simp only [Option.bind_some]
  unfold B_X9_trulyAll_115
  rw [g4 h30]
  simp only [Option.bind_some, b2_0]
  by_cases hm : mI M 285 (12 * h + 9) < 0
  · have n1 : ¬ mI M 285 (12 * h + 9) = mI M 285 (12 * h) := fun e => by
      have b0 := bh.1
      unfold bt at b0
      rw [Int32.lt_iff_toInt_lt, ti_zero, e] at hm
      omega
    rw [if_pos hm, if_neg n10, if_neg n1]; exact ⟨_, rfl, rfl⟩
  · obtain ⟨e10, e11⟩ := ew hm
    rw [if_neg hm, if_pos rfl, e10, e11]
    by_cases q1 : mI M 285 (12 * h + 9) = mI M 285 (12 * h)
    · rw [if_pos q1, if_pos q1]
      by_cases q2 : mI M 285 (12 * h + 10) = mI M 285 (12 * h)
      · rw [if_pos q2, if_pos q2]
        by_cases q3 : mI M 285 (12 * h + 4) < 95
        · rw [if_pos q3, if_pos q3]
          split <;> exact ⟨_, rfl, rfl⟩
        · rw [if_neg q3, if_neg q3]
          split <;> exact ⟨_, rfl, rfl⟩
      · rw [if_neg q2, if_neg q2]; exact ⟨_, rfl, rfl⟩
    · rw [if_neg q1, if_neg q1]; exact ⟨_, rfl, rfl⟩
theorem lc_all : ∀ i : Fin 101, f_X8_leastCame (Int32.ofNat i.val) = L_X9_may_77 FU (Int32.ofNat i.val) 1 ∧ (f_X8_leastCame (Int32.ofNat i.val)).isSome = true := by decide +kernel
theorem c_rc (hn : x < 1000) : f_X8_roundChoices (Int32.ofNat x) = some (fdN (fun o a => if isr (Int32.ofNat x) (Int32.ofNat o) = 0 then a else a + 1) 0 (x + 1)) := by
  refine up_val (L := fun n y a => L_X8_roundChoices_4 n (Int32.ofNat x) a y) (x + 1) _ some (by omega) ?_ ?_ 0
  · intro n s
    simp only [L_X8_roundChoices_4]
    rw [if_pos ((o_lt (by omega) (by omega)).mpr (by omega))]
  · intro n i s hi
    simp only [L_X8_roundChoices_4, B_X8_roundChoices_20, isr_c, Option.bind_some, o_succ]
    rw [if_neg (by rw [o_lt (by omega) (by omega)]; omega)]
    split <;> rfl
theorem m_rc (hn : x < 1000) : L_X9_may_46 FU (Int32.ofNat x) 0 0 = some (fdN (fun o a => if isr (Int32.ofNat x) (Int32.ofNat o) = 0 then a else a + 1) 0 (x + 1)) := by
  refine up_val (L := fun n y a => L_X9_may_46 n (Int32.ofNat x) a y) (x + 1) _ some (by omega) ?_ ?_ 0
  · intro n s
    simp only [L_X9_may_46]
    rw [if_pos ((o_lt (by omega) (by omega)).mpr (by omega))]
  · intro n i s hi
    simp only [L_X9_may_46, isr_m, Option.bind_some, o_succ, Int32.add_zero]
    rw [if_neg (by rw [o_lt (by omega) (by omega)]; omega)]
    split <;> rfl
theorem op_may (x1 x2 : Int32) : ∃ r, f_X8_may x1 x2 = some r ∧ f_X9_may x1 x2 = some r := by
  unfold f_X8_may f_X9_may B_X8_may_20
  rw [in_w x2 0 1 0 1 rfl rfl]
  by_cases q2 : f_X8_within x2 0 1 = 0
  · have n : ∀ y : Int32, f_X8_within y 0 1 ≠ 0 → x2 ≠ y := fun y hy e => hy (e ▸ q2)
    rw [if_pos q2, if_neg (n 0 (by decide)), if_neg (n 1 (by decide))]; exact ⟨_, rfl, rfl⟩
  obtain ⟨i, hi, rfl⟩ := wi_o (n := 2) q2 (by decide)
  rw [if_neg q2]
  have : i = 0 ∨ i = 1 := by omega
  rcases this with rfl | rfl
  · rw [in_w x1 1 999 ((1 : Int32) - Int32.ofNat 0).toInt64 999 rfl rfl, if_pos (show Int32.ofNat 0 = 0 from rfl), if_pos (show Int32.ofNat 0 = 0 from rfl)]
    by_cases q1 : f_X8_within x1 1 999 = 0
    · rw [if_pos q1, if_pos q1, if_neg (by decide)]; exact ⟨_, rfl, rfl⟩
    · have w := wi_n q1
      have z1 : (1 : Int32).toInt = 1 := rfl
      have z9 : (999 : Int32).toInt = 999 := rfl
      obtain ⟨x, hx, rfl⟩ := of_in (x := x1) (n := 1000) (by omega) (by omega)
      rw [if_neg q1, if_neg q1, if_pos (show Int32.ofNat 0 = 0 from rfl), c_rc hx, show Int32.ofNat 0 = (0 : Int32) from rfl, m_rc hx]
      exact ⟨_, rfl, rfl⟩
  · rw [in_w x1 0 100 ((1 : Int32) - Int32.ofNat 1).toInt64 100 rfl rfl, if_neg (show ¬ Int32.ofNat 1 = 0 by decide), if_pos (show Int32.ofNat 1 = 1 from rfl), if_neg (show ¬ Int32.ofNat 1 = 0 by decide)]
    by_cases q1 : f_X8_within x1 0 100 = 0
    · rw [if_pos q1, if_pos q1]; exact ⟨_, rfl, rfl⟩
    · obtain ⟨x, hx, rfl⟩ := wi_o (n := 101) q1 (by decide)
      obtain ⟨l1, l2⟩ := lc_all ⟨x, hx⟩
      obtain ⟨r, hr⟩ := Option.isSome_iff_exists.mp l2
      dsimp only at l1 hr
      rw [if_neg q1, if_neg q1, if_neg (show ¬ Int32.ofNat 1 = 0 by decide), show Int32.ofNat 1 = (1 : Int32) from rfl, ← l1, hr]
      exact ⟨r, rfl, rfl⟩
end
