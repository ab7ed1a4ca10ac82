/-! SHELVES; HEAR -/
theorem ln_sh : ∀ d : Fin 8, ln (253 + 7 + 3 * d.val + 2) = 80 := by decide
theorem k80 (d k : Nat) : (80 : Int32) * Int32.ofNat d + Int32.ofNat k = Int32.ofNat (80 * d + k) := by
  rw [show (80 : Int32) = Int32.ofNat 80 from rfl, o_mul, o_add]
theorem i8_b (x : Int32) : bt x.toInt8.toInt32 (-128) 127 := by
  unfold bt
  rw [Int8.toInt_toInt32]
  have h1 := Int8.le_toInt x.toInt8
  have h2 := Int8.toInt_lt x.toInt8
  omega
section
variable {A A' B M M' : Mem} {c N K h k d e : Nat} {S S' : Nat → Int32}
theorem inv_sh (I : Inv M) (hd : d < 8) (w : ∀ y, ¬ (260 + 3 * d ≤ y ∧ y ≤ 262 + 3 * d) → ¬ (287 ≤ y ∧ y ≤ 292) → mI M' y = mI M y) (we : ∀ e, e < 8 → e ≠ d → mI M' 287 e = mI M 287 e ∧ mI M' 288 e = mI M 288 e ∧ mI M' 289 e = mI M 289 e ∧ mI M' 291 e = mI M 291 e ∧ mI M' 292 e = mI M 292 e ∧ ∀ k, k < 80 → mI M' 290 (80 * e + k) = mI M 290 (80 * e + k)) (s : SHl M' d) : Inv M' := by
  obtain ⟨⟨N, K, R, W⟩, ⟨i1, i2⟩, sh⟩ := I
  have m5 := w 285 (by omega) (by omega)
  have m4 := w 284 (by omega) (by omega)
  have m6 := w 286 (by omega) (by omega)
  have m0 := w 0 (by omega) (by omega)
  refine ⟨⟨N, K, ?_, ?_⟩, ⟨?_, ?_⟩, fun e he => ?_⟩
  · rw [m5]; exact rc_cong R (fun y hy => w y (by omega) (by omega))
  · rw [m5]; exact W
  · rw [m0, m4]; exact i1
  · rw [m4, m6]
    rcases i2 with i2 | ⟨i2, n, k, i3, i4⟩
    · exact Or.inl i2
    · exact Or.inr ⟨i2, n, k, rc_cong i3 (fun y hy => w y (by omega) (by omega)), i4⟩
  · by_cases q : e = d
    · subst q; exact s
    · obtain ⟨w7, w8, w9, w1, w2, w0⟩ := we e he q
      have a0 := w (253 + 7 + 3 * e) (by omega) (by omega)
      have a1 := w (253 + 7 + 3 * e + 1) (by omega) (by omega)
      have a2 := w (253 + 7 + 3 * e + 2) (by omega) (by omega)
      have se := sh e he
      unfold SHl at se ⊢
      unfold f_X5_heaviness f_X6_caughtFailure at se ⊢
      rw [a0, a1, a2, w7, w8, w9, w1, w2]
      obtain ⟨s1, s2⟩ := se
      refine ⟨s1, ?_⟩
      rcases s2 with s2 | s2 | ⟨s2, so, sz, t1, t2, t3, t4, t5, t6, t7⟩
      · exact Or.inl s2
      · exact Or.inr (Or.inl s2)
      · refine Or.inr (Or.inr ⟨s2, so, sz, t1, t2, t3, t4, t5, t6, fun k hk => ?_⟩)
        rw [w0 k hk]; exact t7 k hk
theorem isS (x : Int32) : (f_X8_isShelf x = 0 ∧ f_X9_isShelf x = 0) ∨ ∃ d, d < 8 ∧ x = Int32.ofNat d ∧ f_X8_isShelf x = 1 ∧ f_X9_isShelf x = 1 := by
  unfold f_X8_isShelf f_X9_isShelf
  rw [in_w x 0 7 0 7 rfl rfl]
  by_cases q : f_X8_within x 0 7 = 0
  · exact Or.inl ⟨q, q⟩
  · obtain ⟨d, hd, e⟩ := wi_o (n := 8) q (by decide)
    have : f_X8_within x 0 7 = 1 := by
      rw [within_t] at q ⊢
      by_cases q' : (0 : Int32).toInt ≤ x.toInt ∧ x.toInt ≤ (7 : Int32).toInt
      · rw [if_pos q']
      · rw [if_neg q'] at q; exact absurd rfl q
    exact Or.inr ⟨d, hd, e, this, this⟩
theorem op_weight (I : Inv M) (x1 : Int32) : ∃ r, f_X8_weight x1 M = some r ∧ f_X9_weight x1 M = some r := by
  unfold f_X8_weight f_X9_weight f_X8_sheetRefusal f_X9_wrongKept
  rcases isS x1 with ⟨a, b⟩ | ⟨d, hd, rfl, a, b⟩
  · rw [a, b, if_pos rfl, if_pos rfl]; exact ⟨_, rfl, rfl⟩
  · obtain ⟨s1, s2⟩ := I.2.2 d hd
    rw [a, b, if_neg n10, if_neg n10, gd_r (by omega) hd, gd_r (by omega) hd, gd_r (by omega) hd, gd_r (by omega) hd, o_clamp (by omega), s1]
    rcases s2 with s2 | ⟨s2, s3, s4⟩ | ⟨s2, -⟩
    · rw [s2, if_pos rfl]; exact ⟨_, rfl, rfl⟩
    · rw [s2, if_neg n10, if_pos rfl, Option.bind_some, Option.bind_some, if_pos rfl, if_pos rfl, s3]; exact ⟨_, rfl, rfl⟩
    · rw [s2, if_neg (show ¬ (2 : Int32) = 0 by decide), if_neg (show ¬ (2 : Int32) = 1 by decide)]; exact ⟨_, rfl, rfl⟩
theorem op_toss (I : Inv M) (x1 : Int32) : ∃ r, f_X8_toss x1 M = some r ∧ f_X9_toss x1 M = some r := by
  unfold f_X8_toss f_X9_toss f_X8_sheetRefusal f_X9_wrongKept
  rcases isS x1 with ⟨a, b⟩ | ⟨d, hd, rfl, a, b⟩
  · rw [a, b, if_pos rfl, if_pos rfl]; exact ⟨_, rfl, rfl⟩
  · obtain ⟨s1, s2⟩ := I.2.2 d hd
    rw [a, b, if_neg n10, if_neg n10, gd_r (by omega) hd, gd_r (by omega) hd, gd_r (by omega) hd, gd_r (by omega) hd, o_clamp (by omega), s1]
    rcases s2 with s2 | ⟨s2, s3, s4⟩ | ⟨s2, -⟩
    · rw [s2, if_pos rfl]; exact ⟨_, rfl, rfl⟩
    · rw [s2, if_neg n10, if_pos rfl, Option.bind_some, Option.bind_some, if_pos rfl, if_pos rfl, s4]; exact ⟨_, rfl, rfl⟩
    · rw [s2, if_neg (show ¬ (2 : Int32) = 0 by decide), if_neg (show ¬ (2 : Int32) = 1 by decide)]; exact ⟨_, rfl, rfl⟩
/-- two rows wanted -/
def rwR (M : Mem) (d e : Nat) : Int32 := if mI M 287 d = 0 then -11 else if mI M 287 e = 0 then -11 else if mI M 287 d = 2 then (if mI M 287 e = 2 then (if mI M 288 d = mI M 288 e then 0 else -12) else -12) else -12
def Row (M : Mem) (d so sz : Nat) : Prop := so ≤ 2 ∧ sz ≤ 80 ∧ mI M (253 + 7 + 3 * d) 4 = Int32.ofNat so ∧ mI M 288 d = Int32.ofNat so ∧ mI M (253 + 7 + 3 * d) 5 = Int32.ofNat sz ∧ mI M 289 d = Int32.ofNat sz ∧ ∀ k, k < 80 → mI M (253 + 7 + 3 * d + 2) k = mI M 290 (80 * d + k) ∧ (so = 0 → bt (mI M 290 (80 * d + k)) (-128) 127)
theorem row_of (s : SHl M d) (h : mI M 287 d = 2) : ∃ so sz, Row M d so sz := by
  obtain ⟨s1, s2⟩ := s
  rcases s2 with s2 | ⟨s2, -⟩ | ⟨s2, so, sz, t⟩
  · rw [h] at s2; exact absurd s2 (by decide)
  · rw [h] at s2; exact absurd s2 (by decide)
  · exact ⟨so, sz, t⟩
theorem c_rows (I : Inv M) (hd : d < 8) (he : e < 8) : f_X8_rowsRefusal (Int32.ofNat d) (Int32.ofNat e) M = some (rwR M d e) := by
  have a : ∀ d, d < 8 → f_X8_isShelf (Int32.ofNat d) = 1 := fun d hd => by
    unfold f_X8_isShelf
    rw [within_t, o_toInt (by omega), ti_zero, show (7 : Int32).toInt = 7 from rfl, if_pos (by omega)]
  have sd := I.2.2 d hd
  have se := I.2.2 e he
  unfold f_X8_rowsRefusal rwR
  rw [a d hd, a e he, if_neg n10, if_neg n10, gd_r (by omega) hd, gd_r (by omega) he, o_clamp (by omega), o_clamp (by omega), sd.1, se.1]
  by_cases q1 : mI M 287 d = 0
  · rw [if_pos q1, if_pos q1]
  by_cases q2 : mI M 287 e = 0
  · rw [if_neg q1, if_pos q2, if_neg q1, if_pos q2]
  rw [if_neg q1, if_neg q2, if_neg q1, if_neg q2]
  by_cases q3 : mI M 287 d = 2
  · by_cases q4 : mI M 287 e = 2
    · obtain ⟨so, sz, t1, t2, t3, t4, t5, t6, t7⟩ := row_of sd q3
      obtain ⟨so', sz', r1, r2, r3, r4, r5, r6, r7⟩ := row_of se q4
      rw [if_pos q3, if_pos q4, if_pos q3, if_pos q4, t3, r3, t4, r4]
      split <;> rfl
    · rw [if_pos q3, if_neg q4, if_pos q3, if_neg q4]
  · rw [if_neg q3, if_neg q3]
theorem rw_0 (I : Inv M) (hd : d < 8) (he : e < 8) (h : rwR M d e = 0) : ∃ so sz sz', Row M d so sz ∧ Row M e so sz' := by
  unfold rwR at h
  by_cases q1 : mI M 287 d = 0
  · rw [if_pos q1] at h; exact absurd h (by decide)
  by_cases q2 : mI M 287 e = 0
  · rw [if_neg q1, if_pos q2] at h; exact absurd h (by decide)
  rw [if_neg q1, if_neg q2] at h
  by_cases q3 : mI M 287 d = 2
  · by_cases q4 : mI M 287 e = 2
    · by_cases q5 : mI M 288 d = mI M 288 e
      · obtain ⟨so, sz, t1, t2, t3, t4, t5, t6, t7⟩ := row_of (I.2.2 d hd) q3
        obtain ⟨so', sz', r1, r2, r3, r4, r5, r6, r7⟩ := row_of (I.2.2 e he) q4
        rw [t4, r4, o_inj (by omega) (by omega)] at q5
        subst q5
        exact ⟨so, sz, sz', ⟨t1, t2, t3, t4, t5, t6, t7⟩, ⟨r1, r2, r3, r4, r5, r6, r7⟩⟩
      · rw [if_pos q3, if_pos q4, if_neg q5] at h; exact absurd h (by decide)
    · rw [if_pos q3, if_neg q4] at h; exact absurd h (by decide)
  · rw [if_neg q3] at h; exact absurd h (by decide)
/-- the reference's own asking for two rows -/
theorem m_rows {α : Type} (hd : d < 8) (he : e < 8) (f : Int32 → Option (Int32 × α)) (X : Option (Int32 × α)) (h12 : f (-12) = f (-12)) : (if mI M 287 d = 0 then f (-11) else if mI M 287 e = 0 then f (-11) else if mI M 287 d = 2 then (if mI M 287 e = 2 then (if mI M 288 d = mI M 288 e then X else f (-12)) else f (-12)) else f (-12)) = if rwR M d e = 0 then X else f (rwR M d e) := by
  unfold rwR
  by_cases q1 : mI M 287 d = 0
  · rw [if_pos q1, if_pos q1, if_neg (by decide)]
  by_cases q2 : mI M 287 e = 0
  · rw [if_neg q1, if_pos q2, if_neg q1, if_pos q2, if_neg (by decide)]
  rw [if_neg q1, if_neg q2, if_neg q1, if_neg q2]
  by_cases q3 : mI M 287 d = 2
  · by_cases q4 : mI M 287 e = 2
    · rw [if_pos q3, if_pos q4, if_pos q3, if_pos q4]
      by_cases q5 : mI M 288 d = mI M 288 e
      · rw [if_pos q5, if_pos q5, if_pos rfl]
      · rw [if_neg q5, if_neg q5, if_neg (by decide)]
    · rw [if_pos q3, if_neg q4, if_pos q3, if_neg q4, if_neg (by decide)]
  · rw [if_neg q3, if_neg q3, if_neg (by decide)]
theorem op_row (I : Inv M) (x1 x2 x3 : Int32) : ∃ r M1 M2, f_X8_row x1 x2 x3 M = some (r, M1) ∧ f_X9_row x1 x2 x3 M1 = some (r, M2) ∧ Inv M2 := by
  unfold f_X8_row
  rcases isS x1 with ⟨a, b⟩ | ⟨d, hd, rfl, a, b⟩
  · rw [a, if_pos rfl]
    exact ⟨_, M, M, rfl, by unfold f_X9_row; rw [b, if_pos rfl], I⟩
  rw [a, if_neg n10]
  by_cases q2 : f_X8_within x2 0 2 = 0
  · rw [if_pos q2]
    exact ⟨_, M, M, rfl, by unfold f_X9_row; rw [in_w x2 0 2 0 2 rfl rfl, b, if_neg n10, if_pos q2], I⟩
  rw [if_neg q2]
  by_cases q3 : ¬ x3 ≤ 80
  · rw [if_neg q3]
    exact ⟨_, M, M, rfl, by unfold f_X9_row; rw [in_w x2 0 2 0 2 rfl rfl, b, if_neg n10, if_neg q2, if_neg q3], I⟩
  have q3 := Decidable.not_not.mp q3
  rw [if_pos q3]
  by_cases q4 : ¬ (0 : Int32) ≤ x3
  · rw [if_neg q4]
    exact ⟨_, M, M, rfl, by unfold f_X9_row; rw [in_w x2 0 2 0 2 rfl rfl, b, if_neg n10, if_neg q2, if_pos q3, if_neg q4], I⟩
  have q4 := Decidable.not_not.mp q4
  obtain ⟨so, hso, rfl⟩ := wi_o (n := 3) q2 (by decide)
  have q3' := q3
  have q4' := q4
  rw [Int32.le_iff_toInt_le, show (80 : Int32).toInt = 80 from rfl] at q3'
  rw [Int32.le_iff_toInt_le, ti_zero] at q4'
  obtain ⟨sz, hsz, rfl⟩ := of_in (x := x3) (n := 81) q4' (by omega)
  unfold f_X6_holdRow
  rw [if_pos q4, gd_r (by omega) hd, o_clamp (by omega), bind_id]
  obtain ⟨z, e1, hz⟩ := c_fillN (k := 253 + 7 + 3 * d + 2) (L := 80) (ln_sh ⟨d, hd⟩) (by omega) (sI (sI (sI M (253 + 7 + 3 * d) 0 2) (253 + 7 + 3 * d) 4 (Int32.ofNat so)) (253 + 7 + 3 * d) 5 (Int32.ofNat sz))
  rw [e1, Option.bind_some]
  generalize hM1 : sR (sI (sI (sI M (253 + 7 + 3 * d) 0 2) (253 + 7 + 3 * d) 4 (Int32.ofNat so)) (253 + 7 + 3 * d) 5 (Int32.ofNat sz)) (253 + 7 + 3 * d + 2) z = M1
  have w1 : ∀ y, y ≠ 253 + 7 + 3 * d → y ≠ 253 + 7 + 3 * d + 2 → mI M1 y = mI M y := fun y y1 y2 => by
    rw [← hM1, mI_sR_ne _ _ y2, mI_sI_ne y1, mI_sI_ne y1, mI_sI_ne y1]
  have g0 : mI M1 (253 + 7 + 3 * d) 0 = 2 := by rw [← hM1, mI_sR_ne _ _ (by omega)]; simp (disch := omega) only [mI_sI_k, mI_sI_eq]
  have g4 : mI M1 (253 + 7 + 3 * d) 4 = Int32.ofNat so := by rw [← hM1, mI_sR_ne _ _ (by omega)]; simp (disch := omega) only [mI_sI_k, mI_sI_eq]
  have g5 : mI M1 (253 + 7 + 3 * d) 5 = Int32.ofNat sz := by rw [← hM1, mI_sR_ne _ _ (by omega)]; simp (disch := omega) only [mI_sI_k, mI_sI_eq]
  have ge : ∀ k, k < 80 → mI M1 (253 + 7 + 3 * d + 2) k = 0 := fun k hk => by rw [← hM1, mI_sR_eq]; exact hz k hk
  have loop : ∃ M2, L_X9_row_58 FU (Int32.ofNat d) (Int32.ofNat 0) (sI (sI (sI M1 287 d 2) 288 d (Int32.ofNat so)) 289 d (Int32.ofNat sz)) = some (0, M2) ∧ (∀ y, y ≠ 290 → mI M2 y = mI (sI (sI (sI M1 287 d 2) 288 d (Int32.ofNat so)) 289 d (Int32.ofNat sz)) y) ∧ ∀ j, mI M2 290 j = if 80 * d ≤ j ∧ j < 80 * d + 80 then 0 else mI M1 290 j := by
    refine up_run (L := fun n y (s : Mem) => L_X9_row_58 n (Int32.ofNat d) y s) 80 (fun i s => (∀ y, y ≠ 290 → mI s y = mI (sI (sI (sI M1 287 d 2) 288 d (Int32.ofNat so)) 289 d (Int32.ofNat sz)) y) ∧ ∀ j, mI s 290 j = if 80 * d ≤ j ∧ j < 80 * d + i then 0 else mI M1 290 j) (fun o => ∃ M2, o = some (0, M2) ∧ (∀ y, y ≠ 290 → mI M2 y = mI (sI (sI (sI M1 287 d 2) 288 d (Int32.ofNat so)) 289 d (Int32.ofNat sz)) y) ∧ ∀ j, mI M2 290 j = if 80 * d ≤ j ∧ j < 80 * d + 80 then 0 else mI M1 290 j) (by omega) ?_ ?_ _ ⟨fun _ _ => rfl, fun j => by rw [if_neg (by omega), mI_sI_ne (by decide), mI_sI_ne (by decide), mI_sI_ne (by decide)]⟩
    · rintro n s ⟨h1, h2⟩
      simp (disch := omega) only [L_X9_row_58, show (80 : Int32) = Int32.ofNat 80 from rfl, le_t, if_true]
      exact ⟨s, rfl, h1, h2⟩
    · rintro n i s hi ⟨h1, h2⟩
      left
      refine ⟨sI s 290 (80 * d + i) 0, ⟨fun y hy => by rw [mI_sI_ne hy]; exact h1 y hy, fun j => ?_⟩, ?_⟩
      · by_cases q : j = 80 * d + i
        · subst q; rw [mI_sI_eq, if_pos (by omega)]
        · rw [mI_sI_k q, h2 j]
          by_cases q' : 80 * d ≤ j ∧ j < 80 * d + i
          · rw [if_pos q', if_pos (by omega)]
          · rw [if_neg q', if_neg (by omega)]
      · simp only [L_X9_row_58]
        rw [if_neg (show ¬ (80 : Int32) ≤ Int32.ofNat i from fun q => by have := (o_le (i := 80) (by omega) (by omega)).mp q; omega), k80, gd_r (by omega) (by omega), o_clamp (by omega), o_succ]
  obtain ⟨M2, e2, f2, r2⟩ := loop
  refine ⟨_, M1, M2, rfl, ?_, ?_⟩
  · unfold f_X9_row
    rw [in_w (Int32.ofNat so) 0 2 0 2 rfl rfl, b, if_neg n10, if_neg q2, if_pos q3, if_pos q4, gd_r (by omega) hd, o_clamp (by omega)]
    exact e2
  · refine inv_sh I hd (fun y y1 y2 => ?_) (fun e he hne => ?_) ?_
    · rw [f2 y (by omega), mI_sI_ne (by omega), mI_sI_ne (by omega), mI_sI_ne (by omega)]
      exact w1 y (by omega) (by omega)
    · have v7 : mI M1 287 = mI M 287 := w1 _ (by omega) (by omega)
      have v8 : mI M1 288 = mI M 288 := w1 _ (by omega) (by omega)
      have v9 : mI M1 289 = mI M 289 := w1 _ (by omega) (by omega)
      have v1 : mI M1 291 = mI M 291 := w1 _ (by omega) (by omega)
      have v2 : mI M1 292 = mI M 292 := w1 _ (by omega) (by omega)
      have v0 : mI M1 290 = mI M 290 := w1 _ (by omega) (by omega)
      rw [f2 287 (by decide), f2 288 (by decide), f2 289 (by decide), f2 291 (by decide), f2 292 (by decide)]
      simp (disch := omega) only [mI_sI_ne, mI_sI_k, v7, v8, v9, v1, v2]
      refine ⟨trivial, trivial, trivial, trivial, trivial, fun k hk => ?_⟩
      rw [r2, if_neg (by omega), v0]
    · have ga := f2 (253 + 7 + 3 * d) (by omega)
      have gb := f2 (253 + 7 + 3 * d + 2) (by omega)
      unfold SHl
      rw [ga, gb, f2 287 (by decide), f2 288 (by decide), f2 289 (by decide)]
      simp (disch := omega) only [mI_sI_ne, mI_sI_k, mI_sI_eq]
      refine ⟨g0, Or.inr (Or.inr ⟨trivial, so, sz, by omega, by omega, g4, rfl, g5, rfl, fun k hk => ?_⟩)⟩
      rw [ge k hk, r2, if_pos (by omega)]
      exact ⟨rfl, fun _ => ⟨by decide, by decide⟩⟩
theorem wr_t (I : Inv M) (hd : d < 8) : f_X8_rowRefusal (Int32.ofNat d) M = some (if mI M 287 d = 0 then -11 else if mI M 287 d = 2 then 0 else -12) := by
  unfold f_X8_rowRefusal
  rw [c_rows I hd hd, Option.bind_some]
  unfold rwR
  by_cases q1 : mI M 287 d = 0
  · rw [if_pos q1, if_pos q1]
  · rw [if_neg q1, if_neg q1, if_neg q1]
    by_cases q3 : mI M 287 d = 2
    · rw [if_pos q3, if_pos q3, if_pos rfl, if_pos q3]
    · rw [if_neg q3, if_neg q3]
theorem c_bad {x1 : Int32} (a : f_X8_isShelf x1 = 0) (x2 : Int32) : f_X8_rowsRefusal x1 x2 M = some (-1) := by
  unfold f_X8_rowsRefusal
  rw [a, if_pos rfl]
theorem c_bad2 {x1 x2 : Int32} (a : f_X8_isShelf x1 = 1) (b : f_X8_isShelf x2 = 0) : f_X8_rowsRefusal x1 x2 M = some (-1) := by
  unfold f_X8_rowsRefusal
  rw [a, b, if_neg n10, if_pos rfl]
theorem place_t {x : Int32} {sz : Nat} (hsz : sz ≤ 80) (h : mI M (253 + 7 + 3 * d) 5 = Int32.ofNat sz) (h' : mI M 289 d = Int32.ofNat sz) : f_X6_hasPlace (253 + 7 + 3 * d) x M = (if 0 ≤ x.toInt ∧ x.toInt < sz then 1 else 0) ∧ f_X9_isIn x.toInt64 (0 : Int64) ((mI M 289 d) - (1 : Int32)).toInt64 = (if 0 ≤ x.toInt ∧ x.toInt < sz then 1 else 0) := by
  unfold f_X6_hasPlace
  rw [in_w x 0 _ 0 _ rfl rfl, within_t, within_t, h, h', ti_zero]
  have z1 : (1 : Int32).toInt = 1 := rfl
  rw [ti_sub (by rw [o_toInt (by omega), z1]; omega) (by rw [o_toInt (by omega), z1]; omega), o_toInt (by omega), z1]
  have : (0 ≤ x.toInt ∧ x.toInt ≤ (sz : Int) - 1) = (0 ≤ x.toInt ∧ x.toInt < (sz : Int)) := propext (by omega)
  simp only [this]
  exact ⟨trivial, trivial⟩
theorem m_wrong {x2 : Int32} (b : f_X9_isShelf (Int32.ofNat d) = 1) (hd : d < 8) : f_X9_wrongRow (Int32.ofNat d) x2 M = some (if mI M 287 d = 0 then -11 else if mI M 287 d = 2 then (if x2 < 0 then 0 else if mI M 288 d = x2 then 0 else -12) else -12) := by
  unfold f_X9_wrongRow B_X9_wrongRow_49
  rw [b, if_neg n10, gd_r (by omega) hd, o_clamp (by omega)]
  by_cases q1 : mI M 287 d = 0
  · rw [if_pos q1, if_pos q1]
  rw [if_neg q1, if_neg q1]
  by_cases q2 : mI M 287 d = 2
  · rw [if_pos q2, if_pos q2]
    by_cases q3 : x2 < 0
    · rw [if_pos q3, if_pos q3]
    · rw [if_neg q3, if_neg q3]
      split <;> rfl
  · rw [if_neg q2, if_neg q2]
theorem op_put (I : Inv M) (x1 x2 x3 : Int32) : ∃ r M1 M2, f_X8_put x1 x2 x3 M = some (r, M1) ∧ f_X9_put x1 x2 x3 M1 = some (r, M2) ∧ Inv M2 := by
  unfold f_X8_put
  rcases isS x1 with ⟨a, b⟩ | ⟨d, hd, rfl, a, b⟩
  · have : f_X8_rowRefusal x1 M = some (-1) := by unfold f_X8_rowRefusal; rw [c_bad a]; rfl
    rw [this, Option.bind_some, if_neg (by decide)]
    exact ⟨_, M, M, rfl, by unfold f_X9_put f_X9_wrongRow; rw [b, if_pos rfl]; rfl, I⟩
  rw [wr_t I hd, Option.bind_some]
  by_cases q1 : mI M 287 d = 0
  · rw [if_pos q1, if_neg (by decide)]
    refine ⟨_, M, M, rfl, ?_, I⟩
    unfold f_X9_put
    rw [m_wrong b hd, if_pos q1]; rfl
  rw [if_neg q1]
  by_cases q3' : ¬ mI M 287 d = 2
  · rw [if_neg q3', if_neg (by decide)]
    refine ⟨_, M, M, rfl, ?_, I⟩
    unfold f_X9_put
    rw [m_wrong b hd, if_neg q1, if_neg q3']; rfl
  have q3 := Decidable.not_not.mp q3'
  obtain ⟨so, sz, t1, t2, t3, t4, t5, t6, t7⟩ := row_of (I.2.2 d hd) q3
  obtain ⟨h1, h2⟩ := place_t (x := x2) t2 t5 t6
  rw [if_pos q3, if_pos rfl, gd_r (by omega) hd, o_clamp (by omega), h1]
  by_cases q2 : ¬ (0 ≤ x2.toInt ∧ x2.toInt < sz)
  · rw [if_neg q2, if_pos rfl]
    refine ⟨_, M, M, rfl, ?_, I⟩
    unfold f_X9_put
    rw [m_wrong b hd, if_neg q1, if_pos q3, if_pos (by decide), Option.bind_some, if_pos rfl, gd_r (by omega) hd, o_clamp (by omega), h2, if_neg q2, if_pos rfl]
  have q2 := Decidable.not_not.mp q2
  obtain ⟨i, hi, rfl⟩ := of_in q2.1 q2.2
  rw [if_pos q2, if_neg n10, gd_r (by omega) (by omega), o_clamp (by omega)]
  unfold f_X6_lowestBits
  rw [t3]
  generalize hv : (if Int32.ofNat so = 0 then x3.toInt8.toInt32 else if Int32.ofNat so = 1 then x3.toInt16.toInt32 else x3) = v
  have w9 : ∀ y, y ≠ 253 + 7 + 3 * d + 2 → mI (sI M (253 + 7 + 3 * d + 2) i v) y = mI M y := fun y hy => mI_sI_ne hy
  refine ⟨0, sI M (253 + 7 + 3 * d + 2) i v, sI (sI M (253 + 7 + 3 * d + 2) i v) 290 (80 * d + i) v, rfl, ?_, ?_⟩
  · obtain ⟨h1', h2'⟩ := place_t (M := sI M (253 + 7 + 3 * d + 2) i v) (x := Int32.ofNat i) t2 (by rw [w9 _ (by omega)]; exact t5) (by rw [w9 _ (by omega)]; exact t6)
    unfold f_X9_put
    rw [m_wrong b hd, w9 287 (by omega), if_neg q1, if_pos q3, if_pos (by decide), Option.bind_some, if_pos rfl, gd_r (by omega) hd, o_clamp (by omega), h2', if_pos q2, if_neg n10, w9 288 (by omega), t4, k80, gd_r (by omega) (by omega), gd_r (by omega) (by omega), gd_r (by omega) (by omega), o_clamp (by omega), ← hv]
    split
    · rfl
    · split <;> rfl
  · refine inv_sh I hd (fun y y1 y2 => by rw [mI_sI_ne (by omega), mI_sI_ne (by omega)]) (fun e he hne => ?_) ?_
    · simp (disch := omega) only [mI_sI_ne]
      refine ⟨trivial, trivial, trivial, trivial, trivial, fun k hk => ?_⟩
      rw [mI_sI_k (by omega), mI_sI_ne (by omega)]
    · unfold SHl
      rw [mI_sI_ne (by omega : 253 + 7 + 3 * d ≠ 290), mI_sI_ne (by omega : 253 + 7 + 3 * d ≠ 253 + 7 + 3 * d + 2), mI_sI_ne (by omega : 253 + 7 + 3 * d + 2 ≠ 290)]
      simp (disch := omega) only [mI_sI_ne]
      refine ⟨(I.2.2 d hd).1, Or.inr (Or.inr ⟨q3, so, sz, t1, t2, t3, t4, t5, t6, fun k hk => ?_⟩)⟩
      by_cases q : k = i
      · subst q
        rw [mI_sI_eq, mI_sI_eq]
        refine ⟨rfl, fun hs => ?_⟩
        rw [← hv, hs, if_pos (by decide)]
        exact i8_b x3
      · rw [mI_sI_k q, mI_sI_k (by omega), mI_sI_ne (by omega)]
        exact t7 k hk
theorem kd8 {x : Int32} (h : bt x 0 7) : ∃ κ, κ < 8 ∧ x = Int32.ofNat κ := by
  unfold bt at h
  exact of_in h.1 (by omega)
theorem op_keep (I : Inv M) (x1 x2 x3 : Int32) : ∃ r M1 M2, f_X8_keep x1 x2 x3 M = some (r, M1) ∧ f_X9_keep x1 x2 x3 M1 = some (r, M2) ∧ Inv M2 := by
  obtain ⟨N, K, R, W⟩ := I.1
  have hN := R.1.1.1
  unfold f_X8_keep
  rcases isS x1 with ⟨a, b⟩ | ⟨d, hd, rfl, a, b⟩
  · rw [a, if_pos rfl]
    exact ⟨_, M, M, rfl, by unfold f_X9_keep; rw [b, if_pos rfl], I⟩
  rw [a, if_neg n10]
  by_cases q2 : f_X8_within x2 0 1 = 0
  · have n : ∀ y : Int32, f_X8_within y 0 1 ≠ 0 → x2 ≠ y := fun y hy e => hy (e ▸ q2)
    rw [if_neg (n 0 (by decide)), if_neg (n 1 (by decide))]
    exact ⟨_, M, M, rfl, by unfold f_X9_keep; rw [in_w x2 0 1 0 1 rfl rfl, b, if_neg n10, if_pos q2], I⟩
  have hx : x2 = 0 ∨ x2 = 1 := b01 ⟨by have := (wi_n q2).1; rw [ti_zero] at this; exact this, (wi_n q2).2⟩
  rcases hx with rfl | rfl
  · rw [if_pos rfl, gd_r (by omega) hd, o_clamp (by omega)]
    refine ⟨0, _, sI (sI M (253 + 7 + 3 * d) 0 0) 287 d 0, rfl, ?_, ?_⟩
    · unfold f_X9_keep B_X9_keep_32
      rw [in_w 0 0 1 0 1 rfl rfl, b, if_neg n10, if_neg q2, if_neg (show ¬ (0 : Int32) = 1 by decide), gd_r (by omega) hd, if_pos rfl, o_clamp (by omega)]
    · refine inv_sh I hd (fun y y1 y2 => by rw [mI_sI_ne (by omega), mI_sI_ne (by omega)]) (fun e he hne => ?_) ?_
      · simp (disch := omega) only [mI_sI_ne, mI_sI_k]
        exact ⟨trivial, trivial, trivial, trivial, trivial, fun _ _ => trivial⟩
      · unfold SHl
        simp (disch := omega) only [mI_sI_ne, mI_sI_k, mI_sI_eq]
        exact ⟨trivial, Or.inl trivial⟩
  · rw [if_neg n10, if_pos rfl]
    rcases isH R x3 with ⟨u, v⟩ | ⟨h, hh, rfl, u, v⟩
    · rw [u, if_pos rfl]
      exact ⟨_, M, M, rfl, by unfold f_X9_keep; rw [in_w 1 0 1 0 1 rfl rfl, b, if_neg n10, if_neg q2, if_pos rfl, v, if_pos rfl], I⟩
    · obtain ⟨⟨e1, e2, e3, e9, ew⟩, ⟨e4, e5, e6, e7, f0, f1, e8⟩, bh⟩ := hall1 R hh
      have h30 : h < 30 := by omega
      unfold f_X6_holdSheet f_X5_copyFrom
      rw [u, if_neg n10, gd_r (by omega) hd, gd_r (by omega) h30, o_clamp (by omega), o_clamp (by omega), bind_id, Option.bind_some]
      simp (disch := omega) only [mI_sI_ne, f0, f1, e6]
      generalize hM1 : sI (sI (sI (sI (sI M (253 + 7 + 3 * d) 0 1) (253 + 7 + 3 * d) 2 (Int32.ofNat h)) (253 + 7 + 3 * d) 3 (mI M 285 (12 * h + 5))) (253 + 7 + 3 * d + 1) 0 (mI M 285 (12 * h + 7))) (253 + 7 + 3 * d + 1) 1 (mI M 285 (12 * h + 8)) = M1
      have w1 : ∀ y, y ≠ 253 + 7 + 3 * d → y ≠ 253 + 7 + 3 * d + 1 → mI M1 y = mI M y := fun y y1 y2 => by
        rw [← hM1, mI_sI_ne y2, mI_sI_ne y2, mI_sI_ne y1, mI_sI_ne y1, mI_sI_ne y1]
      have g0 : mI M1 (253 + 7 + 3 * d) 0 = 1 := by rw [← hM1]; simp (disch := omega) only [mI_sI_ne, mI_sI_k, mI_sI_eq]
      have g2 : mI M1 (253 + 7 + 3 * d) 2 = Int32.ofNat h := by rw [← hM1]; simp (disch := omega) only [mI_sI_ne, mI_sI_k, mI_sI_eq]
      have g3 : mI M1 (253 + 7 + 3 * d) 3 = mI M 285 (12 * h + 5) := by rw [← hM1]; simp (disch := omega) only [mI_sI_ne, mI_sI_k, mI_sI_eq]
      have k0 : mI M1 (253 + 7 + 3 * d + 1) 0 = mI M 285 (12 * h + 7) := by rw [← hM1]; simp (disch := omega) only [mI_sI_ne, mI_sI_k, mI_sI_eq]
      have k1 : mI M1 (253 + 7 + 3 * d + 1) 1 = mI M 285 (12 * h + 8) := by rw [← hM1]; simp (disch := omega) only [mI_sI_ne, mI_sI_k, mI_sI_eq]
      have m5 : mI M1 285 = mI M 285 := w1 285 (by omega) (by omega)
      have v' : f_X9_isHall (Int32.ofNat h) M1 = 1 := by
        rw [isHall_m hN (by rw [m5]; exact rc_n R), if_pos (by rw [o_toInt (by omega)]; omega)]
      obtain ⟨κ, hκ, ek⟩ := kd8 bh.2.2.2.2.2.2.2.1
      have wt : f_X9_weightOf (Int32.ofNat h) (sI M1 287 d 1) = some (f_X5_heaviness (253 + 7 + 3 * d + 1) M1) := by
        unfold f_X9_weightOf f_X5_heaviness
        rw [g7 h30, g8 h30, mI_sI_ne (by decide), m5, k0, k1, ek]
        have : κ = 0 ∨ κ = 1 ∨ κ = 2 ∨ κ = 3 ∨ κ = 4 ∨ κ = 5 ∨ κ = 6 ∨ κ = 7 := by omega
        rcases this with rfl | rfl | rfl | rfl | rfl | rfl | rfl | rfl <;> rfl
      have fin : ∀ w' M2, (w' = f_X6_caughtFailure (253 + 7 + 3 * d) M1) → M2 = sI (sI (sI M1 287 d 1) 291 d (f_X5_heaviness (253 + 7 + 3 * d + 1) M1)) 292 d w' → Inv M2 := by
        rintro w' M2 rfl rfl
        refine inv_sh I hd (fun y y1 y2 => by rw [mI_sI_ne (by omega), mI_sI_ne (by omega), mI_sI_ne (by omega)]; exact w1 y (by omega) (by omega)) (fun e he hne => ?_) ?_
        · have v7 : mI M1 287 = mI M 287 := w1 _ (by omega) (by omega)
          have v8 : mI M1 288 = mI M 288 := w1 _ (by omega) (by omega)
          have v9 : mI M1 289 = mI M 289 := w1 _ (by omega) (by omega)
          have v1 : mI M1 291 = mI M 291 := w1 _ (by omega) (by omega)
          have v2 : mI M1 292 = mI M 292 := w1 _ (by omega) (by omega)
          have v0 : mI M1 290 = mI M 290 := w1 _ (by omega) (by omega)
          simp (disch := omega) only [mI_sI_ne, mI_sI_k, v7, v8, v9, v1, v2, v0]
          exact ⟨trivial, trivial, trivial, trivial, trivial, fun _ _ => trivial⟩
        · unfold SHl
          have hv : f_X5_heaviness (253 + 7 + 3 * d + 1) (sI (sI (sI M1 287 d 1) 291 d (f_X5_heaviness (253 + 7 + 3 * d + 1) M1)) 292 d (f_X6_caughtFailure (253 + 7 + 3 * d) M1)) = f_X5_heaviness (253 + 7 + 3 * d + 1) M1 := by
            unfold f_X5_heaviness
            simp (disch := omega) only [mI_sI_ne]
          have cv' : f_X6_caughtFailure (253 + 7 + 3 * d) (sI (sI (sI M1 287 d 1) 291 d (f_X5_heaviness (253 + 7 + 3 * d + 1) M1)) 292 d (f_X6_caughtFailure (253 + 7 + 3 * d) M1)) = f_X6_caughtFailure (253 + 7 + 3 * d) M1 := by
            unfold f_X6_caughtFailure
            simp (disch := omega) only [mI_sI_ne]
          rw [hv, cv']
          simp (disch := omega) only [mI_sI_ne, mI_sI_k, mI_sI_eq]
          exact ⟨g0, Or.inr (Or.inl ⟨trivial, trivial, trivial⟩)⟩
      have cf : f_X6_caughtFailure (253 + 7 + 3 * d) M1 = if mI M 285 (12 * h + 5) = 0 then -15 else if mI M 285 (12 * h + 7) = 3 then mI M 285 (12 * h + 8) else if mI M 285 (12 * h + 7) = 4 then Int32.ofNat h + 100 else if mI M 285 (12 * h + 7) = 7 then Int32.ofNat h + 200 else if mI M 285 (12 * h + 7) = 6 then -15 else Int32.ofNat h := by
        unfold f_X6_caughtFailure
        rw [g2, g3, k0, k1]
      have g5' : ∀ v, f_X9_get (Int32.ofNat h) 5 (sI (sI M1 287 d 1) 291 d v) = some (mI M 285 (12 * h + 5)) := fun v => by rw [g5 h30, mI_sI_ne (by decide), mI_sI_ne (by decide), m5]
      have g8' : ∀ v, f_X9_get (Int32.ofNat h) 8 (sI (sI M1 287 d 1) 291 d v) = some (mI M 285 (12 * h + 8)) := fun v => by rw [g8 h30, mI_sI_ne (by decide), mI_sI_ne (by decide), m5]
      refine ⟨0, M1, _, rfl, ?_, fin _ _ rfl rfl⟩
      unfold f_X9_keep B_X9_keep_32
      rw [in_w 1 0 1 0 1 rfl rfl, b, if_neg n10, if_neg q2, if_pos rfl, v', if_neg n10, gd_r (by omega) hd, if_neg n10, o_clamp (by omega), g7 h30, mI_sI_ne (by decide), m5, Option.bind_some, wt, Option.bind_some, g5', g8', cf]
      rw [ek]
      simp only [Option.bind_some]
      have : κ = 0 ∨ κ = 1 ∨ κ = 2 ∨ κ = 3 ∨ κ = 4 ∨ κ = 5 ∨ κ = 6 ∨ κ = 7 := by omega
      by_cases z : mI M 285 (12 * h + 5) = 0
      · simp only [z, if_true]
        rcases this with rfl | rfl | rfl | rfl | rfl | rfl | rfl | rfl <;> rfl
      · simp only [z, if_false]
        rcases this with rfl | rfl | rfl | rfl | rfl | rfl | rfl | rfl <;> rfl
end
