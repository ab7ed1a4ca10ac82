/-! ELEMENT, COPY, HEAR -/
theorem lg_self (x : Int64) : lg_cmp x x = 0 := by
  unfold lg_cmp
  by_cases h : x > x
  · rw [gt_iff_lt, Int64.lt_iff_toInt_lt] at h; omega
  · rw [if_neg h, if_pos rfl]
theorem held_e (x m : Int32) (h : 0 ≤ m) : f_X8_heldTo x 0 m = f_X9_held x m := by
  unfold f_X8_heldTo f_X9_held
  rw [jmax_e, jmin_e]
  rw [Int32.le_iff_toInt_le, ti_zero] at h
  by_cases a : 0 ≤ x
  · rw [if_pos a]
    rw [Int32.le_iff_toInt_le, ti_zero] at a
    by_cases b : x ≤ m
    · rw [if_pos b]
      rw [Int32.le_iff_toInt_le] at b
      by_cases c : m ≤ x
      · rw [if_pos c]
        rw [Int32.le_iff_toInt_le] at c
        have e : m = x := Int32.toInt_inj.mp (by omega)
        rw [e, if_pos (by rw [Int32.le_iff_toInt_le, ti_zero]; omega)]
      · rw [if_neg c, if_pos (by rw [Int32.le_iff_toInt_le, ti_zero]; omega)]
    · rw [if_neg b]
      rw [Int32.le_iff_toInt_le] at b
      rw [if_pos (show m ≤ x by rw [Int32.le_iff_toInt_le]; omega), if_pos (by rw [Int32.le_iff_toInt_le, ti_zero]; omega)]
  · rw [if_neg a]
    rw [Int32.le_iff_toInt_le, ti_zero] at a
    rw [if_neg (show ¬ m ≤ x by rw [Int32.le_iff_toInt_le]; omega), if_neg (by rw [Int32.le_iff_toInt_le, ti_zero]; omega)]
theorem held_b (x m : Int32) (h : 0 ≤ m.toInt) : bt (f_X9_held x m) 0 m.toInt := by
  unfold f_X9_held bt
  by_cases a : 0 ≤ x
  · rw [if_pos a]
    rw [Int32.le_iff_toInt_le, ti_zero] at a
    by_cases b : x ≤ m
    · rw [if_pos b]; rw [Int32.le_iff_toInt_le] at b; omega
    · rw [if_neg b]; omega
  · rw [if_neg a, ti_zero]; omega
section
variable {A A' B M M' : Mem} {c N K h k d e : Nat} {S S' : Nat → Int32}
theorem sm_sJ {v : Int64} {a k : Nat} : Sm M (sJ M a k v) := ⟨fun _ _ _ => rfl, rfl⟩
theorem sm_9 {v : Int32} : Sm M (sI M 284 9 v) := ⟨fun y _ h => mI_sI_ne h, mI_sI_k (by decide)⟩
theorem op_element (I : Inv M) (x1 x2 : Int32) : ∃ c v M1 M2, f_L_element x1 x2 M = some (c, M1) ∧ f_X9_element x1 x2 M1 = some (v, M2) ∧ f_X9_thrown M2 = c ∧ (c = 0 → mJ M2 300 0 = v) ∧ Inv M2 := by
  unfold f_L_element f_X8_element
  rcases isS x1 with ⟨a, b⟩ | ⟨d, hd, rfl, a, b⟩
  · rw [a, if_pos rfl, Option.bind_some, if_neg n10]
    refine ⟨_, 0, M, sI M 284 9 1, rfl, ?_, mI_sI_eq, fun h => absurd h (by decide), inv_sm I sm_9⟩
    unfold f_X9_element; rw [b, if_pos rfl, mI_sI_eq, if_neg n10]
  obtain ⟨s1, s2⟩ := I.2.2 d hd
  rw [a, if_neg n10, gd_r (by omega) hd]
  simp (disch := omega) only [o_clamp]
  rw [s1]
  by_cases q' : ¬ mI M 287 d = 2
  · rw [if_neg q', Option.bind_some, if_neg (by decide)]
    refine ⟨_, 0, M, sI M 284 9 2, rfl, ?_, mI_sI_eq, fun h => absurd h (by decide), inv_sm I sm_9⟩
    unfold f_X9_element
    rw [b, if_neg n10, gd_r (by omega) hd]
    simp (disch := omega) only [o_clamp]
    rw [if_neg q', mI_sI_eq, if_neg (by decide)]
  have q := Decidable.not_not.mp q'
  obtain ⟨so, sz, t1, t2, t3, t4, t5, t6, t7⟩ := row_of (I.2.2 d hd) q
  obtain ⟨h1, h2⟩ := place_t (x := x2) t2 t5 t6
  rw [if_pos q, h1]
  by_cases q2' : ¬ (0 ≤ x2.toInt ∧ x2.toInt < sz)
  · rw [if_neg q2', if_pos rfl, Option.bind_some, if_neg (by decide)]
    refine ⟨_, 0, M, sI M 284 9 2, rfl, ?_, mI_sI_eq, fun h => absurd h (by decide), inv_sm I sm_9⟩
    unfold f_X9_element
    rw [b, if_neg n10, gd_r (by omega) hd]
    simp (disch := omega) only [o_clamp]
    rw [if_pos q, h2, if_neg q2', if_pos rfl, mI_sI_eq, if_neg (by decide)]
  have q2 := Decidable.not_not.mp q2'
  obtain ⟨i, hi, rfl⟩ := of_in q2.1 q2.2
  rw [if_pos q2, if_neg n10, gd_r (by omega) (by omega), o_clamp (by omega), Option.bind_some, if_pos rfl]
  obtain ⟨t8, -⟩ := t7 i (by omega)
  rw [t8]
  refine ⟨_, (mI M 290 (80 * d + i)).toInt64, sJ M 300 0 (mI M 290 (80 * d + i)).toInt64, sI (sJ M 300 0 (mI M 290 (80 * d + i)).toInt64) 284 9 0, rfl, ?_, mI_sI_eq, fun _ => ?_, inv_sm I (sm_t sm_sJ sm_9)⟩
  · have m : ∀ y, mI (sJ M 300 0 (mI M 290 (80 * d + i)).toInt64) y = mI M y := fun _ => rfl
    unfold f_X9_element
    rw [b, if_neg n10, gd_r (by omega) hd, m 287, m 289]
    simp (disch := omega) only [o_clamp]
    rw [if_pos q, h2, if_pos q2, if_neg n10, mI_sI_eq, if_pos rfl, k80, gd_r (by omega) (by omega), o_clamp (by omega), mI_sI_ne (by decide), m 290]
  · show (if (300 : Nat) = 300 ∧ (0 : Nat) = 0 then (mI M 290 (80 * d + i)).toInt64 else mJ M 300 0) = (mI M 290 (80 * d + i)).toInt64
    rw [if_pos ⟨rfl, rfl⟩]
/-- what the reference's loop leaves: places lo.. hi-1 of the n are copied -/
def cpR (r : Nat → Int32) (a b lo hi : Nat) : Nat → Int32 := fun j => if b + lo ≤ j ∧ j < b + hi then r (a + (j - b)) else r j
theorem m_copy {d e f t n : Nat} (hd : d < 8) (he : e < 8) (hf : f + n ≤ 80) (ht : t + n ≤ 80) : ∃ M', L_X9_copy_122 FU (Int32.ofNat d) (Int32.ofNat f) (Int32.ofNat e) (Int32.ofNat t) (Int32.ofNat n) 0 B = some (Int32.ofNat n, M') ∧ (∀ y, y ≠ 290 → mI M' y = mI B y) ∧ ∀ j, mI M' 290 j = cpR (mI B 290) (80 * d + f) (80 * e + t) 0 n j := by
  have cle : (Int32.ofNat f ≤ Int32.ofNat t) = (f ≤ t) := le_ofNat (by omega) (by omega)
  by_cases q : f ≤ t
  · refine up_run (L := fun m y (s : Mem) => L_X9_copy_122 m (Int32.ofNat d) (Int32.ofNat f) (Int32.ofNat e) (Int32.ofNat t) (Int32.ofNat n) y s) n (fun i s => (∀ y, y ≠ 290 → mI s y = mI B y) ∧ ∀ j, mI s 290 j = cpR (mI B 290) (80 * d + f) (80 * e + t) (n - i) n j) (fun o => ∃ M', o = some (Int32.ofNat n, M') ∧ (∀ y, y ≠ 290 → mI M' y = mI B y) ∧ ∀ j, mI M' 290 j = cpR (mI B 290) (80 * d + f) (80 * e + t) 0 n j) (by omega) ?_ ?_ B ⟨fun _ _ => rfl, fun j => by unfold cpR; rw [if_neg (by omega)]⟩
    · rintro m s ⟨h1, h2⟩
      simp (disch := omega) only [L_X9_copy_122, le_t, if_true]
      refine ⟨s, rfl, h1, fun j => ?_⟩
      rw [h2, Nat.sub_self]
    · rintro m i s hi ⟨h1, h2⟩
      left
      have a1 : Int32.ofNat n - 1 - Int32.ofNat i = Int32.ofNat (n - 1 - i) := by
        rw [show Int32.ofNat n - 1 = Int32.ofNat (n - 1) from o_sub (b := 1) (by omega) (by omega), o_sub (by omega) (by omega)]
      refine ⟨sI s 290 (80 * e + t + (n - 1 - i)) (mI B 290 (80 * d + f + (n - 1 - i))), ⟨fun y hy => by rw [mI_sI_ne hy]; exact h1 y hy, fun j => ?_⟩, ?_⟩
      · unfold cpR
        by_cases q2 : j = 80 * e + t + (n - 1 - i)
        · subst q2
          rw [mI_sI_eq, if_pos (by omega)]
          congr 1; omega
        · rw [mI_sI_k q2, h2 j]
          unfold cpR
          by_cases q3 : 80 * e + t + (n - i) ≤ j ∧ j < 80 * e + t + n
          · rw [if_pos q3, if_pos (by omega)]
          · rw [if_neg q3, if_neg (by omega)]
      · simp (disch := omega) only [L_X9_copy_122, le_f, if_false]
        simp only [cle]
        rw [if_pos q, k80, k80, a1, o_add, o_add, gd_r (by omega) (by omega), gd_r (by omega) (by omega), o_clamp (by omega), o_clamp (by omega), h2, o_succ]
        unfold cpR
        rw [if_neg (by omega)]
  · refine up_run (L := fun m y (s : Mem) => L_X9_copy_122 m (Int32.ofNat d) (Int32.ofNat f) (Int32.ofNat e) (Int32.ofNat t) (Int32.ofNat n) y s) n (fun i s => (∀ y, y ≠ 290 → mI s y = mI B y) ∧ ∀ j, mI s 290 j = cpR (mI B 290) (80 * d + f) (80 * e + t) 0 i j) (fun o => ∃ M', o = some (Int32.ofNat n, M') ∧ (∀ y, y ≠ 290 → mI M' y = mI B y) ∧ ∀ j, mI M' 290 j = cpR (mI B 290) (80 * d + f) (80 * e + t) 0 n j) (by omega) ?_ ?_ B ⟨fun _ _ => rfl, fun j => by unfold cpR; rw [if_neg (by omega)]⟩
    · rintro m s ⟨h1, h2⟩
      simp (disch := omega) only [L_X9_copy_122, le_t, if_true]
      exact ⟨s, rfl, h1, h2⟩
    · rintro m i s hi ⟨h1, h2⟩
      left
      refine ⟨sI s 290 (80 * e + t + i) (mI B 290 (80 * d + f + i)), ⟨fun y hy => by rw [mI_sI_ne hy]; exact h1 y hy, fun j => ?_⟩, ?_⟩
      · unfold cpR
        by_cases q2 : j = 80 * e + t + i
        · subst q2
          rw [mI_sI_eq, if_pos (by omega)]
          congr 1; omega
        · rw [mI_sI_k q2, h2 j]
          unfold cpR
          by_cases q3 : 80 * e + t + 0 ≤ j ∧ j < 80 * e + t + i
          · rw [if_pos q3, if_pos (by omega)]
          · rw [if_neg q3, if_neg (by omega)]
      · simp (disch := omega) only [L_X9_copy_122, le_f, if_false]
        rw [k80, k80, o_add, o_add, gd_r (by omega) (by omega), gd_r (by omega) (by omega), o_clamp (by omega), o_clamp (by omega), h2, o_succ]
        unfold cpR
        rw [if_neg (by omega)]
theorem places_t {x n : Int32} {sz : Nat} (hsz : sz ≤ 80) (h : mI M (253 + 7 + 3 * d) 5 = Int32.ofNat sz) : f_X6_hasPlaces (253 + 7 + 3 * d) x n M = if 0 ≤ x.toInt ∧ 0 ≤ n.toInt ∧ x.toInt + n.toInt ≤ sz then 1 else 0 := by
  unfold f_X6_hasPlaces
  rw [h]
  have hsz' := o_toInt (i := sz) (by omega)
  by_cases a : x < 0
  · rw [if_pos a, if_neg]; rw [Int32.lt_iff_toInt_lt, ti_zero] at a; omega
  rw [if_neg a]
  rw [Int32.lt_iff_toInt_lt, ti_zero] at a
  by_cases b : n < 0
  · rw [if_pos b, if_neg]; rw [Int32.lt_iff_toInt_lt, ti_zero] at b; omega
  rw [if_neg b]
  rw [Int32.lt_iff_toInt_lt, ti_zero] at b
  by_cases c : Int32.ofNat sz < n
  · rw [if_pos c, if_neg]; rw [Int32.lt_iff_toInt_lt, hsz'] at c; omega
  rw [if_neg c]
  rw [Int32.lt_iff_toInt_lt, hsz'] at c
  have es : (Int32.ofNat sz - n).toInt = (sz : Int) - n.toInt := by rw [ti_sub (by rw [hsz']; omega) (by rw [hsz']; omega), hsz']
  by_cases f : Int32.ofNat sz - n < x
  · rw [if_pos f, if_neg]; rw [Int32.lt_iff_toInt_lt, es] at f; omega
  · rw [if_neg f, if_pos]; rw [Int32.lt_iff_toInt_lt, es] at f; omega
theorem op_copy (I : Inv M) (x1 x2 x3 x4 x5 : Int32) : ∃ r M1 M2, f_X8_copy x1 x2 x3 x4 x5 M = some (r, M1) ∧ f_X9_copy x1 x2 x3 x4 x5 M1 = some (r, M2) ∧ Inv M2 := by
  unfold f_X8_copy
  rcases isS x1 with ⟨a, b⟩ | ⟨d, hd, rfl, a, b⟩
  · rw [c_bad a, Option.bind_some, if_neg (by decide)]
    exact ⟨_, M, M, rfl, by unfold f_X9_copy; rw [b, if_pos rfl], I⟩
  rcases isS x3 with ⟨a', b'⟩ | ⟨e, he, rfl, a', b'⟩
  · rw [c_bad2 a a', Option.bind_some, if_neg (by decide)]
    exact ⟨_, M, M, rfl, by unfold f_X9_copy; rw [b, if_neg n10, b', if_pos rfl], I⟩
  have ref : ∀ M1, f_X9_copy (Int32.ofNat d) x2 (Int32.ofNat e) x4 x5 M1 = if rwR M1 d e = 0 then (if x5 < 0 then some ((-13 : Int32), M1) else if x2 < 0 then some ((-13 : Int32), M1) else if x4 < 0 then some ((-13 : Int32), M1) else if ((mI M1 289 d) - x2) < x5 then some ((-13 : Int32), M1) else if x5 ≤ ((mI M1 289 e) - x4) then L_X9_copy_122 FU (Int32.ofNat d) x2 (Int32.ofNat e) x4 x5 (0 : Int32) M1 else some ((-13 : Int32), M1)) else some (rwR M1 d e, M1) := by
    intro M1
    unfold f_X9_copy
    rw [b, b', if_neg n10, if_neg n10, gd_r (by omega) hd, gd_r (by omega) he, o_clamp (by omega), o_clamp (by omega)]
    exact m_rows hd he (fun r => some (r, M1)) _ rfl
  rw [c_rows I hd he, Option.bind_some]
  by_cases q' : ¬ rwR M d e = 0
  · rw [if_neg q']
    exact ⟨_, M, M, rfl, by rw [ref, if_neg q'], I⟩
  have q := Decidable.not_not.mp q'
  obtain ⟨so, sz, sz', ⟨t1, t2, t3, t4, t5, t6, t7⟩, ⟨r1, r2, r3, r4, r5, r6, r7⟩⟩ := rw_0 I hd he q
  have p1 := places_t (x := x2) (n := x5) t2 t5
  have p2 := places_t (x := x4) (n := x5) r2 r5
  have z1 := o_toInt (i := sz) (by omega)
  have z2 := o_toInt (i := sz') (by omega)
  have d1 := ln_sh ⟨d, hd⟩
  rw [if_pos q, gd_r (by omega) hd, gd_r (by omega) he]
  simp (disch := omega) only [o_clamp]
  rw [p1, p2]
  -- what the reference says of places
  have refp : ∀ X : Option (Int32 × Mem), (if x5 < 0 then some ((-13 : Int32), M) else if x2 < 0 then some ((-13 : Int32), M) else if x4 < 0 then some ((-13 : Int32), M) else if ((mI M 289 d) - x2) < x5 then some ((-13 : Int32), M) else if x5 ≤ ((mI M 289 e) - x4) then X else some ((-13 : Int32), M)) = if (0 ≤ x2.toInt ∧ 0 ≤ x5.toInt ∧ x2.toInt + x5.toInt ≤ sz) ∧ (0 ≤ x4.toInt ∧ 0 ≤ x5.toInt ∧ x4.toInt + x5.toInt ≤ sz') then X else some ((-13 : Int32), M) := by
    intro X
    rw [t6, r6]
    have l2 := x2.toInt_lt
    have l4 := x4.toInt_lt
    by_cases g5 : x5 < 0
    · rw [if_pos g5, if_neg]; rw [Int32.lt_iff_toInt_lt, ti_zero] at g5; omega
    rw [if_neg g5]
    rw [Int32.lt_iff_toInt_lt, ti_zero] at g5
    by_cases g2 : x2 < 0
    · rw [if_pos g2, if_neg]; rw [Int32.lt_iff_toInt_lt, ti_zero] at g2; omega
    rw [if_neg g2]
    rw [Int32.lt_iff_toInt_lt, ti_zero] at g2
    by_cases g4 : x4 < 0
    · rw [if_pos g4, if_neg]; rw [Int32.lt_iff_toInt_lt, ti_zero] at g4; omega
    rw [if_neg g4]
    rw [Int32.lt_iff_toInt_lt, ti_zero] at g4
    have es : (Int32.ofNat sz - x2).toInt = (sz : Int) - x2.toInt := by rw [ti_sub (by rw [z1]; omega) (by rw [z1]; omega), z1]
    have es' : (Int32.ofNat sz' - x4).toInt = (sz' : Int) - x4.toInt := by rw [ti_sub (by rw [z2]; omega) (by rw [z2]; omega), z2]
    by_cases g6 : Int32.ofNat sz - x2 < x5
    · rw [if_pos g6, if_neg]; rw [Int32.lt_iff_toInt_lt, es] at g6; omega
    rw [if_neg g6]
    rw [Int32.lt_iff_toInt_lt, es] at g6
    by_cases g7 : x5 ≤ Int32.ofNat sz' - x4
    · rw [if_pos g7, if_pos]; rw [Int32.le_iff_toInt_le, es'] at g7; omega
    · rw [if_neg g7, if_neg]; rw [Int32.le_iff_toInt_le, es'] at g7; omega
  by_cases c1' : ¬ (0 ≤ x2.toInt ∧ 0 ≤ x5.toInt ∧ x2.toInt + x5.toInt ≤ sz)
  · rw [if_neg c1', if_pos rfl]
    refine ⟨_, M, M, rfl, ?_, I⟩
    rw [ref, if_pos q, refp, if_neg (fun h => c1' h.1)]
  have c1 := Decidable.not_not.mp c1'
  by_cases c2' : ¬ (0 ≤ x4.toInt ∧ 0 ≤ x5.toInt ∧ x4.toInt + x5.toInt ≤ sz')
  · rw [if_pos c1, if_neg n10, if_neg c2', if_pos rfl]
    refine ⟨_, M, M, rfl, ?_, I⟩
    rw [ref, if_pos q, refp, if_neg (fun h => c2' h.2)]
  have c2 := Decidable.not_not.mp c2'
  obtain ⟨f, hf, rfl⟩ := of_in (x := x2) (n := 81) c1.1 (by omega)
  obtain ⟨n, hn, rfl⟩ := of_in (x := x5) (n := 81) c1.2.1 (by omega)
  obtain ⟨t, ht, rfl⟩ := of_in (x := x4) (n := 81) c2.1 (by omega)
  rw [o_toInt (by omega), o_toInt (by omega)] at c1 c2
  have nn : ∀ i : Nat, i < 81 → ¬ Int32.ofNat i < 0 := fun i hi e => by have := (o_lt (j := 0) (by omega) (by omega)).mp e; omega
  have fsz : f + n ≤ sz := by omega
  have tsz : t + n ≤ sz' := by omega
  have c1i : (if 0 ≤ (Int32.ofNat f).toInt ∧ 0 ≤ (Int32.ofNat n).toInt ∧ (Int32.ofNat f).toInt + (Int32.ofNat n).toInt ≤ (sz : Int) then (1 : Int32) else 0) = 1 := if_pos (by rw [o_toInt (by omega), o_toInt (by omega)]; exact c1)
  have c2i : (if 0 ≤ (Int32.ofNat t).toInt ∧ 0 ≤ (Int32.ofNat n).toInt ∧ (Int32.ofNat t).toInt + (Int32.ofNat n).toInt ≤ (sz' : Int) then (1 : Int32) else 0) = 1 := if_pos (by rw [o_toInt (by omega), o_toInt (by omega)]; exact c2)
  rw [c1i, if_neg n10, c2i, if_neg n10, gd_t (nn f hf), gd_t (nn t ht), gd_t (nn n hn)]
  simp (disch := omega) only [o_clamp]
  rw [gd_t (show f + n ≤ 80 by omega), gd_t (show t + n ≤ 80 by omega)]
  generalize hM1 : cI M (253 + 7 + 3 * d + 2) f (253 + 7 + 3 * e + 2) t n = M1
  have w1 : ∀ y, y ≠ 253 + 7 + 3 * e + 2 → mI M1 y = mI M y := fun y hy => by
    funext j
    rw [← hM1, mI_cI, if_neg (fun h => hy h.1)]
  have ge : ∀ j, mI M1 (253 + 7 + 3 * e + 2) j = if t ≤ j ∧ j < t + n then mI M (253 + 7 + 3 * d + 2) (f + (j - t)) else mI M (253 + 7 + 3 * e + 2) j := fun j => by
    rw [← hM1, mI_cI]
    by_cases q : t ≤ j ∧ j < t + n
    · rw [if_pos ⟨rfl, q⟩, if_pos q]
    · rw [if_neg (fun h => q h.2), if_neg q]
  obtain ⟨M2, e2, f2, g2⟩ := m_copy (B := M1) hd he (f := f) (t := t) (n := n) (by omega) (by omega)
  refine ⟨_, M1, M2, rfl, ?_, ?_⟩
  · have rq : rwR M1 d e = 0 := by
      unfold rwR at q ⊢
      rw [w1 287 (by omega), w1 288 (by omega)]
      exact q
    rw [ref, if_pos rq]
    have refp1 := (refp (some (Int32.ofNat n, M2))).trans (if_pos ⟨by rw [o_toInt (by omega), o_toInt (by omega)]; exact c1, by rw [o_toInt (by omega), o_toInt (by omega)]; exact c2⟩)
    rw [e2, w1 289 (by omega)]
    have h5 := nn n hn
    have h2' := nn f hf
    have h4 := nn t ht
    rw [if_neg h5, if_neg h2', if_neg h4] at refp1 ⊢
    by_cases g6 : mI M 289 d - Int32.ofNat f < Int32.ofNat n
    · rw [if_pos g6] at refp1; have := congrArg (Option.map Prod.fst) refp1; exfalso
      have h := Option.some.inj this
      have h' := congrArg Int32.toInt h
      rw [show (-13 : Int32).toInt = -13 from rfl, o_toInt (by omega)] at h'
      omega
    · rw [if_neg g6] at refp1 ⊢
      by_cases g7 : Int32.ofNat n ≤ mI M 289 e - Int32.ofNat t
      · rw [if_pos g7]
      · rw [if_neg g7] at refp1
        exfalso
        have h := Option.some.inj (congrArg (Option.map Prod.fst) refp1)
        have h' := congrArg Int32.toInt h
        rw [show (-13 : Int32).toInt = -13 from rfl, o_toInt (by omega)] at h'
        omega
  · refine inv_sh I he (fun y y1 y2 => by rw [f2 y (by omega)]; exact w1 y (by omega)) (fun i hi hne => ?_) ?_
    · rw [f2 287 (by decide), f2 288 (by decide), f2 289 (by decide), f2 291 (by decide), f2 292 (by decide), w1 287 (by omega), w1 288 (by omega), w1 289 (by omega), w1 291 (by omega), w1 292 (by omega)]
      refine ⟨rfl, rfl, rfl, rfl, rfl, fun k hk => ?_⟩
      rw [g2]
      unfold cpR
      rw [if_neg (by omega), w1 290 (by omega)]
    · have hq : mI M 287 e = 2 := by
        unfold rwR at q
        by_cases q1 : mI M 287 d = 0
        · rw [if_pos q1] at q; exact absurd q (by decide)
        by_cases q2 : mI M 287 e = 0
        · rw [if_neg q1, if_pos q2] at q; exact absurd q (by decide)
        rw [if_neg q1, if_neg q2] at q
        by_cases q3 : mI M 287 d = 2
        · by_cases q4 : mI M 287 e = 2
          · exact q4
          · rw [if_pos q3, if_neg q4] at q; exact absurd q (by decide)
        · rw [if_neg q3] at q; exact absurd q (by decide)
      unfold SHl
      rw [f2 287 (by decide), f2 288 (by decide), f2 289 (by decide), f2 (253 + 7 + 3 * e) (by omega), f2 (253 + 7 + 3 * e + 2) (by omega), w1 287 (by omega), w1 288 (by omega), w1 289 (by omega), w1 (253 + 7 + 3 * e) (by omega)]
      refine ⟨(I.2.2 e he).1, Or.inr (Or.inr ⟨hq, so, sz', r1, r2, r3, r4, r5, r6, fun k hk => ?_⟩)⟩
      rw [ge, g2]
      unfold cpR
      rw [w1 290 (by omega)]
      by_cases q3 : t ≤ k ∧ k < t + n
      · rw [if_pos q3, if_pos (by omega), show 80 * d + f + (80 * e + k - (80 * e + t)) = 80 * d + (f + (k - t)) by omega]
        exact t7 _ (by omega)
      · rw [if_neg q3, if_neg (by omega)]
        exact r7 k hk
def lst_ (so : Nat) : Int32 := if so = 0 then -128 else if so = 1 then -32768 else -2147483648
def hv (ec eo : Nat → Int32) (szc szo : Nat) (ls : Int32) (h : Nat) : Option (Int32 × Int32) := some (if h < szc ∧ h < szo ∧ ec h ≠ ls ∧ eo h ≠ ls then (f_X9_held (ec h) 9999, f_X9_held (eo h) (f_X9_held (ec h) 9999)) else (-1, 0))
theorem hv_b (ec eo : Nat → Int32) (szc szo : Nat) (ls : Int32) : ∀ h, h < N → ∀ q, hv ec eo szc szo ls h = some q → (q.1 = -1 ∨ bt q.1 0 9999 ∧ bt q.2 0 q.1.toInt) := by
  intro h hh q e
  unfold hv at e
  have e' := Option.some.inj e
  by_cases q0 : h < szc ∧ h < szo ∧ ec h ≠ ls ∧ eo h ≠ ls
  · rw [if_pos q0] at e'
    subst e'
    right
    have b := held_b (ec h) 9999 (by decide)
    exact ⟨b, held_b _ _ b.1⟩
  · rw [if_neg q0] at e'
    subst e'
    exact Or.inl rfl
theorem tells_t {sz so : Nat} (hd : d < 8) (r : Row M d so sz) (w0 : mI M' (253 + 7 + 3 * d) = mI M (253 + 7 + 3 * d)) (w2 : mI M' (253 + 7 + 3 * d + 2) = mI M (253 + 7 + 3 * d + 2)) (hh : h < 30) : f_X6_tellsNumber (253 + 7 + 3 * d) (Int32.ofNat h) M' = some (if h < sz ∧ mI M 290 (80 * d + h) ≠ lst_ so then 1 else 0) := by
  obtain ⟨t1, t2, t3, t4, t5, t6, t7⟩ := r
  unfold f_X6_tellsNumber f_X6_hasPlace f_X6_leastNumber
  have z1 : (1 : Int32).toInt = 1 := rfl
  rw [w0, w2, t5, t3, within_t, ti_zero, o_toInt (by omega), ti_sub (by rw [o_toInt (by omega), z1]; omega) (by rw [o_toInt (by omega), z1]; omega), o_toInt (by omega), z1]
  have ls : (if Int32.ofNat so = 0 then (-128 : Int32) else if Int32.ofNat so = 1 then -32768 else -2147483648) = lst_ so := by
    unfold lst_
    have : so = 0 ∨ so = 1 ∨ so = 2 := by omega
    rcases this with rfl | rfl | rfl <;> rfl
  rw [ls]
  by_cases q : h < sz
  · rw [if_pos (show (0 : Int) ≤ (h : Int) ∧ (h : Int) ≤ (sz : Int) - 1 by omega), if_neg n10, gd_r (by omega) (by omega), o_clamp (by omega), (t7 h (by omega)).1]
    by_cases q2 : mI M 290 (80 * d + h) = lst_ so
    · rw [if_pos q2, if_neg (fun e => e.2 q2)]
    · rw [if_neg q2, if_pos ⟨q, q2⟩]
  · rw [if_neg (show ¬ ((0 : Int) ≤ (h : Int) ∧ (h : Int) ≤ (sz : Int) - 1) by omega), if_pos rfl, if_neg (fun e => q e.1)]
theorem c_hear (R : RC M 1 S N K) (hd : d < 8) (he : e < 8) {so szc szo : Nat} (rd : Row M d so szc) (re : Row M e so szo) : ∃ M', L_X8_hear_16 FU (Int32.ofNat d) (Int32.ofNat e) 0 M = some (thr (wrS (hv (fun h => mI M 290 (80 * d + h)) (fun h => mI M 290 (80 * e + h)) szc szo (lst_ so)) S N) N, M') ∧ FrH M M' ∧ RC M' 1 (wrS (hv (fun h => mI M 290 (80 * d + h)) (fun h => mI M 290 (80 * e + h)) szc szo (lst_ so)) S N) N K := by
  have hN := R.1.1.1
  generalize hV : hv (fun h => mI M 290 (80 * d + h)) (fun h => mI M 290 (80 * e + h)) szc szo (lst_ so) = V
  refine up_run (L := fun n y (s : Mem) => L_X8_hear_16 n (Int32.ofNat d) (Int32.ofNat e) y s) N (fun i s => FrH M s ∧ RC s 1 (wrS V S i) N K) (fun o => ∃ M', o = some (thr (wrS V S N) N, M') ∧ FrH M M' ∧ RC M' 1 (wrS V S N) N K) (by omega) ?_ ?_ M ⟨fun _ _ => rfl, R⟩
  · rintro n s ⟨hf, r⟩
    have en := r.1.2.1
    simp (disch := omega) only [L_X8_hear_16, B_X8_hear_61, en, le_t, if_true]
    rw [c_there r.1, Option.bind_some]
    exact ⟨s, rfl, hf, r⟩
  · rintro n i s hi ⟨hf, r⟩
    left
    have en := r.1.2.1
    have h30 : i < 30 := by omega
    have tc' := tells_t (M' := s) hd rd (hf _ (by omega)) (hf _ (by omega)) h30
    have to' := tells_t (M' := s) he re (hf _ (by omega)) (hf _ (by omega)) h30
    have vi : V i = some (if i < szc ∧ i < szo ∧ mI M 290 (80 * d + i) ≠ lst_ so ∧ mI M 290 (80 * e + i) ≠ lst_ so then (f_X9_held (mI M 290 (80 * d + i)) 9999, f_X9_held (mI M 290 (80 * e + i)) (f_X9_held (mI M 290 (80 * d + i)) 9999)) else (-1, 0)) := by rw [← hV]; rfl
    have b := held_b (mI M 290 (80 * d + i)) 9999 (by decide)
    have go : ∃ s', f_X8_hearOne (2 + 23 + 2 * i) (253 + 7 + 3 * d) (253 + 7 + 3 * e) (Int32.ofNat i) s = some s' ∧ FrH M s' ∧ RC s' 1 (wrS V S (i + 1)) N K := by
      unfold f_X8_hearOne
      rw [tc', to', wrS_succ, vi]
      have missed : ∃ s', some (sI s (2 + 23 + 2 * i) 9 1) = some s' ∧ FrH M s' ∧ RC s' 1 (zu (zu (wrS V S i) (12 * i + 9) (-1)) (12 * i + 10) 0) N K := ⟨_, rfl, fun y hy => by rw [mI_sI_ne (by omega)]; exact hf y hy, miss_c r hi⟩
      by_cases q1 : i < szc ∧ mI M 290 (80 * d + i) ≠ lst_ so
      · rw [if_pos q1, Option.bind_some, if_neg n10]
        by_cases q2 : i < szo ∧ mI M 290 (80 * e + i) ≠ lst_ so
        · rw [if_pos q2, Option.bind_some, if_neg n10, if_pos ⟨q1.1, q2.1, q1.2, q2.2⟩, gd_r (by omega) (by omega), o_clamp (by omega), hf (253 + 7 + 3 * d + 2) (by omega), hf (253 + 7 + 3 * e + 2) (by omega), (rd.2.2.2.2.2.2 i (by omega)).1, (re.2.2.2.2.2.2 i (by omega)).1, held_e _ _ (by decide), held_e _ _ (by rw [Int32.le_iff_toInt_le, ti_zero]; exact b.1)]
          refine ⟨_, rfl, fun y hy => by rw [mI_sI_ne (by omega), mI_sI_ne (by omega), mI_sI_ne (by omega)]; exact hf y hy, ?_⟩
          exact write_c r hi b (held_b _ _ b.1)
        · rw [if_neg q2, Option.bind_some, if_pos rfl, if_neg (fun h => q2 ⟨h.2.1, h.2.2.2⟩)]
          exact missed
      · rw [if_neg q1, Option.bind_some, if_pos rfl, if_neg (fun h => q1 ⟨h.1, h.2.2.1⟩)]
        exact missed
    obtain ⟨s', g1, g2, g3⟩ := go
    refine ⟨s', ⟨g2, g3⟩, ?_⟩
    simp (disch := omega) only [L_X8_hear_16, en, le_f, if_false, ↓gd_r, o_clamp, o_succ]
    rw [g1, Option.bind_some]
theorem m_hear (R : BQ (mI B 285) N) (hd : d < 8) (he : e < 8) {so szc szo : Nat} (r9 : mI B 289 d = Int32.ofNat szc) (s9 : mI B 289 e = Int32.ofNat szo) (h1 : szc ≤ 80) (h2 : szo ≤ 80) : ∃ M', L_X9_hear_111 FU (Int32.ofNat d) (Int32.ofNat e) (lst_ so) 0 B = some (thr (wrS (hv (fun h => mI B 290 (80 * d + h)) (fun h => mI B 290 (80 * e + h)) szc szo (lst_ so)) (mI B 285) N) N, M') ∧ Fr5 B M' ∧ mI M' 285 = wrS (hv (fun h => mI B 290 (80 * d + h)) (fun h => mI B 290 (80 * e + h)) szc szo (lst_ so)) (mI B 285) N := by
  have hN := R.1
  have hvb := hv_b (N := N) (fun h => mI B 290 (80 * d + h)) (fun h => mI B 290 (80 * e + h)) szc szo (lst_ so)
  generalize hV : hv (fun h => mI B 290 (80 * d + h)) (fun h => mI B 290 (80 * e + h)) szc szo (lst_ so) = V at hvb ⊢
  refine up_run (L := fun n y (s : Mem) => L_X9_hear_111 n (Int32.ofNat d) (Int32.ofNat e) (lst_ so) y s) N (fun i s => Fr5 B s ∧ mI s 285 = wrS V (mI B 285) i) (fun o => ∃ M', o = some (thr (wrS V (mI B 285) N) N, M') ∧ Fr5 B M' ∧ mI M' 285 = wrS V (mI B 285) N) (by omega) ?_ ?_ B ⟨fun _ _ => rfl, rfl⟩
  · rintro n s ⟨hf, r⟩
    have rb := bq_wr R hvb N (Nat.le_refl _)
    rw [← r] at rb
    have en := rb.2.1
    simp (disch := omega) only [L_X9_hear_111, B_X9_hear_254, en, le_t, if_true]
    rw [m_there rb, Option.bind_some, r]
    exact ⟨s, rfl, hf, r⟩
  · rintro n i s hi ⟨hf, r⟩
    left
    have h30 : i < 30 := by omega
    have en : mI s 285 1192 = Int32.ofNat N := by rw [r, wrS_hi _ _ _ _ (by omega)]; exact R.2.1
    have vi : V i = some (if i < szc ∧ i < szo ∧ mI B 290 (80 * d + i) ≠ lst_ so ∧ mI B 290 (80 * e + i) ≠ lst_ so then (f_X9_held (mI B 290 (80 * d + i)) 9999, f_X9_held (mI B 290 (80 * e + i)) (f_X9_held (mI B 290 (80 * d + i)) 9999)) else (-1, 0)) := by rw [← hV]; rfl
    have w9 : mI s 289 = mI B 289 := hf 289 (by decide)
    have w0 : mI s 290 = mI B 290 := hf 290 (by decide)
    have step : ∀ x y : Int32, V i = some (x, y) → ∃ s', (Fr5 B s' ∧ mI s' 285 = wrS V (mI B 285) (i + 1)) ∧ ((f_X9_writes (Int32.ofNat i) x y s).bind fun q => L_X9_hear_111 n (Int32.ofNat d) (Int32.ofNat e) (lst_ so) (Int32.ofNat i + 1) q) = L_X9_hear_111 n (Int32.ofNat d) (Int32.ofNat e) (lst_ so) (Int32.ofNat (i + 1)) s' := by
      intro x y hxy
      refine ⟨sI (sI s 285 (12 * i + 9) x) 285 (12 * i + 10) y, ⟨fun z hz => by rw [mI_sI_ne hz, mI_sI_ne hz]; exact hf z hz, ?_⟩, ?_⟩
      · rw [mI_285, mI_285, wrS_succ, hxy, r]
      · rw [writes_t h30, Option.bind_some, o_succ]
    have miss : ¬ (i < szc ∧ i < szo ∧ mI B 290 (80 * d + i) ≠ lst_ so ∧ mI B 290 (80 * e + i) ≠ lst_ so) → ∃ s', (Fr5 B s' ∧ mI s' 285 = wrS V (mI B 285) (i + 1)) ∧ B_X9_hear_182 (L_X9_hear_111 n) (Int32.ofNat d) (Int32.ofNat e) (lst_ so) (Int32.ofNat i) s = L_X9_hear_111 n (Int32.ofNat d) (Int32.ofNat e) (lst_ so) (Int32.ofNat (i + 1)) s' := by
      intro hq
      obtain ⟨s', g1, g2⟩ := step (-1) 0 (by rw [vi, if_neg hq])
      refine ⟨s', g1, ?_⟩
      unfold B_X9_hear_182
      rw [if_pos rfl, if_pos rfl]
      exact g2
    have unf : L_X9_hear_111 (n + 1) (Int32.ofNat d) (Int32.ofNat e) (lst_ so) (Int32.ofNat i) s = (if szc ≤ i then B_X9_hear_182 (L_X9_hear_111 n) (Int32.ofNat d) (Int32.ofNat e) (lst_ so) (Int32.ofNat i) s else if szo ≤ i then B_X9_hear_182 (L_X9_hear_111 n) (Int32.ofNat d) (Int32.ofNat e) (lst_ so) (Int32.ofNat i) s else if mI B 290 (80 * d + i) = lst_ so then B_X9_hear_182 (L_X9_hear_111 n) (Int32.ofNat d) (Int32.ofNat e) (lst_ so) (Int32.ofNat i) s else if mI B 290 (80 * e + i) = lst_ so then B_X9_hear_182 (L_X9_hear_111 n) (Int32.ofNat d) (Int32.ofNat e) (lst_ so) (Int32.ofNat i) s else (f_X9_writes (Int32.ofNat i) (f_X9_held (mI B 290 (80 * d + i)) 9999) (f_X9_held (mI B 290 (80 * e + i)) (f_X9_held (mI B 290 (80 * d + i)) 9999)) s).bind fun q => L_X9_hear_111 n (Int32.ofNat d) (Int32.ofNat e) (lst_ so) (Int32.ofNat i + 1) q) := by
      simp (disch := omega) only [L_X9_hear_111, en, le_f, if_false, ↓gd_r, o_clamp, w9, w0, r9, s9, k80, le_ofNat, i10]
    rw [unf]
    by_cases q1 : szc ≤ i
    · rw [if_pos q1]; exact miss (by omega)
    by_cases q2 : szo ≤ i
    · rw [if_neg q1, if_pos q2]; exact miss (by omega)
    by_cases q3 : mI B 290 (80 * d + i) = lst_ so
    · rw [if_neg q1, if_neg q2, if_pos q3]; exact miss (fun h => h.2.2.1 q3)
    by_cases q4 : mI B 290 (80 * e + i) = lst_ so
    · rw [if_neg q1, if_neg q2, if_neg q3, if_pos q4]; exact miss (fun h => h.2.2.2 q4)
    · rw [if_neg q1, if_neg q2, if_neg q3, if_neg q4]
      exact step _ _ (by rw [vi, if_pos ⟨by omega, by omega, q3, q4⟩])
theorem op_hear (I : Inv M) (x1 x2 : Int32) : ∃ r M1 M2, f_X8_hear x1 x2 M = some (r, M1) ∧ f_X9_hear x1 x2 M1 = some (r, M2) ∧ Inv M2 := by
  obtain ⟨N, K, R, W⟩ := I.1
  unfold f_X8_hear
  rcases isS x1 with ⟨a, b⟩ | ⟨d, hd, rfl, a, b⟩
  · rw [c_bad a, Option.bind_some, if_neg (by decide)]
    exact ⟨_, M, M, rfl, by unfold f_X9_hear; rw [b, if_pos rfl], I⟩
  rcases isS x2 with ⟨a', b'⟩ | ⟨e, he, rfl, a', b'⟩
  · rw [c_bad2 a a', Option.bind_some, if_neg (by decide)]
    exact ⟨_, M, M, rfl, by unfold f_X9_hear; rw [b, if_neg n10, b', if_pos rfl], I⟩
  have ref : ∀ M1, f_X9_hear (Int32.ofNat d) (Int32.ofNat e) M1 = if rwR M1 d e = 0 then (if mI M1 288 d = 0 then L_X9_hear_111 FU (Int32.ofNat d) (Int32.ofNat e) (-128 : Int32) (0 : Int32) M1 else if mI M1 288 d = 1 then L_X9_hear_111 FU (Int32.ofNat d) (Int32.ofNat e) (-32768 : Int32) (0 : Int32) M1 else L_X9_hear_111 FU (Int32.ofNat d) (Int32.ofNat e) (-2147483648 : Int32) (0 : Int32) M1) else some (rwR M1 d e, M1) := by
    intro M1
    unfold f_X9_hear
    rw [b, b', if_neg n10, if_neg n10, gd_r (by omega) hd, gd_r (by omega) he, o_clamp (by omega), o_clamp (by omega)]
    exact m_rows hd he (fun r => some (r, M1)) _ rfl
  rw [c_rows I hd he, Option.bind_some]
  by_cases q' : ¬ rwR M d e = 0
  · rw [if_neg q']
    exact ⟨_, M, M, rfl, by rw [ref, if_neg q'], I⟩
  have q := Decidable.not_not.mp q'
  obtain ⟨so, sz, sz', rd, re⟩ := rw_0 I hd he q
  rw [if_pos q]
  obtain ⟨M1, e1, f1, r1⟩ := c_hear R hd he rd re
  have m5 : mI M1 285 = mI M 285 := f1 285 (by omega)
  have m9 : mI M1 289 = mI M 289 := f1 289 (by omega)
  have m8 : mI M1 288 = mI M 288 := f1 288 (by omega)
  have m0 : mI M1 290 = mI M 290 := f1 290 (by omega)
  obtain ⟨M2, e2, f2, r2⟩ := m_hear (B := M1) (N := N) (by rw [m5]; exact R.1.1) hd he (so := so) (szc := sz) (szo := sz') (by rw [m9]; exact rd.2.2.2.2.2.1) (by rw [m9]; exact re.2.2.2.2.2.1) rd.2.1 re.2.1
  rw [m5, m0] at e2 r2
  rw [e1]
  refine ⟨_, M1, M2, rfl, ?_, inv_up I (up_hs f1 f2) ⟨N, K, ?_, ?_⟩⟩
  · have rq : rwR M1 d e = 0 := by
      unfold rwR at q ⊢
      rw [f1 287 (by omega), m8]
      exact q
    rw [ref, if_pos rq, m8, rd.2.2.2.1]
    have hso := rd.1
    have : so = 0 ∨ so = 1 ∨ so = 2 := by omega
    rcases this with rfl | rfl | rfl
    · rw [if_pos (show Int32.ofNat 0 = 0 from rfl), show (-128 : Int32) = lst_ 0 from rfl]; exact e2
    · rw [if_neg (show ¬ Int32.ofNat 1 = 0 by decide), if_pos (show Int32.ofNat 1 = 1 from rfl), show (-32768 : Int32) = lst_ 1 from rfl]; exact e2
    · rw [if_neg (show ¬ Int32.ofNat 2 = 0 by decide), if_neg (show ¬ Int32.ofNat 2 = 1 by decide), show (-2147483648 : Int32) = lst_ 2 from rfl]; exact e2
  · rw [r2]; exact rc_5 r1 f2
  · rw [r2]; exact mw_cong (fun k h1 h2 => wrS_hi _ _ _ _ (by have := R.1.1.1; omega)) R.2.2.2.1 W
end
