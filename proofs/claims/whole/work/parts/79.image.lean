/-! COPIES OF COUNTRIES; IMAGE, RESTORE -/
theorem nar01 {x : Int32} (h : x = 0 ∨ x = 1) : vp_nar .boolean x = x := by
  rcases h with rfl | rfl <;> decide
section
variable {A A' B M M' : Mem} {c N K h k d e a0 a1 : Nat} {S S' : Nat → Int32}
theorem rc_scong (R : RC A c S N K) (w : ∀ k, k < 1194 → S' k = S k) : RC A c S' N K := by
  obtain ⟨⟨⟨b1, b2', b3, b4⟩, r1, r2, r3⟩, r4, r5, k1, k2, k3, k4⟩ := R
  have hc : ∀ h, h < N → RQ A (c + 1 + 23 + 2 * h) S' (12 * h) ∧ RR A (c + 1 + 23 + 2 * h) S' (12 * h) ∧ BH S' (12 * h) := fun h hi => hall_cong rfl rfl (fun j hj => w _ (by omega)) ⟨r2 h hi, r4 h hi, b3 h hi⟩
  refine ⟨⟨⟨b1, by rw [w _ (by omega)]; exact b2', fun h hi => (hc h hi).2.2, fun k hk => by rw [w _ (by omega)]; exact b4 k hk⟩, r1, fun h hi => (hc h hi).1, fun k hk => by rw [w _ (by omega)]; exact r3 k hk⟩, fun h hi => (hc h hi).2.1, fun d hd => ?_, k1, k2, by rw [w _ (by omega)]; exact k3, fun m hm => ?_⟩
  · rw [w (370 + 3 * d) (by omega), w (371 + 3 * d) (by omega), w (372 + 3 * d) (by omega)]
    exact r5 d hd
  · obtain ⟨L, l1, l2, l3, l4⟩ := k4 m hm
    refine ⟨L, l1, l2, by rw [w _ (by omega)]; exact l3, fun k hk => ?_⟩
    rw [w _ (by omega)]; exact l4 k hk
theorem x1_copy {p q : Nat} (h0 : p ≠ q) (h1 : p ≠ q + 1) (h2 : p + 1 ≠ q) (b8 : mI M q 8 = 0 ∨ mI M q 8 = 1) (b9 : mI M q 9 = 0 ∨ mI M q 9 = 1) : ∃ M', f_X1_copyFrom p q M = some M' ∧ (∀ y, y ≠ p → y ≠ p + 1 → mI M' y = mI M y) ∧ (∀ j, 1 ≤ j → j ≤ 11 → mI M' p j = mI M q j) ∧ mI M' (p + 1) 0 = mI M (q + 1) 0 ∧ mI M' (p + 1) 1 = mI M (q + 1) 1 := by
  have n1 : q ≠ p := Ne.symm h0
  have n2 : q ≠ p + 1 := Ne.symm h2
  have n3 : q + 1 ≠ p := Ne.symm h1
  have n4 : q + 1 ≠ p + 1 := by omega
  unfold f_X1_copyFrom f_X5_copyFrom
  rw [Option.bind_some]
  simp (disch := omega) only [mI_sI_ne]
  rw [gd_t b8, gd_t b9]
  refine ⟨_, rfl, fun y y1 y2 => ?_, fun j j1 j2 => ?_, ?_, ?_⟩
  · rw [mI_sI_ne y1, mI_sI_ne y1, mI_sI_ne y1, mI_sI_ne y1, mI_sI_ne y2, mI_sI_ne y2, mI_sI_ne y1, mI_sI_ne y1, mI_sI_ne y1, mI_sI_ne y1, mI_sI_ne y1, mI_sI_ne y1, mI_sI_ne y1]
  · have : j = 1 ∨ j = 2 ∨ j = 3 ∨ j = 4 ∨ j = 5 ∨ j = 6 ∨ j = 7 ∨ j = 8 ∨ j = 9 ∨ j = 10 ∨ j = 11 := by omega
    rcases this with rfl | rfl | rfl | rfl | rfl | rfl | rfl | rfl | rfl | rfl | rfl <;> simp (disch := omega) only [mI_sI_ne, mI_sI_k, mI_sI_eq]
  · simp (disch := omega) only [mI_sI_ne, mI_sI_k, mI_sI_eq]
  · simp (disch := omega) only [mI_sI_ne, mI_sI_k, mI_sI_eq]
theorem mI_cI_ne {M : Mem} {a s b d n y : Nat} (h : y ≠ b) : mI (cI M a s b d n) y = mI M y := by
  funext j; rw [mI_cI, if_neg (fun e => h e.1)]
theorem mI_cI_0 {M : Mem} {a b n j : Nat} (h : j < n) : mI (cI M a 0 b 0 n) b j = mI M a j := by
  rw [mI_cI, if_pos ⟨rfl, by omega, by omega⟩]; congr 1; omega
/-- what has been copied so far stands in A', as it was in A -/
def CpF (A A' : Mem) (a0 : Nat) : Prop := ∀ y, (y < a0 ∨ a0 + 84 ≤ y) → mI A' y = mI A y
theorem copy_marks (R : RC A a1 S N K) (hd : a0 + 84 ≤ a1 ∨ a1 + 84 ≤ a0) (M : Mem) (f : CpF A M a0) (q : CQ M a0 S N ∧ (∀ h, h < N → RR M (a0 + 1 + 23 + 2 * h) S (12 * h)) ∧ RU M a0 S) : ∃ M', B_X0_copyFrom_103 a0 a1 M = some M' ∧ CpF A M' a0 ∧ RC M' a0 S N K := by
  have hN := R.1.1.1
  obtain ⟨k1, k2, k3, k4⟩ := R.2.2.2
  unfold B_X0_copyFrom_103
  have e8 : mI M a1 8 = Int32.ofNat K := by rw [f a1 (by omega)]; exact k2
  rw [e8]
  refine up_run (L := fun n y (s : Mem) => L_X0_copyFrom_113 n a0 a1 y s) K (fun i s => CpF A s a0 ∧ (CQ s a0 S N ∧ (∀ h, h < N → RR s (a0 + 1 + 23 + 2 * h) S (12 * h)) ∧ RU s a0 S) ∧ mI s a0 8 = Int32.ofNat K ∧ ∀ m, m < i → mI s (a0 + 17) m = mI A (a1 + 17) m ∧ ∀ k, k < 80 → mI s (a0 + 6 + 1 + 1 * m) k = mI A (a1 + 6 + 1 + 1 * m) k) (fun o => ∃ M', o = some M' ∧ CpF A M' a0 ∧ RC M' a0 S N K) (by omega) ?_ ?_ _ ?_
  · rintro n s ⟨hf, ⟨q1, q2, q3⟩, h8, hm⟩
    simp (disch := omega) only [L_X0_copyFrom_113, h8, le_t, if_true]
    refine ⟨s, rfl, hf, q1, q2, q3, k1, h8, k3, fun m hm' => ?_⟩
    obtain ⟨L, l1, l2, l3, l4⟩ := k4 m hm'
    obtain ⟨g1, g2⟩ := hm m hm'
    refine ⟨L, l1, by rw [g1]; exact l2, l3, fun k hk => ?_⟩
    rw [g2 k (by omega)]; exact l4 k hk
  · rintro n s hi hs ⟨hf, q, h8, hm⟩
    left
    have f17 : mI hi (a1 + 17) = mI A (a1 + 17) := hf _ (by omega)
    have ft : ∀ m, m < 10 → mI hi (a1 + 6 + 1 + 1 * m) = mI A (a1 + 6 + 1 + 1 * m) := fun m hm => hf _ (by omega)
    refine ⟨cI (sI hi (a0 + 17) s (mI hi (a1 + 17) s)) (a1 + 6 + 1 + 1 * s) 0 (a0 + 6 + 1 + 1 * s) 0 80, ⟨fun y hy => ?_, ?_, ?_, fun m hm' => ?_⟩, ?_⟩
    · rw [mI_cI_ne (by omega), mI_sI_ne (by omega)]; exact hf y hy
    · obtain ⟨q1, q2, q3⟩ := q
      refine ⟨cq_cong q1 (fun y hy => by rw [mI_cI_ne (by omega), mI_sI_ne (by omega)]), fun h hh => ?_, fun d hd' => ?_⟩
      · have := q2 h hh
        unfold RR at this ⊢
        rw [mI_cI_ne (by omega), mI_sI_ne (by omega), mI_cI_ne (by omega), mI_sI_ne (by omega)]
        exact this
      · have := q3 d hd'
        rw [mI_cI_ne (by omega), mI_sI_ne (by omega), mI_cI_ne (by omega), mI_sI_ne (by omega), mI_cI_ne (by omega), mI_sI_ne (by omega)]
        exact this
    · rw [mI_cI_ne (by omega), mI_sI_ne (by omega)]; exact h8
    · by_cases e : m = s
      · subst e
        refine ⟨by rw [mI_cI_ne (by omega), mI_sI_eq, f17], fun k hk => ?_⟩
        rw [mI_cI_0 hk, mI_sI_ne (by omega), ft m (by omega)]
      · obtain ⟨g1, g2⟩ := hm m (by omega)
        refine ⟨by rw [mI_cI_ne (by omega), mI_sI_k e]; exact g1, fun k hk => ?_⟩
        rw [mI_cI_ne (by omega), mI_sI_ne (by omega)]; exact g2 k hk
    · simp (disch := omega) only [L_X0_copyFrom_113, h8, le_f, if_false, ↓gd_r, o_clamp, o_succ]
      rfl
  · obtain ⟨q1, q2, q3⟩ := q
    refine ⟨fun y hy => by rw [mI_sI_ne (by omega)]; exact f y hy, ⟨⟨q1.1, by rw [mI_sI_k (by decide)]; exact q1.2.1, fun h hh => ?_, fun k hk => by rw [mI_sI_ne (by omega)]; exact q1.2.2.2 k hk⟩, fun h hh => ?_, fun d hd' => ?_⟩, mI_sI_eq, fun m hm => absurd hm (by omega)⟩
    · have := q1.2.2.1 h hh
      unfold RQ at this ⊢
      rw [mI_sI_ne (by omega)]; exact this
    · have := q2 h hh
      unfold RR at this ⊢
      rw [mI_sI_ne (by omega), mI_sI_ne (by omega)]; exact this
    · have := q3 d hd'
      rw [mI_sI_ne (by omega), mI_sI_ne (by omega), mI_sI_ne (by omega)]; exact this
theorem copy_low (R : RC A a1 S N K) (hd : a0 + 84 ≤ a1 ∨ a1 + 84 ≤ a0) (M : Mem) (f : CpF A M a0) (n0 : mI M a0 1 = Int32.ofNat N) (q : ∀ h, h < N → RQ M (a0 + 1 + 23 + 2 * h) S (12 * h) ∧ RR M (a0 + 1 + 23 + 2 * h) S (12 * h)) : ∃ M', B_X0_copyFrom_39 a0 a1 M = some M' ∧ CpF A M' a0 ∧ RC M' a0 S N K := by
  have hN := R.1.1.1
  unfold B_X0_copyFrom_39
  refine up_run (L := fun n y (s : Mem) => L_X0_copyFrom_56 n a0 a1 y s) 4 (fun i s => CpF A s a0 ∧ CQ s a0 S N ∧ (∀ h, h < N → RR s (a0 + 1 + 23 + 2 * h) S (12 * h)) ∧ ∀ d, d < i → mI s (a0 + 3) d = S (370 + 3 * d) ∧ mI s (a0 + 4) d = S (371 + 3 * d) ∧ mI s (a0 + 5) d = S (372 + 3 * d)) (fun o => ∃ M', o = some M' ∧ CpF A M' a0 ∧ RC M' a0 S N K) (by omega) ?_ ?_ _ ?_
  · rintro n s ⟨hf, q1, q2, q3⟩
    simp (disch := omega) only [L_X0_copyFrom_56, show (4 : Int32) = Int32.ofNat 4 from rfl, le_t, if_true]
    refine copy_marks R hd s hf ⟨q1, q2, fun d hd' => ?_⟩
    obtain ⟨g1, g2, g3⟩ := q3 d hd'
    exact ⟨g1, (R.2.2.1 d hd').2.1, g2, g3⟩
  · rintro n i s hi ⟨hf, q1, q2, q3⟩
    left
    obtain ⟨u0, u1, u2, u3⟩ := R.2.2.1 i hi
    have e3 : mI s (a1 + 3) i = S (370 + 3 * i) := by rw [hf _ (by omega)]; exact u0
    have e4 : mI s (a1 + 4) i = S (371 + 3 * i) := by rw [hf _ (by omega)]; exact u2
    have e5 : mI s (a1 + 5) i = S (372 + 3 * i) := by rw [hf _ (by omega)]; exact u3
    refine ⟨sI (sI (sI s (a0 + 3) i (S (370 + 3 * i))) (a0 + 4) i (S (371 + 3 * i))) (a0 + 5) i (S (372 + 3 * i)), ⟨fun y hy => ?_, cq_cong q1 (fun y hy => ?_), fun h hh => ?_, fun d hd' => ?_⟩, ?_⟩
    · rw [mI_sI_ne (by omega), mI_sI_ne (by omega), mI_sI_ne (by omega)]; exact hf y hy
    · rw [mI_sI_ne (by omega), mI_sI_ne (by omega), mI_sI_ne (by omega)]
    · have := q2 h hh
      unfold RR at this ⊢
      simp (disch := omega) only [mI_sI_ne]
      exact this
    · by_cases e : d = i
      · subst e
        simp (disch := omega) only [mI_sI_ne, mI_sI_eq]
        exact ⟨trivial, trivial, trivial⟩
      · simp (disch := omega) only [mI_sI_ne, mI_sI_k]
        exact q3 d (by omega)
    · simp (disch := omega) only [L_X0_copyFrom_56, show (4 : Int32) = Int32.ofNat 4 from rfl, le_f, if_false, ↓gd_r, o_clamp, o_succ, e3, nar01 (b01 u1), mI_sI_ne, e4, e5]
  · refine ⟨fun y hy => by rw [mI_cI_ne (by omega)]; exact f y hy, ⟨R.1.1, by rw [mI_cI_ne (by omega)]; exact n0, fun h hh => ?_, fun k hk => ?_⟩, fun h hh => ?_, fun d hd' => absurd hd' (by omega)⟩
    · have := (q h hh).1
      unfold RQ at this ⊢
      rw [mI_cI_ne (by omega)]; exact this
    · rw [show (0 : Int32).toNatClampNeg = 0 from rfl, show (10 : Int32).toNatClampNeg = 10 from rfl, mI_cI_0 hk, f _ (by omega)]
      exact R.1.2.2.2 k hk
    · have := (q h hh).2
      unfold RR at this ⊢
      rw [mI_cI_ne (by omega), mI_cI_ne (by omega)]; exact this
theorem copy_t (R : RC A a1 S N K) (hd : a0 + 84 ≤ a1 ∨ a1 + 84 ≤ a0) : ∃ M', f_X0_copyFrom a0 a1 A = some M' ∧ CpF A M' a0 ∧ RC M' a0 S N K := by
  have hN := R.1.1.1
  unfold f_X0_copyFrom
  rw [R.1.2.1]
  refine up_run (L := fun n y (s : Mem) => L_X0_copyFrom_10 n a0 a1 y s) N (fun i s => CpF A s a0 ∧ mI s a0 1 = Int32.ofNat N ∧ ∀ h, h < i → RQ s (a0 + 1 + 23 + 2 * h) S (12 * h) ∧ RR s (a0 + 1 + 23 + 2 * h) S (12 * h)) (fun o => ∃ M', o = some M' ∧ CpF A M' a0 ∧ RC M' a0 S N K) (by omega) ?_ ?_ _ ?_
  · rintro n s ⟨hf, hn, hq⟩
    simp (disch := omega) only [L_X0_copyFrom_10, hn, le_t, if_true]
    exact copy_low R hd s hf hn hq
  · rintro n i s hi ⟨hf, hn, hq⟩
    left
    obtain ⟨e1, e2, e3, e9, ew⟩ := R.1.2.2.1 i hi
    obtain ⟨e4, e5, e6, e7, f0, f1, e8⟩ := R.2.1 i hi
    have bh := R.1.1.2.2.1 i hi
    have fp : mI s (a1 + 1 + 23 + 2 * i) = mI A (a1 + 1 + 23 + 2 * i) := hf _ (by omega)
    have fp1 : mI s (a1 + 1 + 23 + 2 * i + 1) = mI A (a1 + 1 + 23 + 2 * i + 1) := hf _ (by omega)
    obtain ⟨M', g0, g1, g2, g3, g4⟩ := x1_copy (M := s) (p := a0 + 1 + 23 + 2 * i) (q := a1 + 1 + 23 + 2 * i) (by omega) (by omega) (by omega) (by rw [fp, e8]; exact b01 bh.2.2.2.2.2.2.2.2.2.2.2) (by rw [fp, e9]; by_cases q : S (12 * i + 9) < 0 <;> simp [q])
    refine ⟨M', ⟨fun y hy => by rw [g1 y (by omega) (by omega)]; exact hf y hy, by rw [g1 a0 (by omega) (by omega)]; exact hn, fun h hh => ?_⟩, ?_⟩
    · by_cases e : h = i
      · subst e
        unfold RQ RR
        rw [g2 1 (by omega) (by omega), g2 2 (by omega) (by omega), g2 3 (by omega) (by omega), g2 4 (by omega) (by omega), g2 5 (by omega) (by omega), g2 6 (by omega) (by omega), g2 7 (by omega) (by omega), g2 8 (by omega) (by omega), g2 9 (by omega) (by omega), g2 10 (by omega) (by omega), g2 11 (by omega) (by omega), g3, g4, fp, fp1]
        exact ⟨⟨e1, e2, e3, e9, ew⟩, e4, e5, e6, e7, f0, f1, e8⟩
      · have := hq h (by omega)
        unfold RQ RR at this ⊢
        rw [g1 (a0 + 1 + 23 + 2 * h) (by omega) (by omega), g1 (a0 + 1 + 23 + 2 * h + 1) (by omega) (by omega)]
        exact this
    · simp (disch := omega) only [L_X0_copyFrom_10, hn, le_f, if_false, ↓gd_r, o_clamp, o_succ]
      rw [g0, Option.bind_some]
  · exact ⟨fun y hy => mI_sI_ne (by omega), mI_sI_eq, fun h hh => absurd hh (by omega)⟩
theorem m_image (B : Mem) : ∃ M', f_X9_image B = some (mI B 285 1192, M') ∧ (∀ y, y ≠ 286 → y ≠ 284 → mI M' y = mI B y) ∧ mI M' 284 8 = 1 ∧ ∀ k, k < 1194 → mI M' 286 k = mI B 285 k := by
  refine up_run (L := fun n y (s : Mem) => L_X9_image_2 n y s) 1194 (fun i s => (∀ y, y ≠ 286 → mI s y = mI B y) ∧ ∀ k, k < i → mI s 286 k = mI B 285 k) (fun o => ∃ M', o = some (mI B 285 1192, M') ∧ (∀ y, y ≠ 286 → y ≠ 284 → mI M' y = mI B y) ∧ mI M' 284 8 = 1 ∧ ∀ k, k < 1194 → mI M' 286 k = mI B 285 k) (by omega) ?_ ?_ B ⟨fun _ _ => rfl, fun k hk => absurd hk (by omega)⟩
  · rintro n s ⟨h1, h2⟩
    simp (disch := omega) only [L_X9_image_2, B_X9_image_27, show (1194 : Int32) = Int32.ofNat 1194 from rfl, le_t, if_true]
    refine ⟨sI s 284 8 1, by rw [mI_sI_ne (by decide), h1 285 (by decide)], fun y y1 y2 => by rw [mI_sI_ne y2]; exact h1 y y1, mI_sI_eq, fun k hk => ?_⟩
    rw [mI_sI_ne (by decide)]; exact h2 k hk
  · rintro n i s hi ⟨h1, h2⟩
    left
    refine ⟨sI s 286 i (mI B 285 i), ⟨fun y hy => by rw [mI_sI_ne hy]; exact h1 y hy, fun k hk => ?_⟩, ?_⟩
    · by_cases e : k = i
      · subst e; rw [mI_sI_eq]
      · rw [mI_sI_k e]; exact h2 k (by omega)
    · simp (disch := omega) only [L_X9_image_2, show (1194 : Int32) = Int32.ofNat 1194 from rfl, le_f, if_false, ↓gd_r, o_clamp, o_succ]
      rw [h1 285 (by decide)]
theorem m_restore (B : Mem) (h8 : ¬ mI B 284 8 = 0) : ∃ M', f_X9_restore B = some (mI B 286 1192, M') ∧ (∀ y, y ≠ 285 → mI M' y = mI B y) ∧ ∀ k, k < 1194 → mI M' 285 k = mI B 286 k := by
  unfold f_X9_restore
  rw [if_neg h8]
  refine up_run (L := fun n y (s : Mem) => L_X9_restore_12 n y s) 1194 (fun i s => (∀ y, y ≠ 285 → mI s y = mI B y) ∧ ∀ k, k < i → mI s 285 k = mI B 286 k) (fun o => ∃ M', o = some (mI B 286 1192, M') ∧ (∀ y, y ≠ 285 → mI M' y = mI B y) ∧ ∀ k, k < 1194 → mI M' 285 k = mI B 286 k) (by omega) ?_ ?_ B ⟨fun _ _ => rfl, fun k hk => absurd hk (by omega)⟩
  · rintro n s ⟨h1, h2⟩
    simp (disch := omega) only [L_X9_restore_12, show (1194 : Int32) = Int32.ofNat 1194 from rfl, le_t, if_true]
    exact ⟨s, by rw [h2 1192 (by omega)], h1, h2⟩
  · rintro n i s hi ⟨h1, h2⟩
    left
    refine ⟨sI s 285 i (mI B 286 i), ⟨fun y hy => by rw [mI_sI_ne hy]; exact h1 y hy, fun k hk => ?_⟩, ?_⟩
    · by_cases e : k = i
      · subst e; rw [mI_sI_eq]
      · rw [mI_sI_k e]; exact h2 k (by omega)
    · simp (disch := omega) only [L_X9_restore_12, show (1194 : Int32) = Int32.ofNat 1194 from rfl, le_f, if_false, ↓gd_r, o_clamp, o_succ]
      rw [h1 286 (by decide)]
theorem op_image (I : Inv M) : ∃ r M1 M2, f_X8_image M = some (r, M1) ∧ f_X9_image M1 = some (r, M2) ∧ Inv M2 := by
  obtain ⟨⟨N, K, R, W⟩, -, sh⟩ := I
  obtain ⟨MA, e1, f1, r1⟩ := copy_t (a0 := 85) R (by omega)
  obtain ⟨M2, e2, f2, h8, s2⟩ := m_image (sI MA 0 3 1)
  have m5 : mI (sI MA 0 3 1) 285 = mI M 285 := by rw [mI_sI_ne (by decide), f1 285 (by omega)]
  have g : ∀ y, y ≠ 286 → y ≠ 284 → y ≠ 0 → mI M2 y = mI MA y := fun y y1 y2 y3 => by rw [f2 y y1 y2, mI_sI_ne y3]
  have m5' : mI M2 285 = mI M 285 := by rw [f2 285 (by decide) (by decide), m5]
  rw [m5] at e2 s2
  unfold f_X8_image
  rw [e1, Option.bind_some, mI_sI_ne (by decide), f1 1 (by omega), R.1.2.1]
  refine ⟨_, _, M2, rfl, by rw [e2, rc_n R], ⟨N, K, ?_, ?_⟩, ⟨?_, ?_⟩, fun d hd => ?_⟩
  · rw [m5']; exact rc_cong R (fun y hy => by rw [g y (by omega) (by omega) (by omega)]; exact f1 y (by omega))
  · rw [m5']; exact W
  · rw [f2 0 (by decide) (by decide), mI_sI_eq, h8]
  · refine Or.inr ⟨h8, N, K, rc_scong (rc_cong r1 (fun y hy => g y (by omega) (by omega) (by omega))) s2, mw_cong (fun k h1 h2 => s2 k (by omega)) R.2.2.2.1 W⟩
  · exact shl_cong hd (fun y hy => by rw [g y (by omega) (by omega) (by omega)]; exact f1 y (by omega)) (sh d hd)
theorem op_restore (I : Inv M) : ∃ r M1 M2, f_X8_restore M = some (r, M1) ∧ f_X9_restore M1 = some (r, M2) ∧ Inv M2 := by
  have I' := I
  obtain ⟨⟨N, K, R, W⟩, ⟨i1, i2⟩, sh⟩ := I
  unfold f_X8_restore
  rw [i1]
  rcases i2 with i2 | ⟨i2, N', K', R', W'⟩
  · rw [i2, if_pos rfl]
    exact ⟨_, M, M, rfl, by unfold f_X9_restore; rw [i2, if_pos rfl], I'⟩
  · rw [i2, if_neg n10]
    obtain ⟨MA, e1, f1, r1⟩ := copy_t (a0 := 1) R' (by omega)
    have m4 : mI MA 284 = mI M 284 := f1 284 (by omega)
    obtain ⟨M2, e2, f2, s2⟩ := m_restore MA (by rw [m4, i2]; decide)
    have m6 : mI MA 286 = mI M 286 := f1 286 (by omega)
    rw [m6] at e2 s2
    rw [e1, Option.bind_some, r1.1.2.1]
    have g : ∀ y, y ≠ 285 → mI M2 y = mI MA y := f2
    refine ⟨_, MA, M2, rfl, by rw [e2, R'.1.1.2.1], ⟨N', K', ?_, ?_⟩, ⟨?_, ?_⟩, fun d hd => ?_⟩
    · exact rc_scong (rc_cong r1 (fun y hy => g y (by omega))) s2
    · exact mw_cong (fun k h1 h2 => s2 k (by omega)) R'.2.2.2.1 W'
    · rw [g 0 (by decide), g 284 (by decide), f1 0 (by omega), m4]; exact i1
    · rw [g 284 (by decide), m4, g 286 (by decide), m6]
      exact Or.inr ⟨i2, N', K', rc_cong R' (fun y hy => by rw [g y (by omega)]; exact f1 y (by omega)), W'⟩
    · exact shl_cong hd (fun y hy => by rw [g y (by omega)]; exact f1 y (by omega)) (sh d hd)
end
