/-! HALL, SEND -/
theorem less_o {a b : Nat} (ha : a < 2147483648) (hb : b < 2147483648) : f_X9_less (Int32.ofNat a) (Int32.ofNat b) = Int32.ofNat (min a b) := by
  unfold f_X9_less
  by_cases h : b ≤ a
  · rw [if_pos ((o_le hb ha).mpr h), Nat.min_eq_right h]
  · rw [if_neg (fun e => h ((o_le hb ha).mp e)), Nat.min_eq_left (by omega)]
theorem nat_of {x : Int32} {a b : Int} (h : bt x a b) (ha : 0 ≤ a) {m : Nat} (hb : b ≤ (m : Int)) : ∃ n : Nat, x = Int32.ofNat n ∧ n ≤ m ∧ a ≤ (n : Int) ∧ (n : Int) ≤ b := by
  unfold bt at h
  refine ⟨x.toInt.toNat, of_toInt (by omega), by omega, by omega, by omega⟩
theorem bt_o {n : Nat} {a b : Int} (hn : n < 2147483648) (ha : a ≤ (n : Int)) (hb : (n : Int) ≤ b) : bt (Int32.ofNat n) a b := by
  unfold bt; rw [o_toInt hn]; exact ⟨ha, hb⟩
theorem bt_n {n : Nat} {a b : Int} (hn : n < 2147483648) (h : bt (Int32.ofNat n) a b) : a ≤ (n : Int) ∧ (n : Int) ≤ b := by
  unfold bt at h; rw [o_toInt hn] at h; exact h
section
variable {A A' B M M' : Mem} {c N K h k : Nat} {S S' : Nat → Int32}
theorem tells_b (b : BH S (12 * h)) (hl : bt (S 360) 0 9) : ∃ x y : Nat, tc S (12 * h) = Int32.ofNat x ∧ to_ S (12 * h) = Int32.ofNat y ∧ y ≤ x ∧ x ≤ 1998 := by
  obtain ⟨b0, b1, b2', b3, b4, b5, b6, b7, b8, -⟩ := b
  obtain ⟨l, el, l1, l2, l3⟩ := nat_of b0 (by omega) (m := 999) (by omega)
  rw [el, o_toInt (by omega)] at b5
  obtain ⟨a, ea, a1, a2, a3⟩ := nat_of b5 (by omega) (m := 999) (by omega)
  rw [ea, o_toInt (by omega)] at b6
  obtain ⟨o, eo, o1, o2, o3⟩ := nat_of b6 (by omega) (m := 999) (by omega)
  obtain ⟨n, en, n1, n2, n3⟩ := nat_of b8 (by omega) (m := 999) (by omega)
  obtain ⟨g, eg, g1, g2, g3⟩ := nat_of hl (by omega) (m := 9) (by omega)
  have t5 : ∀ z : Nat, z ≤ 999 → ((Int32.ofNat z + 5) / 10) * 10 = Int32.ofNat ((z + 5) / 10 * 10) := fun z hz => by
    rw [show (5 : Int32) = Int32.ofNat 5 from rfl, show (10 : Int32) = Int32.ofNat 10 from rfl, o_add, o_div (by omega) (by omega), o_mul]
  unfold tc to_ tc
  rw [el, ea, eo, en, eg]
  by_cases k2 : S (12 * h + 7) = 2
  · rw [if_pos k2, if_pos k2, t5 _ a1, t5 _ o1, less_o (by omega) (by omega), less_o (by omega) (by omega)]
    exact ⟨_, _, rfl, rfl, by omega, by omega⟩
  rw [if_neg k2, if_neg k2]
  by_cases k3 : S (12 * h + 7) = 3
  · rw [if_pos k3, if_pos k3]
    unfold mdo
    have hm : a * n / 100 ≤ a * n := Nat.div_le_self _ _
    have hm2 : a * n ≤ 999 * 999 := Nat.mul_le_mul a1 n1
    have e1 : f_X9_less (Int32.ofNat a) ((Int32.ofNat a * Int32.ofNat n) / 100) = Int32.ofNat (min a (a * n / 100)) := by
      rw [show (100 : Int32) = Int32.ofNat 100 from rfl, o_mul, o_div (by omega) (by omega), less_o (by omega) (by omega)]
    rw [e1]
    generalize a * n / 100 = z at hm ⊢
    have e2 : (Int32.ofNat (min a z) / 10) * 10 + Int32.ofNat g = Int32.ofNat (min a z / 10 * 10 + g) := by
      rw [show (10 : Int32) = Int32.ofNat 10 from rfl, o_div (by omega) (by omega), o_mul, o_add]
    rw [e2]
    simp only [lt_ofNat (a := a) (b := min a z / 10 * 10 + g) (by omega) (by omega)]
    by_cases q : a < min a z / 10 * 10 + g
    · rw [if_pos q]; exact ⟨_, _, rfl, rfl, by omega, by omega⟩
    · rw [if_neg q]; exact ⟨_, _, rfl, rfl, by omega, by omega⟩
  rw [if_neg k3, if_neg k3]
  by_cases k4 : S (12 * h + 7) = 4
  · rw [if_pos k4, if_pos k4, o_add, o_add]
    exact ⟨_, _, rfl, rfl, by omega, by omega⟩
  rw [if_neg k4, if_neg k4]
  by_cases k5 : S (12 * h + 7) = 5
  · rw [if_pos k5, if_pos k5, o_add, less_o (by omega) (by omega)]
    exact ⟨_, _, rfl, rfl, by omega, by omega⟩
  rw [if_neg k5, if_neg k5]
  by_cases k6 : S (12 * h + 7) = 6
  · rw [if_pos k6, if_pos k6]
    exact ⟨_, _, rfl, rfl, by omega, by omega⟩
  rw [if_neg k6, if_neg k6]
  by_cases k7 : S (12 * h + 7) = 7
  · rw [if_pos k7]
    unfold cpo
    have e1 : (((Int32.ofNat o / 100) * 100) + ((jrem (Int32.ofNat o) 10) * 10)) + jrem (Int32.ofNat o / 10) 10 = Int32.ofNat (o / 100 * 100 + o % 10 * 10 + o / 10 % 10) := by
      rw [show (100 : Int32) = Int32.ofNat 100 from rfl, show (10 : Int32) = Int32.ofNat 10 from rfl, o_div (by omega) (by omega), o_div (by omega) (by omega), jrem_o (by omega) (by omega), jrem_o (by omega) (by omega), o_mul, o_mul, o_add, o_add]
    rw [e1]
    simp only [lt_ofNat (a := a) (b := o / 100 * 100 + o % 10 * 10 + o / 10 % 10) (by omega) (by omega)]
    by_cases q : a < o / 100 * 100 + o % 10 * 10 + o / 10 % 10
    · rw [if_pos q]; exact ⟨_, _, rfl, rfl, by omega, by omega⟩
    · rw [if_neg q]; exact ⟨_, _, rfl, rfl, by omega, by omega⟩
  · rw [if_neg k7]
    exact ⟨_, _, rfl, rfl, by omega, by omega⟩
theorem tells_cong (w : ∀ j, j < 12 → S' (12 * h + j) = S (12 * h + j)) (w0 : S' 360 = S 360) : tc S' (12 * h) = tc S (12 * h) ∧ to_ S' (12 * h) = to_ S (12 * h) := by
  have w00 : S' (12 * h) = S (12 * h) := w 0 (by omega)
  have t : tc S' (12 * h) = tc S (12 * h) := by
    unfold tc
    rw [w00, w 5 (by omega), w 7 (by omega), w 8 (by omega)]
  refine ⟨t, ?_⟩
  unfold to_
  rw [t, w00, w 5 (by omega), w 6 (by omega), w 7 (by omega), w 8 (by omega), w0]
/-- the rows after a writing loop: v tells what is written of a hall, or that nothing is -/
def wrS (v : Nat → Option (Int32 × Int32)) (S : Nat → Int32) : Nat → Nat → Int32 := fdN (fun h s => match v h with
    | none => s
    | some q => zu (zu s (12 * h + 9) q.1) (12 * h + 10) q.2) S
theorem wrS_succ (v : Nat → Option (Int32 × Int32)) (S : Nat → Int32) (i : Nat) : wrS v S (i + 1) = match v i with
    | none => wrS v S i
    | some q => zu (zu (wrS v S i) (12 * i + 9) q.1) (12 * i + 10) q.2 := rfl
theorem wrS_hi (v : Nat → Option (Int32 × Int32)) (S : Nat → Int32) : ∀ i k, 12 * i ≤ k → wrS v S i k = S k
  | 0, _, _ => rfl
  | i + 1, k, hk => by
    have ih := wrS_hi v S i k (by omega)
    rw [wrS_succ]
    cases v i with
    | none => exact ih
    | some q =>
      dsimp only
      rw [zu_ne _ _ (by omega), zu_ne _ _ (by omega)]; exact ih
theorem wrS_lo (v : Nat → Option (Int32 × Int32)) (S : Nat → Int32) (h j : Nat) (hj : j < 12) (h9 : j ≠ 9) (h10 : j ≠ 10) : ∀ i, wrS v S i (12 * h + j) = S (12 * h + j)
  | 0 => rfl
  | i + 1 => by
    have ih := wrS_lo v S h j hj h9 h10 i
    rw [wrS_succ]
    cases v i with
    | none => exact ih
    | some q =>
      dsimp only
      rw [zu_ne _ _ (by omega), zu_ne _ _ (by omega)]; exact ih
theorem writes_t (hh : h < 30) (x2 x3 : Int32) : f_X9_writes (Int32.ofNat h) x2 x3 B = some (sI (sI B 285 (12 * h + 9) x2) 285 (12 * h + 10) x3) := by
  unfold f_X9_writes
  rw [show (9 : Int32) = Int32.ofNat 9 from rfl, show (10 : Int32) = Int32.ofNat 10 from rfl, k12, k12, gd_r (by omega) (by omega), gd_r (by omega) (by omega), o_clamp (by omega), o_clamp (by omega)]
def Fr5 (M M' : Mem) : Prop := ∀ y, y ≠ 285 → mI M' y = mI M y
def FrH (M M' : Mem) : Prop := ∀ y, ¬ (25 ≤ y ∧ y ≤ 84) → mI M' y = mI M y
/-- one hall's writing, on the class's side -/
theorem write_c (R : RC A 1 S N K) (hh : h < N) {x y : Int32} (hx : bt x 0 9999) (hy : bt y 0 x.toInt) : RC (sI (sI (sI A (2 + 23 + 2 * h) 9 0) (2 + 23 + 2 * h) 10 x) (2 + 23 + 2 * h) 11 y) 1 (zu (zu S (12 * h + 9) x) (12 * h + 10) y) N K := by
  have hN := R.1.1.1
  refine rc_hall R hh (fun z hz z1 z2 => by rw [mI_sI_ne z1, mI_sI_ne z1, mI_sI_ne z1]) (fun k hk => by rw [zu_ne _ _ (by omega), zu_ne _ _ (by omega)]) ?_
  obtain ⟨⟨e1, e2, e3, e9, ew⟩, ⟨e4, e5, e6, e7, f0, f1, e8⟩, bh⟩ := hall1 R hh
  obtain ⟨b0, b1, b2', b3, b4, b5, b6, b7, b8, b9, b10, b11⟩ := bh
  have nx : ¬ x < 0 := by rw [Int32.lt_iff_toInt_lt, ti_zero]; have := hx.1; omega
  unfold RQ RR BH
  simp (disch := omega) only [mI_sI_ne, mI_sI_k, mI_sI_eq, zu_ne, zu_eq, if_neg nx]
  refine ⟨⟨e1, e2, e3, trivial, fun _ => ⟨trivial, trivial⟩⟩, ⟨e4, e5, e6, e7, f0, f1, e8⟩, b0, b1, b2', b3, b4, b5, b6, b7, b8, ?_, fun _ => hy, b11⟩
  unfold bt at hx ⊢
  omega
theorem miss_c (R : RC A 1 S N K) (hh : h < N) : RC (sI A (2 + 23 + 2 * h) 9 1) 1 (zu (zu S (12 * h + 9) (-1)) (12 * h + 10) 0) N K := by
  have hN := R.1.1.1
  refine rc_hall R hh (fun z hz z1 z2 => by rw [mI_sI_ne z1]) (fun k hk => by rw [zu_ne _ _ (by omega), zu_ne _ _ (by omega)]) ?_
  obtain ⟨⟨e1, e2, e3, e9, ew⟩, ⟨e4, e5, e6, e7, f0, f1, e8⟩, bh⟩ := hall1 R hh
  obtain ⟨b0, b1, b2', b3, b4, b5, b6, b7, b8, b9, b10, b11⟩ := bh
  have nx : (-1 : Int32) < 0 := by decide
  unfold RQ RR BH
  simp (disch := omega) only [mI_sI_ne, mI_sI_k, mI_sI_eq, zu_ne, zu_eq, if_pos nx]
  exact ⟨⟨e1, e2, e3, trivial, fun h => absurd nx h⟩, ⟨e4, e5, e6, e7, f0, f1, e8⟩, b0, b1, b2', b3, b4, b5, b6, b7, b8, ⟨by decide, by decide⟩, fun h => absurd nx h, b11⟩
def snV (S : Nat → Int32) (x : Int32) (h : Nat) : Option (Int32 × Int32) := if x = -1 ∨ x = Int32.ofNat h then some (tc S (12 * h), to_ S (12 * h)) else none
theorem c_send (R : RC M 1 S N K) (x : Int32) : ∃ M', B_X8_send_18 x M = some (thr (wrS (snV S x) S N) N, M') ∧ FrH M M' ∧ RC M' 1 (wrS (snV S x) S N) N K := by
  have hN := R.1.1.1
  have l0 : mI M 3 0 = S 360 := R.1.2.2.2 0 (by omega)
  unfold B_X8_send_18
  rw [l0]
  refine up_run (L := fun n y (s : Mem) => L_X8_send_30 n x (S 360) y s) N (fun i s => FrH M s ∧ RC s 1 (wrS (snV S x) S i) N K) (fun o => ∃ M', o = some (thr (wrS (snV S x) S N) N, M') ∧ FrH M M' ∧ RC M' 1 (wrS (snV S x) S N) N K) (by omega) ?_ ?_ M ⟨fun _ _ => rfl, R⟩
  · rintro n s ⟨hf, r⟩
    have en := r.1.2.1
    simp (disch := omega) only [L_X8_send_30, B_X8_send_84, en, le_t, if_true]
    rw [c_there r.1, Option.bind_some]
    exact ⟨s, rfl, hf, r⟩
  · rintro n i s hi ⟨hf, r⟩
    left
    have en := r.1.2.1
    have h30 : i < 30 := by omega
    obtain ⟨⟨e1, e2, e3, e9, ew⟩, ⟨e4, e5, e6, e7, f0, f1, e8⟩, bh⟩ := hall1 r hi
    have same : ∀ j, j < 12 → wrS (snV S x) S i (12 * i + j) = S (12 * i + j) := fun j hj => wrS_hi _ _ _ _ (by omega)
    have s360 : wrS (snV S x) S i 360 = S 360 := wrS_hi _ _ _ _ (by omega)
    obtain ⟨t1, t2⟩ := tells_cong same s360
    have tcc := c_tc e1 e6 f0 f1
    have tco := c_to e1 e6 e7 f0 f1
    rw [t1] at tcc
    rw [t2, s360] at tco
    obtain ⟨cx, oy, q1, q2, q3, q4⟩ := tells_b (R.1.1.2.2.1 i hi) (R.1.1.2.2.2 0 (by omega))
    have go : ∃ s', (FrH M s' ∧ RC s' 1 (wrS (snV S x) S (i + 1)) N K) ∧ B_X8_send_51 (L_X8_send_30 n) x (S 360) (Int32.ofNat i) s = L_X8_send_30 n x (S 360) (Int32.ofNat (i + 1)) s' ∨ ¬ (x = -1 ∨ x = Int32.ofNat i) := by
      by_cases q : x = -1 ∨ x = Int32.ofNat i
      · refine ⟨sI (sI (sI s (2 + 23 + 2 * i) 9 0) (2 + 23 + 2 * i) 10 (tc S (12 * i))) (2 + 23 + 2 * i) 11 (to_ S (12 * i)), Or.inl ⟨⟨fun y hy => ?_, ?_⟩, ?_⟩⟩
        · rw [mI_sI_ne (by omega), mI_sI_ne (by omega), mI_sI_ne (by omega)]; exact hf y hy
        · rw [wrS_succ, show snV S x i = some (tc S (12 * i), to_ S (12 * i)) from if_pos q]
          exact write_c r hi (by rw [q1]; exact bt_o (by omega) (by omega) (by omega)) (by rw [q1, q2, o_toInt (by omega)]; exact bt_o (by omega) (by omega) (by omega))
        · unfold B_X8_send_51 B_X8_send_78 f_X1_write
          rw [gd_r (by omega) h30, o_clamp (by omega), tcc, tco, Option.bind_some, o_succ]
      · exact ⟨s, Or.inr q⟩
    by_cases q : x = -1 ∨ x = Int32.ofNat i
    · obtain ⟨s', go⟩ := go
      rcases go with ⟨g1, g2⟩ | g
      · refine ⟨s', g1, ?_⟩
        simp (disch := omega) only [L_X8_send_30, en, le_f, if_false]
        rw [g2]
        by_cases q' : x = -1
        · rw [if_pos q']
        · rw [if_neg q', if_pos (q.resolve_left q')]
      · exact absurd q g
    · refine ⟨s, ⟨hf, ?_⟩, ?_⟩
      · rw [wrS_succ, show snV S x i = none from if_neg q]; exact r
      · simp (disch := omega) only [L_X8_send_30, B_X8_send_78, en, le_f, if_false, o_succ]
        rw [if_neg (fun e => q (Or.inl e)), if_neg (fun e => q (Or.inr e))]
theorem bq_wr {v : Nat → Option (Int32 × Int32)} (R : BQ S N) (hv : ∀ h, h < N → ∀ q, v h = some q → (q.1 = -1 ∨ bt q.1 0 9999 ∧ bt q.2 0 q.1.toInt)) : ∀ i, i ≤ N → BQ (wrS v S i) N
  | 0, _ => R
  | i + 1, hi => by
    have hN := R.1
    have ih := bq_wr R hv i (by omega)
    rw [wrS_succ]
    cases e : v i with
    | none => exact ih
    | some q =>
      dsimp only
      obtain ⟨i1, i2, i3, i4⟩ := ih
      refine ⟨i1, by rw [zu_ne _ _ (by omega), zu_ne _ _ (by omega)]; exact i2, fun h hh => ?_, fun k hk => by rw [zu_ne _ _ (by omega), zu_ne _ _ (by omega)]; exact i4 k hk⟩
      have bh := i3 h hh
      by_cases e2 : h = i
      · subst e2
        obtain ⟨b0, b1, b2', b3, b4, b5, b6, b7, b8, b9, b10, b11⟩ := bh
        unfold BH
        simp (disch := omega) only [zu_ne, zu_eq]
        refine ⟨b0, b1, b2', b3, b4, b5, b6, b7, b8, ?_, fun hq => ?_, b11⟩
        · rcases hv h hh q e with r | ⟨r, -⟩
          · rw [r]; exact ⟨by decide, by decide⟩
          · unfold bt at r ⊢; omega
        · rcases hv h hh q e with r | ⟨-, r⟩
          · rw [r] at hq; exact absurd (by decide) hq
          · exact r
      · unfold BH at bh ⊢
        simp (disch := omega) only [zu_ne]
        exact bh
theorem m_send (R : BQ (mI B 285) N) (x : Int32) (hx : x < 0 ↔ x = -1) : ∃ M', B_X9_send_15 x B = some (thr (wrS (snV (mI B 285) x) (mI B 285) N) N, M') ∧ Fr5 B M' ∧ mI M' 285 = wrS (snV (mI B 285) x) (mI B 285) N := by
  have hN := R.1
  have hv : ∀ h, h < N → ∀ q, snV (mI B 285) x h = some q → (q.1 = -1 ∨ bt q.1 0 9999 ∧ bt q.2 0 q.1.toInt) := by
    intro h hh q e
    unfold snV at e
    by_cases q0 : x = -1 ∨ x = Int32.ofNat h
    · rw [if_pos q0] at e
      have e' := Option.some.inj e
      subst e'
      obtain ⟨cx, oy, q1, q2, q3, q4⟩ := tells_b (R.2.2.1 h hh) (R.2.2.2 0 (by omega))
      right
      dsimp only
      rw [q1, q2, o_toInt (by omega)]
      exact ⟨bt_o (by omega) (by omega) (by omega), bt_o (by omega) (by omega) (by omega)⟩
    · rw [if_neg q0] at e; cases e
  refine up_run (L := fun n y (s : Mem) => L_X9_send_17 n x y s) N (fun i s => Fr5 B s ∧ mI s 285 = wrS (snV (mI B 285) x) (mI B 285) i) (fun o => ∃ M', o = some (thr (wrS (snV (mI B 285) x) (mI B 285) N) N, M') ∧ Fr5 B M' ∧ mI M' 285 = wrS (snV (mI B 285) x) (mI B 285) N) (by omega) ?_ ?_ B ⟨fun _ _ => rfl, rfl⟩
  · rintro n s ⟨hf, r⟩
    have rb := bq_wr R hv N (Nat.le_refl _)
    rw [← r] at rb
    have en := rb.2.1
    simp (disch := omega) only [L_X9_send_17, B_X9_send_59, en, le_t, if_true]
    rw [m_there rb, Option.bind_some, r]
    exact ⟨s, rfl, hf, r⟩
  · rintro n i s hi ⟨hf, r⟩
    left
    have h30 : i < 30 := by omega
    have en : mI s 285 1192 = Int32.ofNat N := by rw [r, wrS_hi _ _ _ _ (by omega)]; exact R.2.1
    have same : ∀ j, j < 12 → mI s 285 (12 * i + j) = mI B 285 (12 * i + j) := fun j hj => by rw [r]; exact wrS_hi _ _ _ _ (by omega)
    have s360 : mI s 285 360 = mI B 285 360 := by rw [r]; exact wrS_hi _ _ _ _ (by omega)
    obtain ⟨t1, t2⟩ := tells_cong same s360
    have oe : (Int32.ofNat i = x) = (x = Int32.ofNat i) := propext ⟨Eq.symm, Eq.symm⟩
    by_cases q : x = -1 ∨ x = Int32.ofNat i
    · refine ⟨sI (sI s 285 (12 * i + 9) (tc (mI B 285) (12 * i))) 285 (12 * i + 10) (to_ (mI B 285) (12 * i)), ⟨fun y hy => by rw [mI_sI_ne hy, mI_sI_ne hy]; exact hf y hy, ?_⟩, ?_⟩
      · rw [mI_285, mI_285, wrS_succ, show snV (mI B 285) x i = some (tc (mI B 285) (12 * i), to_ (mI B 285) (12 * i)) from if_pos q, r]
      · have go : B_X9_send_38 (L_X9_send_17 n) x (Int32.ofNat i) s = L_X9_send_17 n x (Int32.ofNat (i + 1)) (sI (sI s 285 (12 * i + 9) (tc (mI B 285) (12 * i))) 285 (12 * i + 10) (to_ (mI B 285) (12 * i))) := by
          unfold B_X9_send_38 B_X9_send_53
          rw [m_tc h30, m_to h30, t1, t2, Option.bind_some, Option.bind_some, writes_t h30, Option.bind_some, o_succ]
        simp (disch := omega) only [L_X9_send_17, en, le_f, if_false, hx, oe]
        rw [go]
        by_cases q' : x = -1
        · rw [if_pos q']
        · rw [if_neg q', if_pos (q.resolve_left q')]
    · refine ⟨s, ⟨hf, ?_⟩, ?_⟩
      · rw [wrS_succ, show snV (mI B 285) x i = none from if_neg q]; exact r
      · simp (disch := omega) only [L_X9_send_17, B_X9_send_53, en, le_f, if_false, hx, oe, o_succ]
        rw [if_neg (fun e => q (Or.inl e)), if_neg (fun e => q (Or.inr e))]
theorem up_hs {M1 M2 : Mem} (h1 : FrH M M1) (h2 : Fr5 M1 M2) : Up M M2 := ⟨fun y a b c d => (h2 y d).trans (h1 y (by omega)), by rw [h2 284 (by decide), h1 284 (by omega)]⟩
theorem rc_5 {M1 M2 : Mem} (r : RC M1 1 S N K) (h2 : Fr5 M1 M2) : RC M2 1 S N K := rc_cong r (fun y hy => h2 y (by omega))
theorem op_send (I : Inv M) (x1 : Int32) : ∃ r M1 M2, f_X8_send x1 M = some (r, M1) ∧ f_X9_send x1 M1 = some (r, M2) ∧ Inv M2 := by
  obtain ⟨N, K, R, W⟩ := I.1
  have hN := R.1.1.1
  unfold f_X8_send f_X9_send
  have go : (x1 < 0 ↔ x1 = -1) → ∃ r M1 M2, B_X8_send_18 x1 M = some (r, M1) ∧ B_X9_send_15 x1 M1 = some (r, M2) ∧ mI M1 285 = mI M 285 ∧ mI M1 285 1192 = Int32.ofNat N ∧ Inv M2 := by
    intro hx
    obtain ⟨M1, e1, f1, r1⟩ := c_send R x1
    have m5 : mI M1 285 = mI M 285 := f1 285 (by omega)
    obtain ⟨M2, e2, f2, r2⟩ := m_send (B := M1) (N := N) (by rw [m5]; exact R.1.1) x1 hx
    rw [m5] at e2 r2
    refine ⟨_, M1, M2, e1, e2, m5, by rw [m5]; exact rc_n R, inv_up I (up_hs f1 f2) ⟨N, K, ?_, ?_⟩⟩
    · rw [r2]; exact rc_5 r1 f2
    · rw [r2]; exact mw_cong (fun k h1 h2 => wrS_hi _ _ _ _ (by omega)) R.2.2.2.1 W
  by_cases q : x1 = -1
  · obtain ⟨r, M1, M2, g1, g2, -, -, g3⟩ := go (by subst q; decide)
    rw [if_pos q]
    exact ⟨r, M1, M2, g1, by rw [if_pos q]; exact g2, g3⟩
  · rw [if_neg q]
    rcases isH R x1 with ⟨a, b⟩ | ⟨h, hh, e, a, b⟩
    · rw [a, if_pos rfl]
      exact ⟨_, M, M, rfl, by rw [if_neg q, b, if_pos rfl], I⟩
    · obtain ⟨r, M1, M2, g1, g2, g4, g5, g3⟩ := go ⟨fun h' => by
        rw [e, Int32.lt_iff_toInt_lt, ti_zero, o_toInt (by omega)] at h'; omega, fun h' => absurd h' q⟩
      rw [a, if_neg n10]
      refine ⟨r, M1, M2, g1, ?_, g3⟩
      have b' : f_X9_isHall x1 M1 = 1 := by
        rw [e, isHall_m hN g5, if_pos (by rw [o_toInt (by omega)]; omega)]
      rw [if_neg q, b', if_neg n10]; exact g2
def zrS (S : Nat → Int32) (q n : Nat) : Nat → Int32 := fun k => if q ≤ k ∧ k < q + n then 0 else S k
theorem rc_grow (R : RC A 1 S N K) (hN : N < 30) (w : ∀ y, 2 ≤ y ∧ y ≤ 84 → y ≠ 2 + 23 + 2 * N → y ≠ 2 + 23 + 2 * N + 1 → mI A' y = mI A y) (w1 : mI A' 1 1 = Int32.ofNat (N + 1)) (w8 : mI A' 1 8 = mI A 1 8) (ws : ∀ k, (k < 12 * N ∨ 12 * N + 12 ≤ k) → k ≠ 1192 → S' k = S k) (s1 : S' 1192 = Int32.ofNat (N + 1)) (r : RQ A' (2 + 23 + 2 * N) S' (12 * N) ∧ RR A' (2 + 23 + 2 * N) S' (12 * N) ∧ BH S' (12 * N)) : RC A' 1 S' (N + 1) K := by
  have hc : ∀ h, h < N + 1 → RQ A' (1 + 1 + 23 + 2 * h) S' (12 * h) ∧ RR A' (1 + 1 + 23 + 2 * h) S' (12 * h) ∧ BH S' (12 * h) := fun h hi => by
    by_cases e : h = N
    · subst e; exact r
    · exact hall_cong (w _ (by omega) (by omega) (by omega)) (w _ (by omega) (by omega) (by omega)) (fun j hj => ws _ (by omega) (by omega)) (rc_at R (by omega))
  obtain ⟨⟨⟨b1, b2', b3, b4⟩, r1, r2, r3⟩, r4, r5, k1, k2, k3, k4⟩ := R
  refine ⟨⟨⟨by omega, s1, fun h hi => (hc h hi).2.2, fun k hk => by rw [ws _ (by omega) (by omega)]; exact b4 k hk⟩, w1, fun h hi => (hc h hi).1, fun k hk => by rw [w (1 + 2) (by omega) (by omega) (by omega), ws _ (by omega) (by omega)]; exact r3 k hk⟩, fun h hi => (hc h hi).2.1, fun d hd => ?_, k1, by rw [w8]; exact k2, by rw [ws _ (by omega) (by omega)]; exact k3, fun m hm => ?_⟩
  · rw [w (1 + 3) (by omega) (by omega) (by omega), w (1 + 4) (by omega) (by omega) (by omega), w (1 + 5) (by omega) (by omega) (by omega), ws _ (by omega) (by omega), ws _ (by omega) (by omega), ws _ (by omega) (by omega)]
    exact r5 d hd
  · obtain ⟨L, l1, l2, l3, l4⟩ := k4 m hm
    refine ⟨L, l1, by rw [w (1 + 17) (by omega) (by omega) (by omega)]; exact l2, by rw [ws _ (by omega) (by omega)]; exact l3, fun k hk => ?_⟩
    rw [w (1 + 6 + 1 + 1 * m) (by omega) (by omega) (by omega), ws _ (by omega) (by omega)]
    exact l4 k hk
def nwS (S : Nat → Int32) (N : Nat) (x1 a b c x3 : Int32) : Nat → Int32 := zu (zu (zu (zu (zu (zu (zu (zrS S (12 * N) 12) (12 * N) x1) (12 * N + 1) a) (12 * N + 2) b) (12 * N + 3) c) (12 * N + 4) x3) (12 * N + 9) (-1)) 1192 (Int32.ofNat (N + 1))
theorem m_hall (hB : mI B 285 1192 = Int32.ofNat N) (hN : N < 30) (x1 x2 x3 : Int32) : ∃ M', L_X9_hall_98 FU x1 x2 x3 ((12 : Int32) * Int32.ofNat N) 0 B = some (Int32.ofNat N, M') ∧ Fr5 B M' ∧ mI M' 285 = nwS (mI B 285) N x1 (x2 / 1000) (jrem (x2 / 100) 10) (jrem (x2 / 10) 10) x3 := by
  rw [show (12 : Int32) * Int32.ofNat N = Int32.ofNat (12 * N) from o_mul (i := 12)]
  refine up_run (L := fun n y (s : Mem) => L_X9_hall_98 n x1 x2 x3 (Int32.ofNat (12 * N)) y s) 12 (fun i s => Fr5 B s ∧ mI s 285 = zrS (mI B 285) (12 * N) i) (fun o => ∃ M', o = some (Int32.ofNat N, M') ∧ Fr5 B M' ∧ mI M' 285 = nwS (mI B 285) N x1 (x2 / 1000) (jrem (x2 / 100) 10) (jrem (x2 / 10) 10) x3) (by omega) ?_ ?_ B ⟨fun _ _ => rfl, ?_⟩
  · rintro n s ⟨hf, r⟩
    have a0 : Int32.ofNat (12 * N) + 0 = Int32.ofNat (12 * N) := Int32.add_zero ..
    have a1 : Int32.ofNat (12 * N) + 1 = Int32.ofNat (12 * N + 1) := o_add (j := 1)
    have a2 : Int32.ofNat (12 * N) + 2 = Int32.ofNat (12 * N + 2) := o_add (j := 2)
    have a3 : Int32.ofNat (12 * N) + 3 = Int32.ofNat (12 * N + 3) := o_add (j := 3)
    have a4 : Int32.ofNat (12 * N) + 4 = Int32.ofNat (12 * N + 4) := o_add (j := 4)
    have a9 : Int32.ofNat (12 * N) + 9 = Int32.ofNat (12 * N + 9) := o_add (j := 9)
    have n0 : mI s 285 1192 = Int32.ofNat N := by rw [r]; unfold zrS; rw [if_neg (by omega)]; exact hB
    simp (disch := omega) only [L_X9_hall_98, show (12 : Int32) = Int32.ofNat 12 from rfl, le_t, if_true]
    unfold B_X9_hall_122
    rw [a0, a1, a2, a3, a4, a9, gd_r (by omega) (by omega), gd_r (by omega) (by omega), gd_r (by omega) (by omega), gd_r (by omega) (by omega), gd_r (by omega) (by omega), gd_r (by omega) (by omega)]
    simp (disch := omega) only [o_clamp, mI_sI_k, mI_sI_eq, n0, o_succ, o_pred]
    refine ⟨_, rfl, fun y hy => ?_, ?_⟩
    · rw [mI_sI_ne hy, mI_sI_ne hy, mI_sI_ne hy, mI_sI_ne hy, mI_sI_ne hy, mI_sI_ne hy, mI_sI_ne hy]; exact hf y hy
    · rw [mI_285, mI_285, mI_285, mI_285, mI_285, mI_285, mI_285, r]; rfl
  · rintro n i s hi ⟨hf, r⟩
    left
    refine ⟨sI s 285 (12 * N + i) 0, ⟨fun y hy => by rw [mI_sI_ne hy]; exact hf y hy, ?_⟩, ?_⟩
    · rw [mI_285, r]
      funext k
      unfold zu zrS
      by_cases e : k = 12 * N + i
      · rw [if_pos e, if_pos (by omega)]
      · rw [if_neg e]
        by_cases e2 : 12 * N ≤ k ∧ k < 12 * N + i
        · rw [if_pos e2, if_pos (by omega)]
        · rw [if_neg e2, if_neg (by omega)]
    · simp (disch := omega) only [L_X9_hall_98, show (12 : Int32) = Int32.ofNat 12 from rfl, le_f, if_false, o_add, ↓gd_r, o_clamp, o_succ]
  · funext k
    unfold zrS
    rw [if_neg (by omega)]
theorem op_hall (I : Inv M) (x1 x2 x3 : Int32) : ∃ r M1 M2, f_X8_hall x1 x2 x3 M = some (r, M1) ∧ f_X9_hall x1 x2 x3 M1 = some (r, M2) ∧ Inv M2 := by
  obtain ⟨N, K, R, W⟩ := I.1
  have hN := R.1.1.1
  unfold f_X8_hall f_X9_hall
  rw [in_w x1 1 999 1 999 rfl rfl, in_w x3 0 100 0 100 rfl rfl]
  by_cases q1 : f_X8_within x1 1 999 = 0
  · rw [if_pos q1]
    exact ⟨_, M, M, rfl, by rw [if_pos q1], I⟩
  rw [if_neg q1]
  by_cases q3 : f_X8_within x3 0 100 = 0
  · by_cases q2 : f_X8_within x2 0 1999 = 0
    · rw [if_pos q2]
      exact ⟨_, M, M, rfl, by rw [if_neg q1, if_pos q3], I⟩
    · rw [if_neg q2, if_pos q3]
      exact ⟨_, M, M, rfl, by rw [if_neg q1, if_pos q3], I⟩
  by_cases q2 : f_X8_within x2 0 1999 = 0
  · rw [if_pos q2]
    refine ⟨_, M, M, rfl, ?_, I⟩
    rw [if_neg q1, if_neg q3]
    rw [within_t, ti_zero, show (1999 : Int32).toInt = 1999 from rfl] at q2
    by_cases q : x2 < 0
    · rw [if_pos q]
    · rw [if_neg q, if_pos (by
        rw [Int32.lt_iff_toInt_lt, ti_zero] at q
        rw [Int32.lt_iff_toInt_lt, show (1999 : Int32).toInt = 1999 from rfl]
        by_cases q' : 0 ≤ x2.toInt ∧ x2.toInt ≤ 1999
        · rw [if_pos q'] at q2; exact absurd q2 (by decide)
        · omega)]
  obtain ⟨t, ht, rfl⟩ := wi_o (n := 2000) q2 (by decide)
  have w1 := wi_n q1
  have w3 := wi_n q3
  rw [if_neg q2, if_neg q3]
  have d1 : Int32.ofNat t / 1000 = Int32.ofNat (t / 1000) := o_div (k := 1000) (by omega) (by omega)
  have d2 : jrem (Int32.ofNat t / 100) 10 = Int32.ofNat (t / 100 % 10) := by
    rw [show (100 : Int32) = Int32.ofNat 100 from rfl, o_div (by omega) (by omega), show (10 : Int32) = Int32.ofNat 10 from rfl, jrem_o (by omega) (by omega)]
  have d3 : jrem (Int32.ofNat t / 10) 10 = Int32.ofNat (t / 10 % 10) := by
    rw [show (10 : Int32) = Int32.ofNat 10 from rfl, o_div (by omega) (by omega), jrem_o (by omega) (by omega)]
  have nneg : ¬ Int32.ofNat t < 0 := fun e => by have := (o_lt (j := 0) (by omega) (by omega)).mp e; omega
  have nbig : ¬ (1999 : Int32) < Int32.ofNat t := fun e => by have := (o_lt (i := 1999) (by omega) (by omega)).mp e; omega
  have c6 : ((6 : Int32) ≤ Int32.ofNat (t / 100 % 10)) = (6 ≤ t / 100 % 10) := le_ofNat (a := 6) (by omega) (by omega)
  have c5 : ((5 : Int32) < Int32.ofNat (t / 100 % 10)) = (5 < t / 100 % 10) := lt_ofNat (a := 5) (by omega) (by omega)
  have c4 : ((4 : Int32) ≤ Int32.ofNat (t / 10 % 10)) = (4 ≤ t / 10 % 10) := le_ofNat (a := 4) (by omega) (by omega)
  have c3 : ((3 : Int32) < Int32.ofNat (t / 10 % 10)) = (3 < t / 10 % 10) := lt_ofNat (a := 3) (by omega) (by omega)
  unfold f_X0_addHall f_X1_begin
  simp only [d1, d2, d3, if_neg nneg, if_neg nbig, c6, c5, c4, c3, if_neg q1, if_neg q3]
  by_cases k6 : 6 ≤ t / 100 % 10
  · rw [if_pos k6]
    exact ⟨_, M, M, rfl, by rw [if_pos (by omega)], I⟩
  rw [if_neg k6]
  simp only [if_neg (show ¬ 5 < t / 100 % 10 by omega)]
  by_cases k4 : 4 ≤ t / 10 % 10
  · rw [if_pos k4]
    exact ⟨_, M, M, rfl, by rw [if_pos (by omega)], I⟩
  rw [if_neg k4]
  simp only [if_neg (show ¬ 3 < t / 10 % 10 by omega)]
  by_cases k0' : ¬ jrem (Int32.ofNat t) 10 = 0
  · rw [if_neg k0']
    exact ⟨_, M, M, rfl, by rw [if_neg k0'], I⟩
  have k0 := Decidable.not_not.mp k0'
  rw [if_pos k0]
  have n1 : mI M 1 1 = Int32.ofNat N := R.1.2.1
  rw [n1]
  by_cases kN : N = 30
  · rw [if_neg (fun e => by have := (o_lt (j := 30) (by omega) (by omega)).mp e; omega)]
    refine ⟨_, M, M, rfl, ?_, I⟩
    rw [if_pos k0, rc_n R, kN, if_pos (show Int32.ofNat 30 = 30 from rfl)]
  rw [if_pos (show Int32.ofNat N < 30 from (o_lt (j := 30) (by omega) (by omega)).mpr (by omega)), gd_r (by omega) (by omega), o_clamp (by omega), Option.bind_some, Option.bind_some]
  dsimp only
  generalize hMA : sI (sI (sI (sI (sI (sI (sI (sI (sI (sI (sI M (1 + 1 + 23 + 2 * N) 1 x1) (1 + 1 + 23 + 2 * N) 2 (Int32.ofNat (t / 1000))) (1 + 1 + 23 + 2 * N) 3 (Int32.ofNat (t / 100 % 10))) (1 + 1 + 23 + 2 * N) 4 (Int32.ofNat (t / 10 % 10))) (1 + 1 + 23 + 2 * N) 5 x3) (1 + 1 + 23 + 2 * N) 6 0) (1 + 1 + 23 + 2 * N) 7 0) (1 + 1 + 23 + 2 * N + 1) 0 0) (1 + 1 + 23 + 2 * N + 1) 1 0) (1 + 1 + 23 + 2 * N) 8 0) (1 + 1 + 23 + 2 * N) 9 1 = MA
  have fA : ∀ y, y ≠ 1 + 1 + 23 + 2 * N → y ≠ 1 + 1 + 23 + 2 * N + 1 → mI MA y = mI M y := fun y y1 y2 => by
    rw [← hMA, mI_sI_ne y1, mI_sI_ne y1, mI_sI_ne y2, mI_sI_ne y2, mI_sI_ne y1, mI_sI_ne y1, mI_sI_ne y1, mI_sI_ne y1, mI_sI_ne y1, mI_sI_ne y1, mI_sI_ne y1]
  have p1 : mI MA 1 1 = Int32.ofNat N := by rw [fA 1 (by omega) (by omega)]; exact n1
  have v1 : mI MA (1 + 1 + 23 + 2 * N) 1 = x1 := by rw [← hMA]; simp (disch := omega) only [mI_sI_ne, mI_sI_k, mI_sI_eq]
  have v2 : mI MA (1 + 1 + 23 + 2 * N) 2 = Int32.ofNat (t / 1000) := by rw [← hMA]; simp (disch := omega) only [mI_sI_ne, mI_sI_k, mI_sI_eq]
  have v3 : mI MA (1 + 1 + 23 + 2 * N) 3 = Int32.ofNat (t / 100 % 10) := by rw [← hMA]; simp (disch := omega) only [mI_sI_ne, mI_sI_k, mI_sI_eq]
  have v4 : mI MA (1 + 1 + 23 + 2 * N) 4 = Int32.ofNat (t / 10 % 10) := by rw [← hMA]; simp (disch := omega) only [mI_sI_ne, mI_sI_k, mI_sI_eq]
  have v5 : mI MA (1 + 1 + 23 + 2 * N) 5 = x3 := by rw [← hMA]; simp (disch := omega) only [mI_sI_ne, mI_sI_k, mI_sI_eq]
  have v6 : mI MA (1 + 1 + 23 + 2 * N) 6 = 0 := by rw [← hMA]; simp (disch := omega) only [mI_sI_ne, mI_sI_k, mI_sI_eq]
  have v7 : mI MA (1 + 1 + 23 + 2 * N) 7 = 0 := by rw [← hMA]; simp (disch := omega) only [mI_sI_ne, mI_sI_k, mI_sI_eq]
  have v8 : mI MA (1 + 1 + 23 + 2 * N) 8 = 0 := by rw [← hMA]; simp (disch := omega) only [mI_sI_ne, mI_sI_k, mI_sI_eq]
  have v9 : mI MA (1 + 1 + 23 + 2 * N) 9 = 1 := by rw [← hMA]; simp (disch := omega) only [mI_sI_ne, mI_sI_k, mI_sI_eq]
  have u0 : mI MA (1 + 1 + 23 + 2 * N + 1) 0 = 0 := by rw [← hMA]; simp (disch := omega) only [mI_sI_ne, mI_sI_k, mI_sI_eq]
  have u1 : mI MA (1 + 1 + 23 + 2 * N + 1) 1 = 0 := by rw [← hMA]; simp (disch := omega) only [mI_sI_ne, mI_sI_k, mI_sI_eq]
  rw [p1, mI_sI_eq, o_succ, o_pred]
  have m5 : mI (sI MA 1 1 (Int32.ofNat (N + 1))) 285 = mI M 285 := by rw [mI_sI_ne (by omega), fA 285 (by omega) (by omega)]
  have n285 : mI (sI MA 1 1 (Int32.ofNat (N + 1))) 285 1192 = Int32.ofNat N := by rw [m5]; exact rc_n R
  obtain ⟨M2, e2, f2, r2⟩ := m_hall (B := sI MA 1 1 (Int32.ofNat (N + 1))) n285 (by omega) x1 (Int32.ofNat t) x3
  rw [m5, d1, d2, d3] at r2
  refine ⟨_, _, M2, rfl, ?_, ?_⟩
  · rw [if_pos k0, n285, if_neg (fun e => by have := (o_inj (j := 30) (by omega) (by omega)).mp e; omega)]
    exact e2
  · have u : Up M M2 := ⟨fun y a b c d => by rw [f2 y d, mI_sI_ne (by omega), fA y (by omega) (by omega)], by rw [f2 284 (by decide), mI_sI_ne (by decide), fA 284 (by omega) (by omega)]⟩
    refine inv_up I u ⟨N + 1, K, ?_, ?_⟩
    · rw [r2]
      have g : ∀ y, y ≠ 285 → y ≠ 1 → mI M2 y = mI MA y := fun y y1 y2 => by rw [f2 y y1, mI_sI_ne y2]
      refine rc_grow R (by omega) (fun y hy y1 y2 => by rw [g y (by omega) (by omega)]; exact fA y y1 y2) (by rw [f2 1 (by decide), mI_sI_eq]) (by rw [f2 1 (by decide), mI_sI_k (by decide), fA 1 (by omega) (by omega)]) (fun k hk hk' => ?_) (by unfold nwS; rw [zu_eq]) ?_
      · unfold nwS zrS
        simp (disch := omega) only [zu_ne]
        rw [if_neg (by omega)]
      · have g1 := g (2 + 23 + 2 * N) (by omega) (by omega)
        have g2 := g (2 + 23 + 2 * N + 1) (by omega) (by omega)
        have nx : (-1 : Int32) < 0 := by decide
        have z5 : zrS (mI M 285) (12 * N) 12 (12 * N + 5) = 0 := if_pos (by omega)
        have z6 : zrS (mI M 285) (12 * N) 12 (12 * N + 6) = 0 := if_pos (by omega)
        have z7 : zrS (mI M 285) (12 * N) 12 (12 * N + 7) = 0 := if_pos (by omega)
        have z8 : zrS (mI M 285) (12 * N) 12 (12 * N + 8) = 0 := if_pos (by omega)
        have z10 : zrS (mI M 285) (12 * N) 12 (12 * N + 10) = 0 := if_pos (by omega)
        have z11 : zrS (mI M 285) (12 * N) 12 (12 * N + 11) = 0 := if_pos (by omega)
        unfold RQ RR BH nwS
        rw [g1, g2]
        simp (disch := omega) only [zu_ne, zu_eq, z5, z6, z7, z8, z10, z11, if_pos nx]
        have bz : ∀ b : Int, 0 ≤ b → bt 0 0 b := fun b hb => ⟨by rw [ti_zero]; omega, by rw [ti_zero]; omega⟩
        refine ⟨⟨v1, v2, v3, v9, fun h => absurd nx h⟩, ⟨v4, v5, v6, v7, u0, u1, v8⟩, ⟨w1.1, w1.2⟩, bt_o (by omega) (by omega) (by omega), bt_o (by omega) (by omega) (by omega), bt_o (by omega) (by omega) (by omega), ⟨?_, w3.2⟩, bz _ ?_, bz _ (by rw [ti_zero]; omega), bz _ (by omega), bz _ (by omega), ⟨by decide, by decide⟩, fun h => absurd nx h, bz _ (by omega)⟩
        · have := w3.1; rw [ti_zero] at this; exact this
        · have := w1.1; rw [show (1 : Int32).toInt = 1 from rfl] at this; omega
    · rw [r2]
      refine mw_cong (fun k h1 h2 => ?_) R.2.2.2.1 W
      unfold nwS zrS
      simp (disch := omega) only [zu_ne]
      rw [if_neg (by omega)]
end
