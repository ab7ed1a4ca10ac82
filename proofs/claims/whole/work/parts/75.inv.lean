/-! THE STANDING RELATION; calls that change one thing -/
def SHl (M : Mem) (d : Nat) : Prop := mI M (253 + 7 + 3 * d) 0 = mI M 287 d ∧ (mI M 287 d = 0 ∨ (mI M 287 d = 1 ∧ f_X5_heaviness (253 + 7 + 3 * d + 1) M = mI M 291 d ∧ f_X6_caughtFailure (253 + 7 + 3 * d) M = mI M 292 d) ∨ (mI M 287 d = 2 ∧ ∃ so sz : Nat, so ≤ 2 ∧ sz ≤ 80 ∧ mI M (253 + 7 + 3 * d) 4 = Int32.ofNat so ∧ mI M 288 d = Int32.ofNat so ∧ mI M (253 + 7 + 3 * d) 5 = Int32.ofNat sz ∧ mI M 289 d = Int32.ofNat sz ∧ ∀ k, k < 80 → mI M (253 + 7 + 3 * d + 2) k = mI M 290 (80 * d + k) ∧ (so = 0 → bt (mI M 290 (80 * d + k)) (-128) 127)))
def MW (S : Nat → Int32) (K : Nat) : Prop := ∀ m, m < K → ∃ L, S (382 + 81 * m) = Int32.ofNat L ∧ 2 ≤ L ∧ L ≤ 80 ∧ Rn (fun k => S (385 + 81 * m + k)) (L - 2) 0 (2, 0, false, 0, false) = none
def IM (M : Mem) : Prop := mI M 0 3 = mI M 284 8 ∧ (mI M 284 8 = 0 ∨ (mI M 284 8 = 1 ∧ ∃ N K, RC M 85 (mI M 286) N K ∧ MW (mI M 286) K))
def Inv (M : Mem) : Prop := (∃ N K, RC M 1 (mI M 285) N K ∧ MW (mI M 285) K) ∧ IM M ∧ ∀ d, d < 8 → SHl M d
section
variable {A A' B M M' : Mem} {c N K h k : Nat} {S S' : Nat → Int32}
theorem shl_cong {d : Nat} (hd : d < 8) (w : ∀ y, (260 ≤ y ∧ y ≤ 283 ∨ 287 ≤ y ∧ y ≤ 292) → mI M' y = mI M y) (s : SHl M d) : SHl M' d := by
  have a0 := w (253 + 7 + 3 * d) (by omega)
  have a1 := w (253 + 7 + 3 * d + 1) (by omega)
  have a2 := w (253 + 7 + 3 * d + 2) (by omega)
  have b7 := w 287 (by omega)
  have b8 := w 288 (by omega)
  have b9 := w 289 (by omega)
  have b0 := w 290 (by omega)
  have b1 := w 291 (by omega)
  have b2 := w 292 (by omega)
  unfold SHl at s ⊢
  unfold f_X5_heaviness f_X6_caughtFailure at s ⊢
  rw [a0, a1, a2, b7, b8, b9, b0, b1, b2]
  exact s
theorem mw_cong (w : ∀ k, 382 ≤ k → k < 1192 → S' k = S k) (hK : K ≤ 10) (m : MW S K) : MW S' K := by
  intro i hi
  obtain ⟨L, h1, h2, h3, h4⟩ := m i hi
  refine ⟨L, by rw [w _ (by omega) (by omega)]; exact h1, h2, h3, ?_⟩
  rw [← h4]
  have : ∀ k i' a, i' + k = L - 2 → aR (fun k => S' (385 + 81 * i + k)) k i' a = aR (fun k => S (385 + 81 * i + k)) k i' a := by
    intro k
    induction k with
    | zero => intro i' a _; rfl
    | succ k ih =>
      intro i' a e
      unfold aR
      rw [w (385 + 81 * i + i') (by omega) (by omega)]
      cases ag a (S (385 + 81 * i + i')) with
      | none => rfl
      | some a' => exact ih (i' + 1) a' (by omega)
  exact this (L - 2) 0 _ (by omega)
def Up (M M' : Mem) : Prop := (∀ y, ¬ scr y → y ≠ 284 → ¬ (1 ≤ y ∧ y ≤ 84) → y ≠ 285 → mI M' y = mI M y) ∧ mI M' 284 8 = mI M 284 8
theorem up_r (M : Mem) : Up M M := ⟨fun _ _ _ _ _ => rfl, rfl⟩
theorem up_t {M1 M2 : Mem} (h : Up M M1) (g : Up M1 M2) : Up M M2 := ⟨fun y a b c d => (g.1 y a b c d).trans (h.1 y a b c d), g.2.trans h.2⟩
theorem up_sm (h : Sm M M') : Up M M' := ⟨fun y a b _ _ => h.1 y a b, h.2⟩
theorem up_sI {y k : Nat} {v : Int32} (h : 1 ≤ y ∧ y ≤ 84 ∨ y = 285) : Up M (sI M y k v) := ⟨fun z a b c d => mI_sI_ne (by omega), by rw [mI_sI_ne (by omega)]⟩
theorem inv_up (I : Inv M) (u : Up M M') (r : ∃ N K, RC M' 1 (mI M' 285) N K ∧ MW (mI M' 285) K) : Inv M' := by
  obtain ⟨-, ⟨i1, i2⟩, s⟩ := I
  refine ⟨r, ⟨?_, ?_⟩, fun d hd => shl_cong hd (fun y hy => u.1 y (by unfold scr; omega) (by omega) (by omega) (by omega)) (s d hd)⟩
  · rw [u.1 0 (by unfold scr; omega) (by omega) (by omega) (by omega), u.2]; exact i1
  · rw [u.2, u.1 286 (by unfold scr; omega) (by omega) (by omega) (by omega)]
    rcases i2 with i2 | ⟨i2, n, k, i3, i4⟩
    · exact Or.inl i2
    · refine Or.inr ⟨i2, n, k, rc_cong i3 (fun y hy => u.1 y ?_ (by omega) (by omega) (by omega)), i4⟩
      unfold scr; omega
theorem inv_sm (I : Inv M) (h : Sm M M') : Inv M' := by
  refine inv_up I (up_sm h) ?_
  obtain ⟨⟨n, k, r, m⟩, -⟩ := I
  exact ⟨n, k, rc_sm r h, by rw [sm_285 h]; exact m⟩
theorem hall_cong {p : Nat} (e0 : mI A' p = mI A p) (e1 : mI A' (p + 1) = mI A (p + 1)) (w : ∀ j, j < 12 → S' (12 * h + j) = S (12 * h + j)) (r : RQ A p S (12 * h) ∧ RR A p S (12 * h) ∧ BH S (12 * h)) : RQ A' p S' (12 * h) ∧ RR A' p S' (12 * h) ∧ BH S' (12 * h) := by
  have w0 : S' (12 * h) = S (12 * h) := w 0 (by omega)
  unfold RQ RR BH at r ⊢
  rw [e0, e1, w0, w 1 (by omega), w 2 (by omega), w 3 (by omega), w 4 (by omega), w 5 (by omega), w 6 (by omega), w 7 (by omega), w 8 (by omega), w 9 (by omega), w 10 (by omega), w 11 (by omega)]
  exact r
theorem rc_at (R : RC A c S N K) (hh : h < N) : RQ A (c + 1 + 23 + 2 * h) S (12 * h) ∧ RR A (c + 1 + 23 + 2 * h) S (12 * h) ∧ BH S (12 * h) := ⟨R.1.2.2.1 h hh, R.2.1 h hh, R.1.1.2.2.1 h hh⟩
theorem rc_halls (R : RC A c S N K) (w : ∀ y, c ≤ y ∧ y ≤ c + 17 → mI A' y = mI A y) (ws : ∀ k, 360 ≤ k → S' k = S k) (hh : ∀ h, h < N → RQ A' (c + 1 + 23 + 2 * h) S' (12 * h) ∧ RR A' (c + 1 + 23 + 2 * h) S' (12 * h) ∧ BH S' (12 * h)) : RC A' c S' N K := by
  obtain ⟨⟨⟨b1, b2', b3, b4⟩, r1, r2, r3⟩, r4, r5, k1, k2, k3, k4⟩ := R
  refine ⟨⟨⟨b1, by rw [ws _ (by omega)]; exact b2', fun h hi => (hh h hi).2.2, fun k hk => by rw [ws _ (by omega)]; exact b4 k hk⟩, by rw [w c (by omega)]; exact r1, fun h hi => (hh h hi).1, fun k hk => by rw [w (c + 2) (by omega), ws _ (by omega)]; exact r3 k hk⟩, fun h hi => (hh h hi).2.1, fun d hd => ?_, k1, by rw [w c (by omega)]; exact k2, by rw [ws _ (by omega)]; exact k3, fun m hm => ?_⟩
  · rw [w (c + 3) (by omega), w (c + 4) (by omega), w (c + 5) (by omega), ws _ (by omega), ws _ (by omega), ws _ (by omega)]
    exact r5 d hd
  · obtain ⟨L, l1, l2, l3, l4⟩ := k4 m hm
    refine ⟨L, l1, by rw [w (c + 17) (by omega)]; exact l2, by rw [ws _ (by omega)]; exact l3, fun k hk => ?_⟩
    rw [w (c + 6 + 1 + 1 * m) (by omega), ws _ (by omega)]
    exact l4 k hk
/-- one hall put anew -/
theorem rc_hall (R : RC A 1 S N K) (hh : h < N) (w : ∀ y, 1 ≤ y ∧ y ≤ 84 → y ≠ 2 + 23 + 2 * h → y ≠ 2 + 23 + 2 * h + 1 → mI A' y = mI A y) (ws : ∀ k, (k < 12 * h ∨ 12 * h + 12 ≤ k) → S' k = S k) (r : RQ A' (2 + 23 + 2 * h) S' (12 * h) ∧ RR A' (2 + 23 + 2 * h) S' (12 * h) ∧ BH S' (12 * h)) : RC A' 1 S' N K := by
  have hN := R.1.1.1
  refine rc_halls R (fun y hy => w y (by omega) (by omega) (by omega)) (fun k hk => ws k (by omega)) (fun i hi => ?_)
  by_cases e : i = h
  · subst e; exact r
  · exact hall_cong (w _ (by omega) (by omega) (by omega)) (w _ (by omega) (by omega) (by omega)) (fun j hj => ws _ (by omega)) (rc_at R hi)
theorem mI_285 {M : Mem} {k : Nat} {v : Int32} : mI (sI M 285 k v) 285 = zu (mI M 285) k v := by
  rw [sI_sR, mI_sR_eq]
theorem becomes_t {k : Nat} (hk : k < 1194) (v : Int32) : f_X9_becomes (Int32.ofNat k) v B = some (mI B 285 k, sI B 285 k v) := by
  unfold f_X9_becomes
  rw [gd_r (by omega) hk, o_clamp (by omega)]
theorem k12 (h j : Nat) : (12 : Int32) * Int32.ofNat h + Int32.ofNat j = Int32.ofNat (12 * h + j) := by
  rw [show (12 : Int32) = Int32.ofNat 12 from rfl, o_mul, o_add]
theorem op_truly (I : Inv M) (x1 x2 x3 : Int32) : ∃ r M1 M2, f_X8_truly x1 x2 x3 M = some (r, M1) ∧ f_X9_truly x1 x2 x3 M1 = some (r, M2) ∧ Inv M2 := by
  obtain ⟨N, K, R, W⟩ := I.1
  have hN := R.1.1.1
  unfold f_X8_truly f_X9_truly
  rcases isH R x1 with ⟨a, b⟩ | ⟨h, hh, rfl, a, b⟩
  · rw [a, if_pos rfl]
    exact ⟨_, M, M, rfl, by rw [b, if_pos rfl], I⟩
  obtain ⟨⟨e1, e2, e3, e9, ew⟩, ⟨e4, e5, e6, e7, f0, f1, e8⟩, bh⟩ := hall1 R hh
  have h30 : h < 30 := by omega
  rw [a, if_neg n10, gd_r (by omega) (by omega), o_clamp (by omega), e1, e6]
  by_cases q1 : f_X8_within x2 0 (mI M 285 (12 * h)) = 0
  · rw [if_pos q1]
    refine ⟨_, M, M, rfl, ?_, I⟩
    rw [b, if_neg n10, g0 h30, Option.bind_some, in_w x2 0 (mI M 285 (12 * h)) 0 _ rfl rfl, if_pos q1]
  by_cases q2 : f_X8_within x3 0 x2 = 0
  · rw [if_neg q1, if_pos q2]
    refine ⟨_, M, M, rfl, ?_, I⟩
    rw [b, if_neg n10, g0 h30, Option.bind_some, in_w x2 0 (mI M 285 (12 * h)) 0 _ rfl rfl, if_neg q1, in_w x3 0 x2 0 _ rfl rfl, if_pos q2]
  · rw [if_neg q1, if_neg q2]
    have m5 : ∀ k v k' v', mI (sI (sI M (2 + 23 + 2 * h) k v) (2 + 23 + 2 * h) k' v') 285 = mI M 285 := fun k v k' v' => by rw [mI_sI_ne (by omega), mI_sI_ne (by omega)]
    refine ⟨_, _, sI (sI (sI (sI M (2 + 23 + 2 * h) 6 x2) (2 + 23 + 2 * h) 7 x3) 285 (12 * h + 6) x3) 285 (12 * h + 5) x2, rfl, ?_, ?_⟩
    · have b' : f_X9_isHall (Int32.ofNat h) (sI (sI M (2 + 23 + 2 * h) 6 x2) (2 + 23 + 2 * h) 7 x3) = 1 := by
        rw [isHall_m hN (by rw [m5]; exact rc_n R), if_pos (by rw [o_toInt (by omega)]; omega)]
      rw [b', if_neg n10, g0 h30, m5, Option.bind_some, in_w x2 0 (mI M 285 (12 * h)) 0 _ rfl rfl, if_neg q1, in_w x3 0 x2 0 _ rfl rfl, if_neg q2, show (6 : Int32) = Int32.ofNat 6 from rfl, show (5 : Int32) = Int32.ofNat 5 from rfl, k12, k12, gd_r (by omega) (by omega), o_clamp (by omega), becomes_t (by omega), Option.bind_some, mI_sI_k (by omega), m5]
    · refine inv_up I (up_t (up_t (up_t (up_sI (by omega)) (up_sI (by omega))) (up_sI (by omega))) (up_sI (by omega))) ⟨N, K, ?_, ?_⟩
      · rw [mI_285, mI_285, m5]
        refine rc_hall R hh (fun y hy y1 y2 => by rw [mI_sI_ne (by omega), mI_sI_ne (by omega), mI_sI_ne y1, mI_sI_ne y1]) (fun k hk => by rw [zu_ne _ _ (by omega), zu_ne _ _ (by omega)]) ?_
        obtain ⟨q10, q11⟩ := wi_n q1
        obtain ⟨q20, q21⟩ := wi_n q2
        rw [ti_zero] at q10 q20
        obtain ⟨b0, b1, b2', b3, b4, b5, b6, b7, b8, b9, b10, b11⟩ := bh
        unfold RQ RR BH
        simp (disch := omega) only [mI_sI_ne, mI_sI_k, mI_sI_eq, zu_ne, zu_eq]
        exact ⟨⟨e1, e2, e3, e9, ew⟩, ⟨e4, e5, trivial, trivial, f0, f1, e8⟩, b0, b1, b2', b3, b4, ⟨q10, q11⟩, ⟨q20, q21⟩, b7, b8, b9, b10, b11⟩
      · rw [mI_285, mI_285, m5]
        exact mw_cong (fun k h1 h2 => by rw [zu_ne _ _ (by omega), zu_ne _ _ (by omega)]) R.2.2.2.1 W
theorem op_sheet (I : Inv M) (x1 x2 x3 : Int32) : ∃ r M1 M2, f_X8_sheet x1 x2 x3 M = some (r, M1) ∧ f_X9_sheet x1 x2 x3 M1 = some (r, M2) ∧ Inv M2 := by
  obtain ⟨N, K, R, W⟩ := I.1
  have hN := R.1.1.1
  unfold f_X8_sheet f_X9_sheet
  rw [in_w x2 0 7 0 7 rfl rfl, in_w x3 0 999 0 999 rfl rfl]
  rcases isH R x1 with ⟨a, b⟩ | ⟨h, hh, rfl, a, b⟩
  · rw [a, if_pos rfl]
    exact ⟨_, M, M, rfl, by rw [b, if_pos rfl], I⟩
  obtain ⟨⟨e1, e2, e3, e9, ew⟩, ⟨e4, e5, e6, e7, f0, f1, e8⟩, bh⟩ := hall1 R hh
  have h30 : h < 30 := by omega
  rw [a, if_neg n10]
  by_cases q1 : f_X8_within x2 0 7 = 0
  · rw [if_pos q1]
    exact ⟨_, M, M, rfl, by rw [b, if_neg n10, if_pos q1], I⟩
  by_cases q2 : f_X8_within x3 0 999 = 0
  · rw [if_neg q1, if_pos q2]
    exact ⟨_, M, M, rfl, by rw [b, if_neg n10, if_neg q1, if_pos q2], I⟩
  · rw [if_neg q1, if_neg q2, gd_r (by omega) (by omega), o_clamp (by omega), f0]
    have m5 : ∀ k v k' v', mI (sI (sI M (2 + 23 + 2 * h + 1) k v) (2 + 23 + 2 * h + 1) k' v') 285 = mI M 285 := fun k v k' v' => by rw [mI_sI_ne (by omega), mI_sI_ne (by omega)]
    refine ⟨_, _, sI (sI (sI (sI M (2 + 23 + 2 * h + 1) 0 x2) (2 + 23 + 2 * h + 1) 1 x3) 285 (12 * h + 8) x3) 285 (12 * h + 7) x2, rfl, ?_, ?_⟩
    · have b' : f_X9_isHall (Int32.ofNat h) (sI (sI M (2 + 23 + 2 * h + 1) 0 x2) (2 + 23 + 2 * h + 1) 1 x3) = 1 := by
        rw [isHall_m hN (by rw [m5]; exact rc_n R), if_pos (by rw [o_toInt (by omega)]; omega)]
      rw [b', if_neg n10, if_neg q1, if_neg q2, show (8 : Int32) = Int32.ofNat 8 from rfl, k12, gd_r (by omega) (by omega), o_clamp (by omega)]
      rw [show (12 : Int32) * Int32.ofNat h + 7 = Int32.ofNat (12 * h + 7) from k12 h 7, becomes_t (by omega), Option.bind_some, mI_sI_k (by omega), m5]
    · refine inv_up I (up_t (up_t (up_t (up_sI (by omega)) (up_sI (by omega))) (up_sI (by omega))) (up_sI (by omega))) ⟨N, K, ?_, ?_⟩
      · rw [mI_285, mI_285, m5]
        refine rc_hall R hh (fun y hy y1 y2 => by rw [mI_sI_ne (by omega), mI_sI_ne (by omega), mI_sI_ne y2, mI_sI_ne y2]) (fun k hk => by rw [zu_ne _ _ (by omega), zu_ne _ _ (by omega)]) ?_
        obtain ⟨q10, q11⟩ := wi_n q1
        obtain ⟨q20, q21⟩ := wi_n q2
        obtain ⟨b0, b1, b2', b3, b4, b5, b6, b7, b8, b9, b10, b11⟩ := bh
        unfold RQ RR BH
        simp (disch := omega) only [mI_sI_ne, mI_sI_k, mI_sI_eq, zu_ne, zu_eq]
        exact ⟨⟨e1, e2, e3, e9, ew⟩, ⟨e4, e5, e6, e7, trivial, trivial, e8⟩, b0, b1, b2', b3, b4, b5, b6, ⟨q10, q11⟩, ⟨q20, q21⟩, b9, b10, b11⟩
      · rw [mI_285, mI_285, m5]
        exact mw_cong (fun k h1 h2 => by rw [zu_ne _ _ (by omega), zu_ne _ _ (by omega)]) R.2.2.2.1 W
theorem op_watch (I : Inv M) (x1 x2 : Int32) (hx : x2 = 0 ∨ x2 = 1) : ∃ r M1 M2, f_X8_watch x1 x2 M = some (r, M1) ∧ f_X9_watch x1 x2 M1 = some (r, M2) ∧ Inv M2 := by
  obtain ⟨N, K, R, W⟩ := I.1
  have hN := R.1.1.1
  unfold f_X8_watch f_X9_watch
  rcases isH R x1 with ⟨a, b⟩ | ⟨h, hh, rfl, a, b⟩
  · rw [a, if_pos rfl]
    exact ⟨_, M, M, rfl, by rw [b, if_pos rfl], I⟩
  obtain ⟨⟨e1, e2, e3, e9, ew⟩, ⟨e4, e5, e6, e7, f0, f1, e8⟩, bh⟩ := hall1 R hh
  have h30 : h < 30 := by omega
  have ref : ∀ M1, mI M1 285 = mI M 285 → (if f_X9_isHall (Int32.ofNat h) M1 = 0 then some ((-1 : Int32), M1) else if x2 = 0 then (f_X9_becomes (12 * Int32.ofNat h + 11) 0 M1).bind fun q7 => if x2 = 0 then (if q7.1 = 0 then some (0, q7.2) else some (1, q7.2)) else if q7.1 = 1 then some (0, q7.2) else some (1, q7.2) else (f_X9_becomes (12 * Int32.ofNat h + 11) 1 M1).bind fun q14 => if x2 = 0 then (if q14.1 = 0 then some (0, q14.2) else some (1, q14.2)) else if q14.1 = 1 then some (0, q14.2) else some (1, q14.2)) = some ((if mI M 285 (12 * h + 11) = x2 then 0 else 1), sI M1 285 (12 * h + 11) x2) := by
    intro M1 hm
    have b' : f_X9_isHall (Int32.ofNat h) M1 = 1 := by
      rw [isHall_m hN (by rw [hm]; exact rc_n R), if_pos (by rw [o_toInt (by omega)]; omega)]
    rw [b', if_neg n10, show (12 : Int32) * Int32.ofNat h + 11 = Int32.ofNat (12 * h + 11) from k12 h 11, becomes_t (by omega), becomes_t (by omega), Option.bind_some, Option.bind_some, hm]
    rcases hx with rfl | rfl
    · rw [if_pos rfl, if_pos rfl]
      dsimp only
      split <;> rfl
    · rw [if_neg n10, if_neg n10]
      dsimp only
      split <;> rfl
  have last : ∀ M1, (∀ y, y ≠ 2 + 23 + 2 * h → mI M1 y = mI M y) → (∀ j, j ≠ 8 → mI M1 (2 + 23 + 2 * h) j = mI M (2 + 23 + 2 * h) j) → mI M1 (2 + 23 + 2 * h) 8 = x2 → Inv (sI M1 285 (12 * h + 11) x2) := by
    intro M1 w0 w1 w2
    have u : Up M (sI M1 285 (12 * h + 11) x2) := ⟨fun y a b c d => by rw [mI_sI_ne d]; exact w0 y (by omega), by rw [mI_sI_ne (by decide), w0 284 (by omega)]⟩
    refine inv_up I u ⟨N, K, ?_, ?_⟩
    · rw [mI_285, w0 285 (by omega)]
      refine rc_hall R hh (fun y hy y1 y2 => by rw [mI_sI_ne (by omega)]; exact w0 y y1) (fun k hk => by rw [zu_ne _ _ (by omega)]) ?_
      obtain ⟨b0, b1, b2', b3, b4, b5, b6, b7, b8, b9, b10, b11⟩ := bh
      unfold RQ RR BH
      rw [mI_sI_ne (by omega), mI_sI_ne (by omega), w0 (2 + 23 + 2 * h + 1) (by omega), w1 1 (by decide), w1 2 (by decide), w1 3 (by decide), w1 9 (by decide), w1 10 (by decide), w1 11 (by decide), w1 4 (by decide), w1 5 (by decide), w1 6 (by decide), w1 7 (by decide), w2]
      simp (disch := omega) only [zu_ne, zu_eq]
      refine ⟨⟨e1, e2, e3, e9, ew⟩, ⟨e4, e5, e6, e7, f0, f1, trivial⟩, b0, b1, b2', b3, b4, b5, b6, b7, b8, b9, b10, ?_⟩
      unfold bt
      rcases hx with rfl | rfl
      · rw [ti_zero]; omega
      · rw [show (1 : Int32).toInt = 1 from rfl]; omega
    · rw [mI_285, w0 285 (by omega)]
      exact mw_cong (fun k h1 h2 => by rw [zu_ne _ _ (by omega)]) R.2.2.2.1 W
  rw [a, if_neg n10, gd_r (by omega) (by omega), o_clamp (by omega), e8]
  by_cases q : mI M 285 (12 * h + 11) = x2
  · rw [if_pos q]
    refine ⟨_, M, _, rfl, ?_, last M (fun _ _ => rfl) (fun _ _ => rfl) (by rw [e8, q])⟩
    have := ref M rfl
    rw [if_pos q] at this
    exact this
  · rw [if_neg q, gd_t hx]
    refine ⟨_, _, _, rfl, ?_, last (sI M (2 + 23 + 2 * h) 8 x2) (fun y hy => mI_sI_ne hy) (fun j hj => mI_sI_k hj) mI_sI_eq⟩
    have := ref (sI M (2 + 23 + 2 * h) 8 x2) (mI_sI_ne (by omega))
    rw [if_neg q] at this
    exact this
/-- laws and what is sent up -/
theorem rc_low (R : RC A 1 S N K) (w1 : mI A' 1 = mI A 1) (wh : ∀ y, 7 ≤ y ∧ y ≤ 18 ∨ 24 < y ∧ y ≤ 84 → mI A' y = mI A y) (ws : ∀ k, k < 360 ∨ 382 ≤ k → S' k = S k) (hl : ∀ k, k < 10 → mI A' 3 k = S' (360 + k) ∧ bt (S' (360 + k)) 0 (if k = 0 then 9 else if k = 3 then 30 else 100)) (hu : RU A' 1 S') : RC A' 1 S' N K := by
  obtain ⟨⟨⟨b1, b2', b3, b4⟩, r1, r2, r3⟩, r4, r5, k1, k2, k3, k4⟩ := R
  have hc : ∀ h, h < N → RQ A' (1 + 1 + 23 + 2 * h) S' (12 * h) ∧ RR A' (1 + 1 + 23 + 2 * h) S' (12 * h) ∧ BH S' (12 * h) := fun h hi => hall_cong (wh _ (by omega)) (wh _ (by omega)) (fun j hj => ws _ (by omega)) ⟨r2 h hi, r4 h hi, b3 h hi⟩
  refine ⟨⟨⟨b1, by rw [ws _ (by omega)]; exact b2', fun h hi => (hc h hi).2.2, fun k hk => (hl k hk).2⟩, by rw [w1]; exact r1, fun h hi => (hc h hi).1, fun k hk => (hl k hk).1⟩, fun h hi => (hc h hi).2.1, hu, k1, by rw [w1]; exact k2, by rw [ws _ (by omega)]; exact k3, fun m hm => ?_⟩
  obtain ⟨L, l1, l2, l3, l4⟩ := k4 m hm
  refine ⟨L, l1, by rw [wh (1 + 17) (by omega)]; exact l2, by rw [ws _ (by omega)]; exact l3, fun k hk => ?_⟩
  rw [wh (1 + 6 + 1 + 1 * m) (by omega), ws _ (by omega)]
  exact l4 k hk
theorem op_set (I : Inv M) (x1 x2 : Int32) : ∃ r M1 M2, f_X8_set x1 x2 M = some (r, M1) ∧ f_X9_set x1 x2 M1 = some (r, M2) ∧ Inv M2 := by
  obtain ⟨N, K, R, W⟩ := I.1
  unfold f_X8_set f_X9_set
  rw [in_w x1 0 9 0 9 rfl rfl, in_w x2 0 9 0 9 rfl rfl, in_w x2 0 30 0 30 rfl rfl, in_w x2 0 100 0 100 rfl rfl]
  by_cases q1 : f_X8_within x1 0 9 = 0
  · rw [if_pos q1]
    exact ⟨_, M, M, rfl, by rw [if_pos q1], I⟩
  obtain ⟨k, hk, rfl⟩ := wi_o (n := 10) q1 (by decide)
  have z0 : (Int32.ofNat k = 0) = (k = 0) := eq_ofNat (b := 0) (by omega) (by omega)
  have z3 : (Int32.ofNat k = 3) = (k = 3) := eq_ofNat (b := 3) (by omega) (by omega)
  have ml : f_X0_mostOfLaw (Int32.ofNat k) = if k = 0 then 9 else if k = 3 then 30 else 100 := by
    unfold f_X0_mostOfLaw
    simp only [z0, z3]
  have tm : (if k = 0 then (9 : Int32) else if k = 3 then 30 else 100).toInt = if k = 0 then 9 else if k = 3 then 30 else 100 := by
    split
    · rfl
    · split <;> rfl
  have ref : ∀ M1, (if f_X8_within (Int32.ofNat k) 0 9 = 0 then some ((-1 : Int32), M1) else if Int32.ofNat k = 0 then (if f_X8_within x2 0 9 = 0 then some ((-1 : Int32), M1) else (f_X9_becomes (360 + Int32.ofNat k) x2 M1).bind fun q25 => some (q25.1, q25.2)) else if Int32.ofNat k = 3 then (if f_X8_within x2 0 30 = 0 then some ((-1 : Int32), M1) else (f_X9_becomes (360 + Int32.ofNat k) x2 M1).bind fun q18 => some (q18.1, q18.2)) else if f_X8_within x2 0 100 = 0 then some ((-1 : Int32), M1) else (f_X9_becomes (360 + Int32.ofNat k) x2 M1).bind fun q11 => some (q11.1, q11.2)) = if f_X8_within x2 0 (if k = 0 then 9 else if k = 3 then 30 else 100) = 0 then some ((-1 : Int32), M1) else some (mI M1 285 (360 + k), sI M1 285 (360 + k) x2) := by
    intro M1
    rw [show (360 : Int32) + Int32.ofNat k = Int32.ofNat (360 + k) from o_add (i := 360), becomes_t (by omega), if_neg q1, Option.bind_some]
    simp only [z0, z3]
    by_cases e0 : k = 0
    · simp only [e0, if_true]
    · by_cases e3 : k = 3
      · simp only [e3, if_true, show ((3 : Nat) = 0) = False by decide, if_false]
      · simp only [e0, e3, if_false]
  rw [if_neg q1, ml]
  by_cases q2 : f_X8_within x2 0 (if k = 0 then 9 else if k = 3 then 30 else 100) = 0
  · rw [if_pos q2]
    exact ⟨_, M, M, rfl, by rw [ref, if_pos q2], I⟩
  · have l3 : mI M 3 k = mI M 285 (360 + k) := R.1.2.2.2 k hk
    rw [if_neg q2, gd_r (by omega) hk, o_clamp (by omega), l3]
    refine ⟨_, _, sI (sI M 3 k x2) 285 (360 + k) x2, rfl, ?_, ?_⟩
    · rw [ref, if_neg q2, mI_sI_ne (by decide)]
    · refine inv_up I (up_t (up_sI (by omega)) (up_sI (by omega))) ⟨N, K, ?_, ?_⟩
      · rw [mI_285, mI_sI_ne (by decide)]
        obtain ⟨q20, q21⟩ := wi_n q2
        rw [ti_zero] at q20
        rw [tm] at q21
        refine rc_low R (by rw [mI_sI_ne (by decide), mI_sI_ne (by decide)]) (fun y hy => by rw [mI_sI_ne (by omega), mI_sI_ne (by omega)]) (fun j hj => zu_ne _ _ (by omega)) (fun j hj => ?_) (fun d hd => ?_)
        · rw [mI_sI_ne (by decide)]
          by_cases e : j = k
          · subst e; rw [mI_sI_eq, zu_eq]; exact ⟨rfl, q20, q21⟩
          · rw [mI_sI_k e, zu_ne _ _ (by omega)]; exact ⟨R.1.2.2.2 j hj, R.1.1.2.2.2 j hj⟩
        · have := R.2.2.1 d hd
          rw [mI_sI_ne (by decide), mI_sI_ne (by decide), mI_sI_ne (by decide), mI_sI_ne (by decide), mI_sI_ne (by decide), mI_sI_ne (by decide), zu_ne _ _ (by omega), zu_ne _ _ (by omega), zu_ne _ _ (by omega)]
          exact this
      · rw [mI_285, mI_sI_ne (by decide)]
        exact mw_cong (fun j h1 h2 => by rw [zu_ne _ _ (by omega)]) R.2.2.2.1 W
theorem op_down (I : Inv M) (x1 : Int32) : ∃ r M1 M2, f_X8_down x1 M = some (r, M1) ∧ f_X9_down x1 M1 = some (r, M2) ∧ Inv M2 := by
  obtain ⟨N, K, R, W⟩ := I.1
  unfold f_X8_down f_X9_down f_X8_isDistrict
  rw [in_w x1 0 3 0 3 rfl rfl]
  by_cases q1 : f_X8_within x1 0 3 = 0
  · rw [if_pos q1]
    exact ⟨_, M, M, rfl, by rw [if_pos q1], I⟩
  obtain ⟨d, hd, rfl⟩ := wi_o (n := 4) q1 (by decide)
  obtain ⟨u0, u1, u2, u3⟩ := R.2.2.1 d hd
  have u0' : mI M 4 d = mI M 285 (370 + 3 * d) := u0
  rw [if_neg q1, gd_r (by omega) hd, o_clamp (by omega), u0']
  refine ⟨mI M 285 (370 + 3 * d), sI M 4 d 0, sI (sI M 4 d 0) 285 (370 + 3 * d) 0, ?_, ?_, ?_⟩
  · rcases b01 u1 with q | q
    · rw [q, if_pos rfl]
    · rw [q, if_neg n10]
  · rw [if_neg q1, k370, becomes_t (by omega), Option.bind_some, mI_sI_ne (by decide)]
  · refine inv_up I (up_t (up_sI (by omega)) (up_sI (by omega))) ⟨N, K, ?_, ?_⟩
    · rw [mI_285, mI_sI_ne (by decide)]
      refine rc_low R (by rw [mI_sI_ne (by decide), mI_sI_ne (by decide)]) (fun y hy => by rw [mI_sI_ne (by omega), mI_sI_ne (by omega)]) (fun j hj => zu_ne _ _ (by omega)) (fun j hj => ?_) (fun e he => ?_)
      · rw [mI_sI_ne (by decide), mI_sI_ne (by decide), zu_ne _ _ (by omega)]
        exact ⟨R.1.2.2.2 j hj, R.1.1.2.2.2 j hj⟩
      · have := R.2.2.1 e he
        show mI _ 4 e = _ ∧ _ ∧ mI _ 5 e = _ ∧ mI _ 6 e = _
        by_cases q : e = d
        · subst q
          simp (disch := omega) only [mI_sI_ne, mI_sI_k, mI_sI_eq, zu_ne, zu_eq]
          exact ⟨trivial, ⟨by decide, by decide⟩, this.2.2⟩
        · simp (disch := omega) only [mI_sI_ne, mI_sI_k, zu_ne]
          exact this
    · rw [mI_285, mI_sI_ne (by decide)]
      exact mw_cong (fun j h1 h2 => by rw [zu_ne _ _ (by omega)]) R.2.2.2.1 W
theorem op_up (I : Inv M) (x1 x2 x3 : Int32) : ∃ r M1 M2, f_X8_up x1 x2 x3 M = some (r, M1) ∧ f_X9_up x1 x2 x3 M1 = some (r, M2) ∧ Inv M2 := by
  obtain ⟨N, K, R, W⟩ := I.1
  unfold f_X8_up f_X9_up f_X8_isDistrict
  rw [in_w x1 0 3 0 3 rfl rfl, in_w x2 0 99999 0 99999 rfl rfl, in_w x3 0 99999 0 99999 rfl rfl]
  by_cases q1 : f_X8_within x1 0 3 = 0
  · rw [if_pos q1]
    exact ⟨_, M, M, rfl, by rw [if_pos q1], I⟩
  by_cases q2 : f_X8_within x2 0 99999 = 0
  · rw [if_neg q1, if_pos q2]
    exact ⟨_, M, M, rfl, by rw [if_neg q1, if_pos q2], I⟩
  by_cases q3 : f_X8_within x3 0 99999 = 0
  · rw [if_neg q1, if_neg q2, if_pos q3]
    exact ⟨_, M, M, rfl, by rw [if_neg q1, if_neg q2, if_pos q3], I⟩
  obtain ⟨d, hd, rfl⟩ := wi_o (n := 4) q1 (by decide)
  obtain ⟨u0, u1, u2, u3⟩ := R.2.2.1 d hd
  have u0' : mI M 4 d = mI M 285 (370 + 3 * d) := u0
  rw [if_neg q1, if_neg q2, if_neg q3, gd_r (by omega) hd, o_clamp (by omega), u0']
  refine ⟨if mI M 285 (370 + 3 * d) = 0 then 1 else 0, sI (sI (sI M 4 d 1) 5 d x2) 6 d x3, sI (sI (sI (sI (sI (sI M 4 d 1) 5 d x2) 6 d x3) 285 (370 + 3 * d + 1) x2) 285 (370 + 3 * d + 2) x3) 285 (370 + 3 * d) 1, ?_, ?_, ?_⟩
  · by_cases q : mI M 285 (370 + 3 * d) = 0
    · rw [if_pos q, if_pos q]
    · rw [if_neg q, if_neg q]
  · have k2 : Int32.ofNat (370 + 3 * d) + 2 = Int32.ofNat (370 + 3 * d + 2) := o_add (j := 2)
    rw [if_neg q1, if_neg q2, if_neg q3, k370, o_succ, k2, gd_r (by omega) (by omega), gd_r (by omega) (by omega), o_clamp (by omega), o_clamp (by omega), becomes_t (by omega), Option.bind_some]
    dsimp only
    rw [mI_sI_k (by omega), mI_sI_k (by omega), mI_sI_ne (by decide), mI_sI_ne (by decide), mI_sI_ne (by decide)]
    rcases b01 u1 with q | q
    · rw [q, if_neg (by decide), if_pos rfl]
    · rw [q, if_pos rfl, if_neg n10]
  · refine inv_up I (up_t (up_t (up_t (up_t (up_t (up_sI (by omega)) (up_sI (by omega))) (up_sI (by omega))) (up_sI (by omega))) (up_sI (by omega))) (up_sI (by omega))) ⟨N, K, ?_, ?_⟩
    · have m5 : mI (sI (sI (sI M 4 d 1) 5 d x2) 6 d x3) 285 = mI M 285 := by rw [mI_sI_ne (by decide), mI_sI_ne (by decide), mI_sI_ne (by decide)]
      rw [mI_285, mI_285, mI_285, m5]
      refine rc_low R (by simp (disch := omega) only [mI_sI_ne]) (fun y hy => by simp (disch := omega) only [mI_sI_ne]) (fun j hj => by rw [zu_ne _ _ (by omega), zu_ne _ _ (by omega), zu_ne _ _ (by omega)]) (fun j hj => ?_) (fun e he => ?_)
      · rw [zu_ne _ _ (by omega), zu_ne _ _ (by omega), zu_ne _ _ (by omega)]
        simp (disch := omega) only [mI_sI_ne]
        exact ⟨R.1.2.2.2 j hj, R.1.1.2.2.2 j hj⟩
      · have := R.2.2.1 e he
        show mI _ 4 e = _ ∧ _ ∧ mI _ 5 e = _ ∧ mI _ 6 e = _
        by_cases q : e = d
        · subst q
          rw [show 371 + 3 * e = 370 + 3 * e + 1 by omega, show 372 + 3 * e = 370 + 3 * e + 2 by omega]
          simp (disch := omega) only [mI_sI_ne, mI_sI_k, mI_sI_eq, zu_ne, zu_eq]
          exact ⟨trivial, ⟨by decide, by decide⟩, trivial, trivial⟩
        · simp (disch := omega) only [mI_sI_ne, mI_sI_k, zu_ne]
          exact this
    · rw [mI_285, mI_285, mI_285, mI_sI_ne (by decide), mI_sI_ne (by decide), mI_sI_ne (by decide)]
      exact mw_cong (fun j h1 h2 => by rw [zu_ne _ _ (by omega), zu_ne _ _ (by omega), zu_ne _ _ (by omega)]) R.2.2.2.1 W
end
