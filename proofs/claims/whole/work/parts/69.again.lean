/-! AGAIN -/
def co (S : Nat → Int32) (h : Nat) : Nat := (S (12 * h + 9)).toInt.toNat / 10 + 1
def wo (S : Nat → Int32) (N h : Nat) : Int32 := f_X9_amount (sh S (12 * h) - mid S N (S (12 * h + 1))) + (if mb S (12 * h) ≤ 0 then 0 else 50)
def bw (S : Nat → Int32) (N : Nat) : Nat → Nat → Int32
  | 0, _ => 0
  | k + 1, b => if ¬ S (12 * (N - 1 - k) + 9) < 0 ∧ co S (N - 1 - k) ≤ b ∧ ¬ bw S N k (b - co S (N - 1 - k)) + wo S N (N - 1 - k) ≤ bw S N k b then bw S N k (b - co S (N - 1 - k)) + wo S N (N - 1 - k) else bw S N k b
def cw (S : Nat → Int32) (N : Nat) : Nat → Nat → Int32
  | 0, _ => 0
  | k + 1, b => if ¬ S (12 * (N - 1 - k) + 9) < 0 ∧ co S (N - 1 - k) ≤ b ∧ ¬ bw S N k (b - co S (N - 1 - k)) + wo S N (N - 1 - k) ≤ bw S N k b then cw S N k (b - co S (N - 1 - k)) ||| ((1 : Int32) <<< (Int32.ofNat (N - 1 - k) &&& 31)) else cw S N k b
theorem bw_h (S : Nat → Int32) (N h b : Nat) (hh : h < N) : bw S N (N - h) b = if ¬ S (12 * h + 9) < 0 ∧ co S h ≤ b ∧ ¬ bw S N (N - (h + 1)) (b - co S h) + wo S N h ≤ bw S N (N - (h + 1)) b then bw S N (N - (h + 1)) (b - co S h) + wo S N h else bw S N (N - (h + 1)) b := by
  rw [show N - h = (N - (h + 1)) + 1 by omega]
  show (if _ then _ else _) = _
  rw [show N - 1 - (N - (h + 1)) = h by omega]
theorem cw_h (S : Nat → Int32) (N h b : Nat) (hh : h < N) : cw S N (N - h) b = if ¬ S (12 * h + 9) < 0 ∧ co S h ≤ b ∧ ¬ bw S N (N - (h + 1)) (b - co S h) + wo S N h ≤ bw S N (N - (h + 1)) b then cw S N (N - (h + 1)) (b - co S h) ||| ((1 : Int32) <<< (Int32.ofNat h &&& 31)) else cw S N (N - (h + 1)) b := by
  rw [show N - h = (N - (h + 1)) + 1 by omega]
  show (if _ then _ else _) = _
  rw [show N - 1 - (N - (h + 1)) = h by omega]
theorem k301 (i b : Nat) : (301 : Int32) * Int32.ofNat i + Int32.ofNat b = Int32.ofNat (301 * i + b) := by
  rw [show (301 : Int32) = Int32.ofNat 301 from rfl, o_mul, o_add]
section
variable {A B M M' : Mem} {c N K h k : Nat} {S : Nat → Int32}
theorem c_fillN {k L : Nat} (hl : ln k = L) (hL : L < 20000) (M : Mem) : ∃ a, f_J7_fill_53178 k 0 M = some (sR M k a) ∧ ∀ j, j < L → a j = 0 := by
  unfold f_J7_fill_53178
  rw [hl]
  refine up_run (L := fun n x (s : Mem) => L_J7_fill_53178_5 n k 0 x (Int32.ofNat L) s) L (fun i s => ∃ a, s = sR M k a ∧ ∀ j, j < i → a j = 0) (fun o => ∃ a, o = some (sR M k a) ∧ ∀ j, j < L → a j = 0) (by omega) ?_ ?_ M ⟨mI M k, (sR_id _ _).symm, fun j hj => absurd hj (by omega)⟩
  · rintro n s ⟨a, rfl, ha⟩
    simp (disch := omega) only [L_J7_fill_53178_5, le_t, if_true]
    exact ⟨a, rfl, ha⟩
  · rintro n i s hi ⟨a, rfl, ha⟩
    left
    refine ⟨sR M k (zu a i 0), ⟨_, rfl, fun j hj => ?_⟩, ?_⟩
    · unfold zu
      by_cases e : j = i
      · rw [if_pos e]
      · rw [if_neg e]; exact ha j (by omega)
    · simp (disch := omega) only [L_J7_fill_53178_5, le_f, if_false, hl, ↓gd_r, o_clamp, o_succ]
      rw [sI_sR, mI_sR_eq, sR_sR]
theorem co_e (b : BH S (12 * h)) (hm : ¬ S (12 * h + 9) < 0) : S (12 * h + 9) / 10 + 1 = Int32.ofNat (co S h) ∧ co S h ≤ 1000 := by
  obtain ⟨b0, b1, b2', b3, b4, b5, b6, b7, b8, b9, b10, b11⟩ := b
  unfold bt at b9
  rw [Int32.lt_iff_toInt_lt, ti_zero] at hm
  have e := of_toInt (x := S (12 * h + 9)) (by omega)
  unfold co
  refine ⟨?_, by omega⟩
  have hm' : (S (12 * h + 9)).toInt.toNat ≤ 9999 := by omega
  generalize (S (12 * h + 9)).toInt.toNat = m at e hm' ⊢
  rw [e, show (10 : Int32) = Int32.ofNat 10 from rfl, o_div (by omega) (by omega), o_succ]
def FrA (B M : Mem) (x y : Nat) : Prop := ∀ z, z ≠ x → z ≠ y → mI M z = mI B z
theorem jm_lt {j n : Nat} (hj : j < 2147483648) (hn : n < 2147483648) : (Int32.ofNat j - 1 < Int32.ofNat n) = (j ≤ n) := by
  have z1 : (1 : Int32).toInt = 1 := rfl
  rw [Int32.lt_iff_toInt_lt, ti_sub (by rw [o_toInt hj, z1]; omega) (by rw [o_toInt hj, z1]; omega), o_toInt hj, o_toInt hn, z1]
  apply propext; omega
/-- one hall considered -/
theorem consider_t (S : Nat → Int32) (N h bud : Nat) (hN : N ≤ 30) (hh : h < N) (hm : ¬ S (12 * h + 9) < 0) (hc : co S h ≤ 1000) (hb : bud ≤ 300) (B : Mem) : ∀ j n (M : Mem), j ≤ bud + 1 → j < n → FrA B M 257 258 → (∀ b, b ≤ bud → mI M 257 b = (if j ≤ b then bw S N (N - h) b else bw S N (N - (h + 1)) b) ∧ mI M 258 b = (if j ≤ b then cw S N (N - h) b else cw S N (N - (h + 1)) b)) → ∃ M', L_X4_consider_4 n (Int32.ofNat h) (Int32.ofNat (co S h)) (wo S N h) (Int32.ofNat j - 1) M = some M' ∧ FrA B M' 257 258 ∧ ∀ b, b ≤ bud → mI M' 257 b = bw S N (N - h) b ∧ mI M' 258 b = cw S N (N - h) b := by
  have c1 : 1 ≤ co S h := by unfold co; omega
  intro j
  induction j with
  | zero =>
    intro n M hj hn hf hv
    obtain ⟨m, rfl⟩ : ∃ m, n = m + 1 := ⟨n - 1, by omega⟩
    unfold L_X4_consider_4
    rw [if_pos (by rw [jm_lt (by omega) (by omega)]; omega)]
    exact ⟨M, rfl, hf, fun b hb' => by have := hv b hb'; rw [if_pos (by omega), if_pos (by omega)] at this; exact this⟩
  | succ j ih =>
    intro n M hj hn hf hv
    obtain ⟨m, rfl⟩ : ∃ m, n = m + 1 := ⟨n - 1, by omega⟩
    by_cases q : j + 1 ≤ co S h
    · unfold L_X4_consider_4
      rw [if_pos (by rw [jm_lt (by omega) (by omega)]; exact q)]
      refine ⟨M, rfl, hf, fun b hb' => ?_⟩
      have := hv b hb'
      by_cases q2 : j + 1 ≤ b
      · rw [if_pos q2, if_pos q2] at this; exact this
      · rw [if_neg q2, if_neg q2] at this
        rw [bw_h S N h b hh, cw_h S N h b hh, if_neg (fun e => by have := e.2.1; omega), if_neg (fun e => by have := e.2.1; omega)]
        exact this
    · unfold L_X4_consider_4 B_X4_consider_69
      rw [if_neg (by rw [jm_lt (by omega) (by omega)]; exact q), o_pred]
      have hsub : Int32.ofNat j - Int32.ofNat (co S h) = Int32.ofNat (j - co S h) := o_sub (by omega) (by omega)
      rw [hsub, gd_r (by omega) (by omega), gd_r (by omega) (by omega), o_clamp (by omega), o_clamp (by omega), show Int32.ofNat j + -1 = Int32.ofNat j - 1 from (Int32.sub_eq_add_neg ..).symm]
      have v1 := hv j (by omega)
      have v2 := hv (j - co S h) (by omega)
      rw [if_neg (by omega), if_neg (by omega)] at v1 v2
      rw [v1.1, v2.1]
      by_cases q3 : bw S N (N - (h + 1)) (j - co S h) + wo S N h ≤ bw S N (N - (h + 1)) j
      · rw [if_pos q3]
        refine ih m M (by omega) (by omega) hf (fun b hb' => ?_)
        have := hv b hb'
        by_cases q4 : b = j
        · subst q4
          rw [if_pos (by omega), if_pos (by omega), bw_h S N h b hh, cw_h S N h b hh, if_neg (fun e => e.2.2 q3), if_neg (fun e => e.2.2 q3)]
          exact v1
        · by_cases q5 : j + 1 ≤ b
          · rw [if_pos q5, if_pos q5] at this; rw [if_pos (by omega), if_pos (by omega)]; exact this
          · rw [if_neg q5, if_neg q5] at this; rw [if_neg (by omega), if_neg (by omega)]; exact this
      · rw [if_neg q3, mI_sI_ne (by decide), v2.2]
        refine ih m _ (by omega) (by omega) (fun z z1 z2 => ?_) (fun b hb' => ?_)
        · rw [mI_sI_ne z2, mI_sI_ne z1]; exact hf z z1 z2
        · have := hv b hb'
          rw [mI_sI_ne (by decide : (257 : Nat) ≠ 258)]
          by_cases q4 : b = j
          · subst q4
            rw [mI_sI_eq, mI_sI_eq, if_pos (by omega), if_pos (by omega), bw_h S N h b hh, cw_h S N h b hh, if_pos ⟨hm, by omega, q3⟩, if_pos ⟨hm, by omega, q3⟩]
            exact ⟨rfl, rfl⟩
          · rw [mI_sI_k q4, mI_sI_k q4, mI_sI_ne (by decide : (258 : Nat) ≠ 257)]
            by_cases q5 : j + 1 ≤ b
            · rw [if_pos q5, if_pos q5] at this; rw [if_pos (by omega), if_pos (by omega)]; exact this
            · rw [if_neg q5, if_neg q5] at this; rw [if_neg (by omega), if_neg (by omega)]; exact this
theorem plan_t (R : CQ B 1 S N) {bud : Nat} (hb : bud ≤ 300) : ∀ j n (M : Mem), j ≤ N → j < n → FrA B M 257 258 → (∀ b, b ≤ bud → mI M 257 b = bw S N (N - j) b ∧ mI M 258 b = cw S N (N - j) b) → ∃ M', L_X4_plan_37 n 1 (Int32.ofNat bud) (mid S N 0) (mid S N 1) (Int32.ofNat j - 1) M = some M' ∧ FrA B M' 257 258 ∧ ∀ b, b ≤ bud → mI M' 257 b = bw S N N b ∧ mI M' 258 b = cw S N N b := by
  have hN := cq_N R
  intro j
  induction j with
  | zero =>
    intro n M hj hn hf hv
    obtain ⟨m, rfl⟩ : ∃ m, n = m + 1 := ⟨n - 1, by omega⟩
    unfold L_X4_plan_37
    rw [if_pos (by decide)]
    exact ⟨M, rfl, hf, hv⟩
  | succ j ih =>
    intro n M hj hn hf hv
    obtain ⟨m, rfl⟩ : ∃ m, n = m + 1 := ⟨n - 1, by omega⟩
    have R' : CQ M 1 S N := cq_cong R (fun y hy => hf y (by omega) (by omega))
    obtain ⟨e1, e2, e3, e9, ew⟩ := cq_h R' (h := j) (by omega)
    unfold L_X4_plan_37 B_X4_plan_109
    rw [o_pred, if_neg (show ¬ Int32.ofNat j < 0 from fun h => by have := (o_lt (j := 0) (by omega) (by omega)).mp h; omega), gd_r (by omega) (by omega), o_clamp (by omega), e9, show Int32.ofNat j + -1 = Int32.ofNat j - 1 from (Int32.sub_eq_add_neg ..).symm]
    by_cases hm : S (12 * j + 9) < 0
    · rw [if_pos hm, if_neg n10]
      refine ih m M (by omega) (by omega) hf (fun b hb' => ?_)
      have := hv b hb'
      rw [bw_h S N j b (by omega), cw_h S N j b (by omega), if_neg (fun e => e.1 hm), if_neg (fun e => e.1 hm)]
      exact this
    · obtain ⟨e10, e11⟩ := ew hm
      have bh := bq_h R.1 (h := j) (by omega)
      obtain ⟨ce, c1⟩ := co_e bh hm
      rw [if_neg hm, if_pos rfl, c_share e10 e11, Option.bind_some, e10, c_must bh hm e1 e10, ce, e2]
      have wk : ∀ z : Int32, S (12 * j + 1) = z → f_X4_worthOf (sh S (12 * j) - mid S N z) (mb S (12 * j)) = wo S N j := fun z hz => by
        unfold f_X4_worthOf wo
        rw [jabs_e, hz]
        by_cases q : mb S (12 * j) ≤ 0
        · rw [if_pos q, if_pos q]
        · rw [if_neg q, if_neg q]
      have con : ∀ f : Mem → Option Mem, (∀ M1, f M1 = L_X4_plan_37 m 1 (Int32.ofNat bud) (mid S N 0) (mid S N 1) (Int32.ofNat j - 1) M1) → ∃ M', ((f_X4_consider (Int32.ofNat j) (Int32.ofNat (co S j)) (wo S N j) (Int32.ofNat bud) M).bind f) = some M' ∧ FrA B M' 257 258 ∧ ∀ b, b ≤ bud → mI M' 257 b = bw S N N b ∧ mI M' 258 b = cw S N N b := by
        intro f hf'
        unfold f_X4_consider
        rw [show Int32.ofNat bud = Int32.ofNat (bud + 1) - 1 from (o_pred bud).symm]
        obtain ⟨M1, c2, c3, c4⟩ := consider_t S N j bud hN (by omega) hm c1 hb B (bud + 1) FU M (by omega) (by rw [FU_eq]; omega) hf (fun b hb' => by rw [if_neg (by omega), if_neg (by omega)]; exact hv b hb')
        rw [c2, Option.bind_some, hf']
        exact ih m M1 (by omega) (by omega) c3 c4
      rcases b01 bh.2.1 with q | q
      · rw [if_neg (by rw [q]; decide), wk 0 q]; exact con _ (fun M1 => rfl)
      · rw [if_pos q, wk 1 q]; exact con _ (fun M1 => rfl)
theorem c_again (R : RC M 1 S N K) {bud : Nat} (hb : bud ≤ 300) : ∃ M', f_X4_plan 1 (Int32.ofNat bud) M = some M' ∧ (∀ z, z ≠ 257 → z ≠ 258 → z ≠ 24 → mI M' z = mI M z) ∧ ∀ b, b ≤ bud → mI M' 257 b = bw S N N b ∧ mI M' 258 b = cw S N N b := by
  have hN := cq_N R.1
  unfold f_X4_plan
  obtain ⟨a1, e1, h1⟩ := c_fillN (k := 257) (L := 301) (by decide) (by omega) M
  rw [e1, Option.bind_some]
  obtain ⟨a2, e2, h2⟩ := c_fillN (k := 258) (L := 301) (by decide) (by omega) (sR M 257 a1)
  rw [e2, Option.bind_some]
  have R2 : CQ (sR (sR M 257 a1) 258 a2) 1 S N := cq_sR (cq_sR R.1 (by omega) a1) (by omega) a2
  obtain ⟨a3, e3⟩ := c_mid R2 0
  rw [e3, Option.bind_some]
  have R3 : CQ (sR (sR (sR M 257 a1) 258 a2) (1 + 23) a3) 1 S N := cq_sR R2 (by omega) a3
  obtain ⟨a4, e4⟩ := c_mid R3 1
  dsimp only
  rw [e4, Option.bind_some]
  have R4 : CQ (sR (sR (sR (sR M 257 a1) 258 a2) (1 + 23) a3) (1 + 23) a4) 1 S N := cq_sR R3 (by omega) a4
  dsimp only
  rw [cq_n R4]
  obtain ⟨M', p1, p2, p3⟩ := plan_t R4 hb N FU (sR (sR (sR (sR M 257 a1) 258 a2) (1 + 23) a3) (1 + 23) a4) (by omega) (by rw [FU_eq]; omega) (fun _ _ _ => rfl) (fun b hb' => by
    rw [mI_sR_ne _ _ (by decide : (257 : Nat) ≠ 1 + 23), mI_sR_ne _ _ (by decide : (257 : Nat) ≠ 1 + 23), mI_sR_ne _ _ (by decide : (257 : Nat) ≠ 258), mI_sR_eq, mI_sR_ne _ _ (by decide : (258 : Nat) ≠ 1 + 23), mI_sR_ne _ _ (by decide : (258 : Nat) ≠ 1 + 23), mI_sR_eq, h1 b (by omega), h2 b (by omega), Nat.sub_self]
    exact ⟨rfl, rfl⟩)
  refine ⟨M', p1, fun z z1 z2 z3 => ?_, p3⟩
  rw [p2 z z1 z2, mI_sR_ne _ _ z3, mI_sR_ne _ _ z3, mI_sR_ne _ _ z2, mI_sR_ne _ _ z1]
theorem m_worth (R : BQ (mI B 285) N) (hh : h < 30) : ∃ a, f_X9_worthAgain (Int32.ofNat h) B = some (wo (mI B 285) N h, sR B 294 a) := by
  obtain ⟨a, e⟩ := m_left R hh
  refine ⟨a, ?_⟩
  unfold f_X9_worthAgain wo
  rw [e, Option.bind_some]
  dsimp only
  rw [m_must hh, Option.bind_some, mI_sR_ne _ _ (by decide)]
  by_cases q : mb (mI B 285) (12 * h) ≤ 0
  · rw [if_pos q, if_pos q]
  · rw [if_neg q, if_neg q]
def WF_ (S : Nat → Int32) (N : Nat) (w : Nat → Int32) (j : Nat) : Prop := ∀ i b, j ≤ i → i ≤ N → b ≤ 300 → w (301 * i + b) = bw S N (N - i) b
theorem row_t (R : BQ (mI B 285) N) (hh : h < N) (x3 : Nat) (x4 : Int32) (hx : ¬ mI B 285 (12 * h + 9) < 0 → x3 = co (mI B 285) h ∧ x4 = wo (mI B 285) N h) (hx3 : x3 ≤ 1000) (rc : Int32 → Mem → Option Mem) : ∀ k n b (M : Mem), b + k = 301 → k < n → FrA B M 294 295 → WF_ (mI B 285) N (mI M 295) (h + 1) → (∀ b', b' < b → mI M 295 (301 * h + b') = bw (mI B 285) N (N - h) b') → ∃ M', L_X9_findAgain_85 rc n (Int32.ofNat h) (Int32.ofNat x3) x4 (Int32.ofNat b) M = rc (Int32.ofNat h - 1) M' ∧ FrA B M' 294 295 ∧ WF_ (mI B 285) N (mI M' 295) h := by
  have hN := R.1
  intro k
  induction k with
  | zero =>
    intro n b M hb hn hf hw hv
    obtain ⟨m, rfl⟩ : ∃ m, n = m + 1 := ⟨n - 1, by omega⟩
    unfold L_X9_findAgain_85 B_X9_findAgain_192
    rw [if_pos (show (301 : Int32) ≤ Int32.ofNat b from (o_le (i := 301) (by omega) (by omega)).mpr (by omega)), show Int32.ofNat h + -1 = Int32.ofNat h - 1 from (Int32.sub_eq_add_neg ..).symm]
    refine ⟨M, rfl, hf, fun i b' hi hi' hb' => ?_⟩
    by_cases e : i = h
    · subst e; exact hv b' (by omega)
    · exact hw i b' (by omega) hi' hb'
  | succ k ih =>
    intro n b M hb hn hf hw hv
    obtain ⟨m, rfl⟩ : ∃ m, n = m + 1 := ⟨n - 1, by omega⟩
    have h30 : h < 30 := by omega
    have m5 : mI M 285 = mI B 285 := hf 285 (by decide) (by decide)
    have step : ∀ x6 : Int32, x6 = bw (mI B 285) N (N - h) b → ∃ M', B_X9_findAgain_171 rc (L_X9_findAgain_85 rc m) (Int32.ofNat h) (Int32.ofNat x3) x4 (Int32.ofNat b) x6 M = rc (Int32.ofNat h - 1) M' ∧ FrA B M' 294 295 ∧ WF_ (mI B 285) N (mI M' 295) h := by
      intro x6 hx6
      unfold B_X9_findAgain_171
      rw [k301, gd_r (by omega) (by omega), o_clamp (by omega), o_succ]
      refine ih m (b + 1) _ (by omega) (by omega) (fun z z1 z2 => ?_) (fun i b' hi hi' hb' => ?_) (fun b' hb' => ?_)
      · rw [mI_sI_ne z2]; exact hf z z1 z2
      · rw [mI_sI_k (by omega)]; exact hw i b' hi hi' hb'
      · by_cases e : b' = b
        · subst e; rw [mI_sI_eq, hx6]
        · rw [mI_sI_k (by omega)]; exact hv b' (by omega)
    have old : mI M 295 (301 * (h + 1) + b) = bw (mI B 285) N (N - (h + 1)) b := hw (h + 1) b (by omega) (by omega) (by omega)
    unfold L_X9_findAgain_85
    rw [if_neg (show ¬ (301 : Int32) ≤ Int32.ofNat b from fun q => by have := (o_le (i := 301) (by omega) (by omega)).mp q; omega), o_succ, k301, gd_r (by omega) (by omega), o_clamp (by omega), hs h30, Option.bind_some, m5, old]
    by_cases hm : mI B 285 (12 * h + 9) < 0
    · rw [if_pos hm, if_pos rfl]
      refine step _ ?_
      rw [bw_h _ N h b hh, if_neg (fun e => e.1 hm)]
    · obtain ⟨hx1, hx2⟩ := hx hm
      rw [if_neg hm, if_neg n10]
      by_cases q1 : b < x3
      · rw [if_pos ((o_lt (by omega) (by omega)).mpr q1)]
        refine step _ ?_
        rw [bw_h _ N h b hh, if_neg (fun e => by have := e.2.1; omega)]
      · have es : Int32.ofNat (301 * (h + 1) + b) - Int32.ofNat x3 = Int32.ofNat (301 * (h + 1) + (b - x3)) := by
          rw [o_sub (by omega) (by omega)]; congr 1; omega
        rw [if_neg (by rw [o_lt (by omega) (by omega)]; exact q1), es, gd_r (by omega) (by omega), o_clamp (by omega), hw (h + 1) (b - x3) (by omega) (by omega) (by omega)]
        by_cases q2 : bw (mI B 285) N (N - (h + 1)) (b - x3) + x4 ≤ bw (mI B 285) N (N - (h + 1)) b
        · rw [if_pos q2]
          refine step _ ?_
          rw [bw_h _ N h b hh, if_neg (fun e => e.2.2 (by rw [← hx1, ← hx2]; exact q2))]
        · rw [if_neg q2]
          refine step _ ?_
          rw [bw_h _ N h b hh, if_pos ⟨hm, by omega, by rw [← hx1, ← hx2]; exact q2⟩, hx1, hx2]
theorem find_t (R : BQ (mI B 285) N) : ∀ j n (M : Mem), j ≤ N → j < n → FrA B M 294 295 → WF_ (mI B 285) N (mI M 295) j → ∃ M', L_X9_findAgain_41 n (Int32.ofNat j - 1) M = some M' ∧ FrA B M' 294 295 ∧ WF_ (mI B 285) N (mI M' 295) 0 := by
  have hN := R.1
  intro j
  induction j with
  | zero =>
    intro n M hj hn hf hw
    obtain ⟨m, rfl⟩ : ∃ m, n = m + 1 := ⟨n - 1, by omega⟩
    unfold L_X9_findAgain_41
    rw [if_pos (by decide)]
    exact ⟨M, rfl, hf, hw⟩
  | succ j ih =>
    intro n M hj hn hf hw
    obtain ⟨m, rfl⟩ : ∃ m, n = m + 1 := ⟨n - 1, by omega⟩
    have h30 : j < 30 := by omega
    have m5 : mI M 285 = mI B 285 := hf 285 (by decide) (by decide)
    unfold L_X9_findAgain_41
    rw [o_pred, if_neg (show ¬ Int32.ofNat j < 0 from fun h => by have := (o_lt (j := 0) (by omega) (by omega)).mp h; omega), hs h30, Option.bind_some, Option.bind_some, m5]
    by_cases hm : mI B 285 (12 * j + 9) < 0
    · rw [if_pos hm, if_pos rfl, if_pos rfl]
      obtain ⟨M1, e1, f1, w1⟩ := row_t R (by omega) 0 0 (fun h => absurd hm h) (by omega) (L_X9_findAgain_41 m) 301 FU 0 M (by omega) (by rw [FU_eq]; omega) hf hw (fun b' hb' => absurd hb' (by omega))
      rw [show L_X9_findAgain_85 (L_X9_findAgain_41 m) FU (Int32.ofNat j) 0 0 0 M = _ from e1]
      exact ih m M1 (by omega) (by omega) f1 w1
    · rw [if_neg hm, if_neg n10]
      obtain ⟨ce, c1⟩ := co_e (bq_h R (h := j) (by omega)) hm
      unfold f_X9_costAgain
      rw [g9 h30, Option.bind_some, Option.bind_some, m5, ce, Option.bind_some, if_neg n10]
      obtain ⟨a, ea⟩ := m_worth (B := M) (by rw [m5]; exact R) h30
      rw [ea, Option.bind_some, m5]
      dsimp only
      obtain ⟨M1, e1, f1, w1⟩ := row_t R (by omega) (co (mI B 285) j) (wo (mI B 285) N j) (fun _ => ⟨rfl, rfl⟩) c1 (L_X9_findAgain_41 m) 301 FU 0 (sR M 294 a) (by omega) (by rw [FU_eq]; omega) (fun z z1 z2 => by rw [mI_sR_ne _ _ z1]; exact hf z z1 z2) (by rw [mI_sR_ne _ _ (by decide)]; exact hw) (fun b' hb' => absurd hb' (by omega))
      rw [show L_X9_findAgain_85 (L_X9_findAgain_41 m) FU (Int32.ofNat j) (Int32.ofNat (co (mI B 285) j)) (wo (mI B 285) N j) 0 (sR M 294 a) = _ from e1]
      exact ih m M1 (by omega) (by omega) f1 w1
theorem m_find (R : BQ (mI B 285) N) : ∃ M', f_X9_findAgain B = some M' ∧ FrA B M' 294 295 ∧ WF_ (mI B 285) N (mI M' 295) 0 := by
  have hN := R.1
  unfold f_X9_findAgain
  rw [R.2.1]
  refine up_run (L := fun n x (s : Mem) => L_X9_findAgain_11 n (Int32.ofNat N) x s) 301 (fun i s => FrA B s 294 295 ∧ ∀ b, b < i → mI s 295 (301 * N + b) = 0) (fun o => ∃ M', o = some M' ∧ FrA B M' 294 295 ∧ WF_ (mI B 285) N (mI M' 295) 0) (by omega) ?_ ?_ B ⟨fun _ _ _ => rfl, fun b hb => absurd hb (by omega)⟩
  · rintro n s ⟨hf, hv⟩
    simp (disch := omega) only [L_X9_findAgain_11, B_X9_findAgain_37, show (301 : Int32) = Int32.ofNat 301 from rfl, le_t, if_true]
    refine find_t R N FU s (Nat.le_refl _) (by rw [FU_eq]; omega) hf (fun i b hi hi' hb => ?_)
    have : i = N := by omega
    subst this
    rw [hv b (by omega), Nat.sub_self]; rfl
  · rintro n i s hi ⟨hf, hv⟩
    left
    refine ⟨sI s 295 (301 * N + i) 0, ⟨fun z z1 z2 => by rw [mI_sI_ne z2]; exact hf z z1 z2, fun b hb => ?_⟩, ?_⟩
    · by_cases e : b = i
      · subst e; rw [mI_sI_eq]
      · rw [mI_sI_k (by omega)]; exact hv b (by omega)
    · simp only [L_X9_findAgain_11]
      rw [if_neg (show ¬ (301 : Int32) ≤ Int32.ofNat i from fun q => by have := (o_le (i := 301) (by omega) (by omega)).mp q; omega), k301, gd_r (by omega) (by omega), o_clamp (by omega), o_succ]
theorem m_bits (R : BQ (mI B 285) N) (hf : FrA B M 294 295) (hw : WF_ (mI B 285) N (mI M 295) 0) {bud : Nat} (hb : bud ≤ 300) : L_X9_again_47 FU 0 (Int32.ofNat bud) 0 M = some (cw (mI B 285) N N bud, M) := by
  have hN := R.1
  have m5 : mI M 285 = mI B 285 := hf 285 (by decide) (by decide)
  have en : mI M 285 1192 = Int32.ofNat N := by rw [m5]; exact R.2.1
  refine up_run (L := fun n x (s : Int32 × Int32) => L_X9_again_47 n s.1 s.2 x M) N (fun i s => ∃ b, b ≤ 300 ∧ s.2 = Int32.ofNat b ∧ cw (mI B 285) N (N - i) b ||| s.1 = cw (mI B 285) N N bud) (fun o => o = some (cw (mI B 285) N N bud, M)) (by omega) ?_ ?_ (0, Int32.ofNat bud) ⟨bud, hb, rfl, by show cw _ N N bud ||| 0 = _; exact Int32.or_zero⟩
  · rintro n ⟨s1, s2⟩ ⟨b, b1, b2', b3⟩
    dsimp only at b2' b3
    simp (disch := omega) only [L_X9_again_47, en, le_t, if_true]
    rw [Nat.sub_self] at b3
    rw [← b3]
    show some (s1, M) = some (0 ||| s1, M)
    rw [Int32.zero_or]
  · rintro n i ⟨s1, s2⟩ hi ⟨b, b1, b2', b3⟩
    left
    dsimp only at b2' b3
    subst b2'
    have h30 : i < 30 := by omega
    simp only [L_X9_again_47, B_X9_again_114]
    rw [en, if_neg (by rw [o_le (by omega) (by omega)]; omega), o_succ, k301, k301, gd_r (by omega) (by omega), gd_r (by omega) (by omega), o_clamp (by omega), o_clamp (by omega), hw (i + 1) b (by omega) (by omega) b1, hw i b (by omega) (by omega) b1]
    have e1 := bw_h (mI B 285) N i b hi
    have e2 := cw_h (mI B 285) N i b hi
    by_cases q : ¬ mI B 285 (12 * i + 9) < 0 ∧ co (mI B 285) i ≤ b ∧ ¬ bw (mI B 285) N (N - (i + 1)) (b - co (mI B 285) i) + wo (mI B 285) N i ≤ bw (mI B 285) N (N - (i + 1)) b
    · rw [if_pos q] at e1 e2
      rw [e1, if_neg (fun e => q.2.2 (by rw [← e, Int32.le_iff_toInt_le]; omega))]
      obtain ⟨ce, c1⟩ := co_e (bq_h R hi) q.1
      unfold f_X9_costAgain
      rw [g9 h30, Option.bind_some, Option.bind_some, m5, ce, o_sub q.2.1 (by omega)]
      refine ⟨(_, _), ⟨b - co (mI B 285) i, by omega, rfl, ?_⟩, rfl⟩
      rw [← b3, e2]
      dsimp only
      rw [Int32.or_assoc, Int32.or_comm s1]
    · rw [if_neg q] at e1 e2
      rw [e1, if_pos rfl]
      refine ⟨(s1, Int32.ofNat b), ⟨b, b1, rfl, ?_⟩, rfl⟩
      rw [← b3, e2]
theorem op_again (R : RC M 1 (mI M 285) N K) (x1 x2 : Int32) : ∃ r M1 M2, f_X8_again x1 x2 M = some (r, M1) ∧ f_X9_again x1 x2 M1 = some (r, M2) ∧ Sm M M2 := by
  unfold f_X8_again f_X9_again
  rw [in_w x1 0 300 0 300 rfl rfl, in_w x2 0 1 0 1 rfl rfl]
  have hN := R.1.1.1
  by_cases q : f_X8_within x1 0 300 = 0
  · rw [if_pos q]
    exact ⟨_, M, M, rfl, by rw [if_pos q], sm_r M⟩
  by_cases q2 : f_X8_within x2 0 1 = 0
  · rw [if_neg q, if_pos q2]
    exact ⟨_, M, M, rfl, by rw [if_neg q, if_pos q2], sm_r M⟩
  obtain ⟨bud, hb, rfl⟩ := wi_o (n := 301) q (by decide)
  obtain ⟨M1, e1, f1, v1⟩ := c_again R (bud := bud) (by omega)
  have s1 : Sm M M1 := ⟨fun y hy h4 => f1 y (fun e => hy (by rw [e]; unfold scr; omega)) (fun e => hy (by rw [e]; unfold scr; omega)) (fun e => hy (by rw [e]; unfold scr; omega)), by rw [f1 284 (by decide) (by decide) (by decide)]⟩
  have R1 := rc_sm R s1
  obtain ⟨M2, e2, f2, w2⟩ := m_find R1.1.1
  have s2 : Sm M1 M2 := ⟨fun y hy h4 => f2 y (fun e => hy (by rw [e]; unfold scr; omega)) (fun e => hy (by rw [e]; unfold scr; omega)), by rw [f2 284 (by decide) (by decide)]⟩
  obtain ⟨v2, v3⟩ := v1 bud (Nat.le_refl _)
  have v2' : mI M1 257 (Int32.ofNat bud).toNatClampNeg = bw (mI M 285) N N bud := by rw [o_clamp (by omega)]; exact v2
  have v3' : mI M1 258 (Int32.ofNat bud).toNatClampNeg = cw (mI M 285) N N bud := by rw [o_clamp (by omega)]; exact v3
  rw [if_neg q, if_neg q2, e1, Option.bind_some, gd_r (by omega) (by omega), gd_r (by omega) (by omega), v2', v3']
  by_cases q3 : x2 = 0
  · rw [if_pos q3]
    refine ⟨_, M1, M2, rfl, ?_, sm_t s1 s2⟩
    have := w2 0 bud (by omega) (by omega) (by omega)
    rw [if_neg q, if_neg q2, e2, Option.bind_some, if_pos q3, gd_r (by omega) (by omega), o_clamp (by omega), show bud = 301 * 0 + bud by omega, this, sm_285 s1]
    rw [show 301 * 0 + bud = bud by omega]; rfl
  · rw [if_neg q3]
    refine ⟨_, M1, M2, rfl, ?_, sm_t s1 s2⟩
    rw [if_neg q, if_neg q2, e2, Option.bind_some, if_neg q3, m_bits R1.1.1 f2 w2 (by omega), sm_285 s1]
end
