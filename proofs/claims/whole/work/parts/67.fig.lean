/-! FIGURES, ODDS, MEASURES -/
theorem lt_ofNat {a b : Nat} (ha : a < 2147483648) (hb : b < 2147483648) : (Int32.ofNat a < Int32.ofNat b) = (a < b) := propext (o_lt ha hb)
theorem le_ofNat {a b : Nat} (ha : a < 2147483648) (hb : b < 2147483648) : (Int32.ofNat a ≤ Int32.ofNat b) = (a ≤ b) := propext (o_le ha hb)
theorem eq_ofNat {a b : Nat} (ha : a < 2147483648) (hb : b < 2147483648) : (Int32.ofNat a = Int32.ofNat b) = (a = b) := propext (o_inj ha hb)
theorem o_sub {a b : Nat} (h : b ≤ a) (ha : a < 2147483648) : Int32.ofNat a - Int32.ofNat b = Int32.ofNat (a - b) := by
  apply Int32.toInt_inj.mp
  rw [ti_sub (by rw [o_toInt ha, o_toInt (by omega)]; omega) (by rw [o_toInt ha, o_toInt (by omega)]; omega), o_toInt ha, o_toInt (by omega), o_toInt (by omega)]
  omega
theorem jrem_o {a b : Nat} (ha : a < 2147483648) (hb : b < 2147483648) : jrem (Int32.ofNat a) (Int32.ofNat b) = Int32.ofNat (a % b) := by
  unfold jrem
  have h1 : a / b * b ≤ a := Nat.div_mul_le_self a b
  rw [o_div ha hb, o_mul, o_sub h1 ha]
  congr 1
  have := Nat.div_add_mod' a b
  omega
theorem lead_t (M : Mem) : ∀ j n n' x s, x < 10 ^ (j + 1) → j + s ≤ 3 → j < n → j < n' → ∃ v, v < 10 ∧ L_X1_firstFigure_25 n (Int32.ofNat x) (Int32.ofNat s) M = some (Int32.ofNat v) ∧ L_X9_figureOf_2 n' 1 (Int32.ofNat x) = some (Int32.ofNat v)
  | 0, n, n', x, s, hx, hs, hn, hn' => by
    obtain ⟨m, rfl⟩ : ∃ m, n = m + 1 := ⟨n - 1, by omega⟩
    obtain ⟨m', rfl⟩ : ∃ m, n' = m + 1 := ⟨n' - 1, by omega⟩
    have hx' : x < 10 := by simpa using hx
    refine ⟨x, hx', ?_, ?_⟩
    · unfold L_X1_firstFigure_25
      rw [show (10 : Int32) = Int32.ofNat 10 from rfl, if_pos (show Int32.ofNat x < Int32.ofNat 10 from (o_lt (by omega) (by omega)).mpr hx')]
      split <;> rfl
    · unfold L_X9_figureOf_2
      rw [if_pos rfl, show (9 : Int32) = Int32.ofNat 9 from rfl, if_pos ((o_le (by omega) (by omega)).mpr (by omega)), show (10 : Int32) = Int32.ofNat 10 from rfl, jrem_o (by omega) (by omega), Nat.mod_eq_of_lt hx']
  | j + 1, n, n', x, s, hx, hs, hn, hn' => by
    obtain ⟨m, rfl⟩ : ∃ m, n = m + 1 := ⟨n - 1, by omega⟩
    obtain ⟨m', rfl⟩ : ∃ m, n' = m + 1 := ⟨n' - 1, by omega⟩
    by_cases hx' : x < 10
    · refine ⟨x, hx', ?_, ?_⟩
      · unfold L_X1_firstFigure_25
        rw [show (10 : Int32) = Int32.ofNat 10 from rfl, if_pos (show Int32.ofNat x < Int32.ofNat 10 from (o_lt (by omega) (by omega)).mpr hx')]
        split <;> rfl
      · unfold L_X9_figureOf_2
        rw [if_pos rfl, show (9 : Int32) = Int32.ofNat 9 from rfl, if_pos ((o_le (by omega) (by omega)).mpr (by omega)), show (10 : Int32) = Int32.ofNat 10 from rfl, jrem_o (by omega) (by omega), Nat.mod_eq_of_lt hx']
    · have hj : j = 0 ∨ j = 1 ∨ j = 2 := by omega
      have hx2 : x < 10000 := by
        refine Nat.lt_of_lt_of_le hx ?_
        rcases hj with h | h | h <;> subst h <;> decide
      have hx3 : x / 10 < 10 ^ (j + 1) := by
        rw [Nat.pow_succ] at hx
        exact Nat.div_lt_of_lt_mul (by omega)
      obtain ⟨v, hv, e1, e2⟩ := lead_t M j m m' (x / 10) (s + 1) hx3 (by omega) (by omega) (by omega)
      refine ⟨v, hv, ?_, ?_⟩
      · unfold L_X1_firstFigure_25
        rw [if_neg (show ¬ (4 : Int32) ≤ Int32.ofNat s by rw [show (4 : Int32) = Int32.ofNat 4 from rfl, o_le (by omega) (by omega)]; omega), show (10 : Int32) = Int32.ofNat 10 from rfl, if_neg (by rw [o_lt (by omega) (by omega)]; exact hx'), o_div (by omega) (by omega), o_succ]
        exact e1
      · unfold L_X9_figureOf_2
        rw [if_pos rfl, show (9 : Int32) = Int32.ofNat 9 from rfl, if_neg (by rw [o_le (by omega) (by omega)]; omega), show (10 : Int32) = Int32.ofNat 10 from rfl, o_div (by omega) (by omega)]
        exact e2
def fgN (x : Int32) (w : Bool) : Nat := ((f_X9_figureOf x (b2 w)).getD 0).toNatClampNeg
theorem fg_m {x : Int32} (w : Bool) (h : bt x 0 9999) : fgN x w < 10 ∧ f_X9_figureOf x (b2 w) = some (Int32.ofNat (fgN x w)) ∧ (w = true → ∀ M, L_X1_firstFigure_25 FU x 0 M = some (Int32.ofNat (fgN x w))) ∧ (w = false → jrem x 10 = Int32.ofNat (fgN x w)) := by
  obtain ⟨i, hi, rfl⟩ := of_in (x := x) (n := 10000) h.1 (by have := h.2; omega)
  have key : ∃ v, v < 10 ∧ f_X9_figureOf (Int32.ofNat i) (b2 w) = some (Int32.ofNat v) ∧ (w = true → ∀ M, L_X1_firstFigure_25 FU (Int32.ofNat i) 0 M = some (Int32.ofNat v)) ∧ (w = false → jrem (Int32.ofNat i) 10 = Int32.ofNat v) := by
    cases w
    · refine ⟨i % 10, Nat.mod_lt _ (by omega), ?_, fun e => absurd e (by decide), fun _ => ?_⟩
      · unfold f_X9_figureOf
        rw [FU_eq]
        unfold L_X9_figureOf_2
        rw [if_neg (by decide), show (10 : Int32) = Int32.ofNat 10 from rfl, jrem_o (by omega) (by omega)]
      · rw [show (10 : Int32) = Int32.ofNat 10 from rfl, jrem_o (by omega) (by omega)]
    · obtain ⟨v, hv, e1, e2⟩ := lead_t M00 3 FU FU i 0 (by show i < 10000; exact hi) (by omega) (by rw [FU_eq]; omega) (by rw [FU_eq]; omega)
      refine ⟨v, hv, e2, fun _ M => ?_, fun e => absurd e (by decide)⟩
      obtain ⟨v', hv', e1', e2'⟩ := lead_t M 3 FU FU i 0 (by show i < 10000; exact hi) (by omega) (by rw [FU_eq]; omega) (by rw [FU_eq]; omega)
      rw [e2] at e2'
      rw [Option.some.inj e2']; exact e1'
  obtain ⟨v, hv, e1, e2, e3⟩ := key
  have : fgN (Int32.ofNat i) w = v := by
    unfold fgN; rw [e1]; exact o_clamp (by omega)
  rw [this]
  exact ⟨hv, e1, e2, e3⟩
def fg (S : Nat → Int32) (w : Bool) (h : Nat) : Option Nat := if S (12 * h + 9) < 0 then none else if S (12 * h + 10) < (if w = true then 1 else 100) then none else some (fgN (S (12 * h + 10)) w)
def gs (S : Nat → Int32) (w : Bool) (lim : Nat) : Nat → Nat × (Nat → Nat) := fdN (fun h s => if lim ≤ s.1 then s else match fg S w h with
    | none => s
    | some f => (s.1 + 1, fun k => if k = f then s.2 k + 1 else s.2 k)) (0, fun _ => 0)
theorem gs_succ (S : Nat → Int32) (w : Bool) (lim i : Nat) : gs S w lim (i + 1) = if lim ≤ (gs S w lim i).1 then gs S w lim i else match fg S w i with
    | none => gs S w lim i
    | some f => ((gs S w lim i).1 + 1, fun k => if k = f then (gs S w lim i).2 k + 1 else (gs S w lim i).2 k) := rfl
theorem gs_le (S : Nat → Int32) (w : Bool) (lim : Nat) : ∀ i, (gs S w lim i).1 ≤ i ∧ (gs S w lim i).1 ≤ lim ∧ ∀ k, (gs S w lim i).2 k ≤ (gs S w lim i).1
  | 0 => ⟨Nat.le_refl _, Nat.zero_le _, fun _ => Nat.le_refl _⟩
  | i + 1 => by
    obtain ⟨h1, h2, h3⟩ := gs_le S w lim i
    rw [gs_succ]
    by_cases q : lim ≤ (gs S w lim i).1
    · rw [if_pos q]; exact ⟨by omega, h2, h3⟩
    · rw [if_neg q]
      cases fg S w i with
      | none => exact ⟨Nat.le_trans h1 (by omega), h2, h3⟩
      | some f =>
        refine ⟨by dsimp only; omega, by dsimp only; omega, fun k => ?_⟩
        dsimp only
        have := h3 k
        split <;> omega
theorem gs_stop (S : Nat → Int32) (w : Bool) (lim i : Nat) (h : lim ≤ (gs S w lim i).1) : ∀ k, gs S w lim (i + k) = gs S w lim i
  | 0 => rfl
  | k + 1 => by
    have ih := gs_stop S w lim i h k
    rw [← Nat.add_assoc, gs_succ, ih, if_pos h]
def cst (B : Mem) (a : Nat → Int32) (n : Int32) : Mem := sR (sR B 293 a) 284 (zu (mI B 284) 11 n)
section
variable {A B M : Mem} {c N K h k : Nat} {S : Nat → Int32} {a : Nat → Int32} {n v : Int32} {w : Bool}
theorem cst_293 : mI (cst B a n) 293 = a := by unfold cst; rw [mI_sR_ne _ _ (by decide), mI_sR_eq]
theorem cst_11 : mI (cst B a n) 284 11 = n := by unfold cst; rw [mI_sR_eq, zu_eq]
theorem cst_k {j : Nat} (h : j ≠ 11) : mI (cst B a n) 284 j = mI B 284 j := by unfold cst; rw [mI_sR_eq, zu_ne _ _ h]
theorem cst_ne {y : Nat} (h1 : y ≠ 293) (h2 : y ≠ 284) : mI (cst B a n) y = mI B y := by unfold cst; rw [mI_sR_ne _ _ h2, mI_sR_ne _ _ h1]
theorem cst_s1 : sI (cst B a n) 293 k v = cst B (zu a k v) n := by
  rw [sI_sR, cst_293]
  unfold cst
  rw [sR_comm _ _ _ (by decide), sR_sR]
theorem cst_s2 : sI (cst B a n) 284 11 v = cst B a v := by
  rw [sI_sR]
  unfold cst
  rw [sR_sR, mI_sR_eq]
  congr 1
  funext j
  unfold zu
  by_cases h : j = 11 <;> simp [h]
theorem cst_id : cst B (mI B 293) (mI B 284 11) = B := by
  unfold cst
  have : zu (mI B 284) 11 (mI B 284 11) = mI (sR B 293 (mI B 293)) 284 := by
    rw [mI_sR_ne _ _ (by decide)]
    funext j
    unfold zu
    by_cases h : j = 11
    · rw [if_pos h, h]
    · rw [if_neg h]
  rw [this, sR_id, sR_id]
theorem cst_b : sI (sR B 293 a) 284 11 v = cst B a v := by
  rw [sI_sR, mI_sR_ne _ _ (by decide)]; rfl
theorem cst_sm : Sm B (cst B a n) := ⟨fun y hy h4 => cst_ne (fun e => hy (by rw [e]; unfold scr; omega)) h4, cst_k (by decide)⟩
theorem bh_ours (b : BH S (12 * h)) (hm : ¬ S (12 * h + 9) < 0) : bt (S (12 * h + 10)) 0 9999 := by
  obtain ⟨b0, b1, b2', b3, b4, b5, b6, b7, b8, b9, b10, b11⟩ := b
  have := b10 hm
  unfold bt at this b9 ⊢
  omega
/-- the class's figure of a hall -/
theorem c_fig {p : Nat} (b : BH S (12 * h)) (e9 : mI A p 9 = if S (12 * h + 9) < 0 then 1 else 0) (ew : ¬ S (12 * h + 9) < 0 → mI A p 10 = S (12 * h + 9) ∧ mI A p 11 = S (12 * h + 10)) : f_X1_lastFigure p A = en4 (fg S false h) ∧ f_X1_firstFigure p A = some (en4 (fg S true h)) := by
  unfold f_X1_lastFigure f_X1_firstFigure fg B_X1_lastFigure_16
  rw [e9]
  by_cases hm : S (12 * h + 9) < 0
  · rw [if_pos hm, if_neg n10, if_neg n10, if_pos hm, if_pos hm]; exact ⟨rfl, rfl⟩
  · obtain ⟨e10, e11⟩ := ew hm
    obtain ⟨f1, f2, f3, f4⟩ := fg_m false (bh_ours b hm)
    obtain ⟨t1, t2, t3, t4⟩ := fg_m true (bh_ours b hm)
    rw [if_neg hm, if_pos rfl, if_pos rfl, if_neg hm, if_neg hm, e11]
    constructor
    · rw [ite_le, if_neg (show ¬ false = true by decide)]
      by_cases q : S (12 * h + 10) < 100
      · rw [if_pos q, if_pos q]; rfl
      · rw [if_neg q, if_neg q, f4 rfl]; rfl
    · rw [ite_le, if_pos rfl]
      by_cases q : S (12 * h + 10) < 1
      · rw [if_pos q, if_pos q]; rfl
      · rw [if_neg q, if_neg q, t3 rfl]; rfl
theorem fg_lt (b : BH S (12 * h)) {f : Nat} (e : fg S w h = some f) : f < 10 := by
  unfold fg at e
  by_cases hm : S (12 * h + 9) < 0
  · rw [if_pos hm] at e; cases e
  · rw [if_neg hm] at e
    have t1 := (fg_m w (bh_ours b hm)).1
    by_cases q : S (12 * h + 10) < (if w = true then 1 else 100)
    · rw [if_pos q] at e; cases e
    · rw [if_neg q] at e
      have := Option.some.inj e
      omega
theorem en4_in {f : Nat} (hf : f < 10) : f_X8_within (Int32.ofNat f) 0 9 = 1 := by
  rw [within_t, o_toInt (by omega), ti_zero, show (9 : Int32).toInt = 9 from rfl, if_pos (by omega)]
theorem c_fill (hl : ln k = 10) (M : Mem) : ∃ a, f_J7_fill_53178 k 0 M = some (sR M k a) ∧ ∀ j, j < 10 → a j = 0 := by
  unfold f_J7_fill_53178
  rw [hl]
  refine up_run (L := fun n x (s : Mem) => L_J7_fill_53178_5 n k 0 x (Int32.ofNat 10) s) 10 (fun i s => ∃ a, s = sR M k a ∧ ∀ j, j < i → a j = 0) (fun o => ∃ a, o = some (sR M k a) ∧ ∀ j, j < 10 → a j = 0) (by omega) ?_ ?_ M ⟨mI M k, (sR_id _ _).symm, fun j hj => absurd hj (by omega)⟩
  · rintro n s ⟨a, rfl, ha⟩
    simp (disch := omega) only [L_J7_fill_53178_5, le_t, if_true]
    exact ⟨a, rfl, ha⟩
  · rintro n i s hi ⟨a, rfl, ha⟩
    left
    refine ⟨sR M k (zu a i 0), ⟨_, rfl, fun j hj => ?_⟩, ?_⟩
    · unfold zu
      by_cases e : j = i
      · rw [if_pos e]
      · rw [if_neg e]; exact ha j (by omega)
    · simp (disch := omega) only [L_J7_fill_53178_5, le_f, if_false, hl, ↓gd_r, o_clamp, o_succ]
      rw [sI_sR, mI_sR_eq, sR_sR]
theorem c_counts (R : CQ A c S N) (hl : ln (c + 22) = 10) (w : Bool) : ∃ a, f_X0_countFigures c (b2 w) A = some (Int32.ofNat (gs S w 30 N).1, sR A (c + 22) a) ∧ ∀ k, k < 10 → a k = Int32.ofNat ((gs S w 30 N).2 k) := by
  have hN := cq_N R
  obtain ⟨a0, e0, h0⟩ := c_fill hl A
  unfold f_X0_countFigures
  rw [e0, Option.bind_some]
  refine up_run (L := fun n x (s : Int32 × Mem) => L_X0_countFigures_12 n c (b2 w) s.1 x s.2) N (fun i s => ∃ a, s = (Int32.ofNat (gs S w 30 i).1, sR A (c + 22) a) ∧ ∀ k, k < 10 → a k = Int32.ofNat ((gs S w 30 i).2 k)) (fun o => ∃ a, o = some (Int32.ofNat (gs S w 30 N).1, sR A (c + 22) a) ∧ ∀ k, k < 10 → a k = Int32.ofNat ((gs S w 30 N).2 k)) (by omega) ?_ ?_ (0, sR A (c + 22) a0) ⟨a0, rfl, fun k hk => h0 k hk⟩
  · rintro n s ⟨a, rfl, ha⟩
    have en := cq_n (cq_sR R (x := c + 22) (by omega) a)
    simp (disch := omega) only [L_X0_countFigures_12, en, le_t, if_true]
    exact ⟨a, rfl, ha⟩
  · rintro n i s hi ⟨a, rfl, ha⟩
    left
    have R' := cq_sR R (x := c + 22) (by omega) a
    have en := cq_n R'
    obtain ⟨e1, e2, e3, e9, ew⟩ := cq_h R' hi
    obtain ⟨cf, cf'⟩ := c_fig (bq_h R.1 hi) e9 ew
    obtain ⟨l1, l2, l3⟩ := gs_le S w 30 i
    have hcase : (L_X0_countFigures_12 (n + 1) c (b2 w) (Int32.ofNat (gs S w 30 i).1) (Int32.ofNat i) (sR A (c + 22) a)) = (if f_X8_within (en4 (fg S w i)) 0 9 = 0 then L_X0_countFigures_12 n c (b2 w) (Int32.ofNat (gs S w 30 i).1) (Int32.ofNat (i + 1)) (sR A (c + 22) a) else gd (inR (en4 (fg S w i)) 10) (L_X0_countFigures_12 n c (b2 w) (Int32.ofNat ((gs S w 30 i).1 + 1)) (Int32.ofNat (i + 1)) (sI (sR A (c + 22) a) (c + 22) (en4 (fg S w i)).toNatClampNeg ((mI (sR A (c + 22) a) (c + 22) (en4 (fg S w i)).toNatClampNeg) + 1)))) := by
      cases w
      · simp (disch := omega) only [L_X0_countFigures_12, B_X0_countFigures_72, en, le_f, if_false, b2_f, if_true, ↓gd_r, o_clamp, o_succ, cf]
      · simp (disch := omega) only [L_X0_countFigures_12, B_X0_countFigures_72, en, le_f, if_false, b2_t, i10, ↓gd_r, o_clamp, o_succ, cf', Option.bind_some]
    rw [hcase, gs_succ, if_neg (by omega)]
    cases ef : fg S w i with
    | none =>
      rw [if_pos (show f_X8_within (en4 none) 0 9 = 0 by decide)]
      exact ⟨_, ⟨a, rfl, ha⟩, rfl⟩
    | some f =>
      have hf := fg_lt (bq_h R.1 hi) ef
      rw [show en4 (some f) = Int32.ofNat f from rfl, en4_in hf, if_neg n10, gd_r (by omega) (by omega), o_clamp (by omega), mI_sR_eq, sI_sR, mI_sR_eq, sR_sR, ha f hf, o_succ]
      refine ⟨_, ⟨_, rfl, fun k hk => ?_⟩, rfl⟩
      unfold zu
      dsimp only
      by_cases e : k = f
      · rw [if_pos e, if_pos e, e]
      · rw [if_neg e, if_neg e]; exact ha k hk
theorem m_zero (B : Mem) (x1 x2 : Int32) : ∃ a, L_X9_counts_2 FU x1 x2 (Int32.ofNat 0) B = B_X9_counts_21 x1 x2 (sR B 293 a) ∧ ∀ j, j < 10 → a j = 0 := by
  refine up_run (L := fun n x (s : Mem) => L_X9_counts_2 n x1 x2 x s) 10 (fun i s => ∃ a, s = sR B 293 a ∧ ∀ j, j < i → a j = 0) (fun o => ∃ a, o = B_X9_counts_21 x1 x2 (sR B 293 a) ∧ ∀ j, j < 10 → a j = 0) (by omega) ?_ ?_ B ⟨mI B 293, (sR_id _ _).symm, fun j hj => absurd hj (by omega)⟩
  · rintro n s ⟨a, rfl, ha⟩
    simp (disch := omega) only [L_X9_counts_2, show (10 : Int32) = Int32.ofNat 10 from rfl, le_t, if_true]
    exact ⟨a, rfl, ha⟩
  · rintro n i s hi ⟨a, rfl, ha⟩
    left
    refine ⟨sR B 293 (zu a i 0), ⟨_, rfl, fun j hj => ?_⟩, ?_⟩
    · unfold zu
      by_cases e : j = i
      · rw [if_pos e]
      · rw [if_neg e]; exact ha j (by omega)
    · simp (disch := omega) only [L_X9_counts_2, show (10 : Int32) = Int32.ofNat 10 from rfl, le_f, if_false, ↓gd_r, o_clamp, o_succ]
      rw [sI_sR, mI_sR_eq, sR_sR]
theorem m_hasF (b : BH (mI B 285) (12 * h)) (hh : h < 30) (w : Bool) : f_X9_hasFigure (Int32.ofNat h) (b2 w) B = some (if fg (mI B 285) w h = none then 0 else 1) := by
  unfold f_X9_hasFigure fg
  rw [hs hh, g10 hh, Option.bind_some]
  by_cases hm : mI B 285 (12 * h + 9) < 0
  · rw [if_pos hm, if_pos rfl, if_pos hm, if_pos rfl]
  · rw [if_neg hm, if_neg n10, Option.bind_some, if_neg hm]
    cases w
    · rw [if_pos (show b2 false = 0 from rfl), if_neg (show ¬ false = true by decide)]
      by_cases q : mI B 285 (12 * h + 10) < 100
      · rw [if_pos q, if_pos q, if_pos rfl]
      · rw [if_neg q, if_neg q, if_neg (by simp)]
    · rw [if_neg (show ¬ b2 true = 0 by decide), if_pos rfl]
      by_cases q : mI B 285 (12 * h + 10) < 1
      · rw [if_pos q, if_pos q, if_pos rfl]
      · rw [if_neg q, if_neg q, if_neg (by simp)]
theorem fg_v {f : Nat} (e : fg S w h = some f) : ¬ S (12 * h + 9) < 0 ∧ fgN (S (12 * h + 10)) w = f := by
  unfold fg at e
  by_cases hm : S (12 * h + 9) < 0
  · rw [if_pos hm] at e; cases e
  · rw [if_neg hm] at e
    refine ⟨hm, ?_⟩
    by_cases q : S (12 * h + 10) < (if w = true then 1 else 100)
    · rw [if_pos q] at e; cases e
    · rw [if_neg q] at e
      exact Option.some.inj e
theorem m_counts (R : BQ (mI B 285) N) (w : Bool) (lim : Nat) (hlim : lim ≤ 30) : ∃ a, f_X9_counts (b2 w) (Int32.ofNat lim) B = some (cst B a (Int32.ofNat (gs (mI B 285) w lim N).1)) ∧ ∀ k, k < 10 → a k = Int32.ofNat ((gs (mI B 285) w lim N).2 k) := by
  have hN := R.1
  obtain ⟨a0, e0, h0⟩ := m_zero B (b2 w) (Int32.ofNat lim)
  unfold f_X9_counts
  rw [show (0 : Int32) = Int32.ofNat 0 from rfl, e0]
  unfold B_X9_counts_21
  rw [cst_b]
  refine up_run (L := fun n x (s : Mem) => L_X9_counts_28 n (b2 w) (Int32.ofNat lim) x s) N (fun i s => ∃ a, s = cst B a (Int32.ofNat (gs (mI B 285) w lim i).1) ∧ ∀ k, k < 10 → a k = Int32.ofNat ((gs (mI B 285) w lim i).2 k)) (fun o => ∃ a, o = some (cst B a (Int32.ofNat (gs (mI B 285) w lim N).1)) ∧ ∀ k, k < 10 → a k = Int32.ofNat ((gs (mI B 285) w lim N).2 k)) (by omega) ?_ ?_ (cst B a0 0) ⟨a0, rfl, fun k hk => h0 k hk⟩
  · rintro n s ⟨a, rfl, ha⟩
    have en : mI (cst B a (Int32.ofNat (gs (mI B 285) w lim N).1)) 285 1192 = Int32.ofNat N := by rw [cst_ne (by decide) (by decide)]; exact R.2.1
    simp (disch := omega) only [L_X9_counts_28, en, le_t, if_true]
    exact ⟨a, rfl, ha⟩
  · rintro n i s hi ⟨a, rfl, ha⟩
    have hi' : i < 30 := by omega
    obtain ⟨l1, l2, l3⟩ := gs_le (mI B 285) w lim i
    have m5 : mI (cst B a (Int32.ofNat (gs (mI B 285) w lim i).1)) 285 = mI B 285 := cst_ne (by decide) (by decide)
    have en : mI (cst B a (Int32.ofNat (gs (mI B 285) w lim i).1)) 285 1192 = Int32.ofNat N := by rw [m5]; exact R.2.1
    have hf := m_hasF (B := cst B a (Int32.ofNat (gs (mI B 285) w lim i).1)) (by rw [m5]; exact bq_h R hi) hi' w
    rw [m5] at hf
    have step : L_X9_counts_28 (n + 1) (b2 w) (Int32.ofNat lim) (Int32.ofNat i) (cst B a (Int32.ofNat (gs (mI B 285) w lim i).1)) = (if lim ≤ (gs (mI B 285) w lim i).1 then some (cst B a (Int32.ofNat (gs (mI B 285) w lim i).1)) else if (if fg (mI B 285) w i = none then (0 : Int32) else 1) = 0 then L_X9_counts_28 n (b2 w) (Int32.ofNat lim) (Int32.ofNat (i + 1)) (cst B a (Int32.ofNat (gs (mI B 285) w lim i).1)) else (f_X9_figureOf (mI B 285 (12 * i + 10)) (b2 w)).bind fun q15 => gd (inR q15 10) (L_X9_counts_28 n (b2 w) (Int32.ofNat lim) (Int32.ofNat (i + 1)) (cst B (zu a q15.toNatClampNeg (a q15.toNatClampNeg + 1)) (Int32.ofNat ((gs (mI B 285) w lim i).1 + 1))))) := by
      simp (disch := omega) only [L_X9_counts_28, B_X9_counts_90, en, le_f, if_false, hf, Option.bind_some, g10 hi', m5, o_succ, cst_293, cst_s1, cst_s2, cst_11, le_ofNat]
    rw [step]
    by_cases q0 : lim ≤ (gs (mI B 285) w lim i).1
    · right
      rw [if_pos q0]
      have st := gs_stop (mI B 285) w lim i q0 (N - i)
      rw [show i + (N - i) = N by omega] at st
      rw [st]
      exact ⟨a, rfl, ha⟩
    · left
      rw [if_neg q0, gs_succ, if_neg q0]
      cases ef : fg (mI B 285) w i with
      | none => rw [if_pos (by simp)]; exact ⟨_, ⟨a, rfl, ha⟩, rfl⟩
      | some f =>
        have hf := fg_lt (bq_h R hi) ef
        obtain ⟨hm, fv⟩ := fg_v ef
        have t := (fg_m w (bh_ours (bq_h R hi) hm)).2.1
        rw [fv] at t
        rw [if_neg (by simp), t, Option.bind_some, gd_r (by omega) (by omega), o_clamp (by omega), ha f hf, o_succ]
        refine ⟨_, ⟨_, rfl, fun k hk => ?_⟩, rfl⟩
        unfold zu
        dsimp only
        by_cases e : k = f
        · rw [if_pos e, if_pos e, e]
        · rw [if_neg e, if_neg e]; exact ha k hk
theorem op_figures (R : RC M 1 (mI M 285) N K) (x1 x2 : Int32) : ∃ r M1 M2, f_X8_figures x1 x2 M = some (r, M1) ∧ f_X9_figures x1 x2 M1 = some (r, M2) ∧ Sm M M2 := by
  unfold f_X8_figures f_X9_figures
  rw [in_w x1 0 9 0 9 rfl rfl, in_w x2 0 1 0 1 rfl rfl]
  by_cases q : f_X8_within x1 0 9 = 0
  · rw [if_pos q]
    exact ⟨_, M, M, rfl, by rw [if_pos q], sm_r M⟩
  rw [if_neg q]
  by_cases q2 : f_X8_within x2 0 1 = 0
  · rw [if_pos q2]
    exact ⟨_, M, M, rfl, by rw [if_neg q, if_pos q2], sm_r M⟩
  obtain ⟨f, hf, rfl⟩ := wi_o (n := 10) q (by decide)
  obtain ⟨i, hi, rfl⟩ := wi_o (n := 2) q2 (by decide)
  have hw : ∃ w : Bool, Int32.ofNat i = b2 w := by
    have : i = 0 ∨ i = 1 := by omega
    rcases this with rfl | rfl
    · exact ⟨false, rfl⟩
    · exact ⟨true, rfl⟩
  obtain ⟨w, ew⟩ := hw
  rw [ew] at q2 ⊢
  obtain ⟨a, e, ha⟩ := c_counts R.1 (by decide) w
  have s1 : Sm M (sR M (1 + 22) a) := sm_sR a (by unfold scr; omega) (by decide)
  have R1 := rc_sm R s1
  obtain ⟨b, eb, hb⟩ := m_counts R1.1.1 w 30 (by omega)
  have ec : (if b2 w = 1 then (f_X0_figureCount 1 (Int32.ofNat f) 1 M).bind fun q14 => some (q14.1, q14.2) else (f_X0_figureCount 1 (Int32.ofNat f) 0 M).bind fun q10 => some (q10.1, q10.2)) = some (Int32.ofNat ((gs (mI M 285) w 30 N).2 f), sR M (1 + 22) a) := by
    have : f_X0_figureCount 1 (Int32.ofNat f) (b2 w) M = some (Int32.ofNat ((gs (mI M 285) w 30 N).2 f), sR M (1 + 22) a) := by
      unfold f_X0_figureCount
      rw [e, Option.bind_some, gd_r (by omega) (by omega), o_clamp (by omega), mI_sR_eq, ha f hf]
    cases w
    · rw [if_neg (show ¬ b2 false = 1 by decide), show f_X0_figureCount 1 (Int32.ofNat f) 0 M = _ from this]; rfl
    · rw [if_pos (show b2 true = 1 from rfl), show f_X0_figureCount 1 (Int32.ofNat f) 1 M = _ from this]; rfl
  rw [if_neg q2, ec]
  refine ⟨_, _, _, rfl, ?_, sm_t s1 (cst_sm (a := b) (n := Int32.ofNat (gs (mI (sR M (1 + 22) a) 285) w 30 N).1))⟩
  rw [if_neg q, if_neg q2, show (30 : Int32) = Int32.ofNat 30 from rfl, eb, Option.bind_some, gd_r (by omega) (by omega), o_clamp (by omega), cst_293, hb f hf, sm_285 s1]
end
