/-! MEASURES; ODDS -/
def ueL (g : Nat → Int32) : Nat → Nat → Int32 → Int32
  | 0, _, a => a
  | k + 1, j, a => ueL g k (j + 1) (a + g j * g j)
def ovr (S : Nat → Int32) (N : Nat) (w : Bool) (j : Nat) : Int32 := (10 - b2 w) * Int32.ofNat ((gs S w 30 N).2 j) - Int32.ofNat (gs S w 30 N).1
def uev (S : Nat → Int32) (N : Nat) (w : Bool) : Int32 := ueL (ovr S N w) (if w = true then 9 else 10) (if w = true then 1 else 0) 0
def me (S : Nat → Int32) (N w : Nat) : Int32 := if w = 0 then uev S N false else if w = 1 then uev S N true else if w = 2 then zrnd S N (-1) else if w = 3 then hgh S N else mba S N
def p85 (prc : Int64 → Int32 → Option Int64) (x11 : Int32) : Nat → Int64 → Int32 → Int64 → Int32 → Option Int64
  | 0, _, _, _, _ => none
  | n + 1, l2, x4, l5, x7 => if x11 ≤ x7 then prc (l2 + l5) (x4 + 1) else p85 prc x11 n l2 x4 (l5 * 9) (x7 + 1)
def p48 (prc : Int64 → Int32 → Option Int64) (x11 : Int32) : Nat → Int64 → Int32 → Int64 → Int32 → Option Int64
  | 0, _, _, _, _ => none
  | n + 1, l2, x4, l5, x7 => if x4 < x7 then p85 prc x11 FU l2 x4 l5 x4 else gd (¬ x7.toInt64 = 0) (p48 prc x11 n l2 x4 ((l5 * ((x11 - x4) + x7).toInt64) / x7.toInt64) (x7 + 1))
def p33 (x11 : Int32) : Nat → Int64 → Int32 → Option Int64
  | 0, _, _ => none
  | n + 1, l2, x4 => if x11 < x4 then some l2 else p48 (p33 x11 n) x11 FU l2 x4 1 1
section
variable {A B M : Mem} {c N K h k : Nat} {S : Nat → Int32} {a : Nat → Int32} {v : Int32} {w : Bool}
theorem r85 {rc : Int64 → Int32 → Mem → Option (Int64 × Mem)} {prc : Int64 → Int32 → Option Int64} (hr : ∀ l x, rc l x M = (prc l x).map fun v => (v, M)) : ∀ n l2 x4 l5 x7, L_X9_odds_85 rc n l2 x4 l5 x7 M = (p85 prc (mI M 284 11) n l2 x4 l5 x7).map fun v => (v, M)
  | 0, _, _, _, _ => rfl
  | n + 1, l2, x4, l5, x7 => by
    unfold L_X9_odds_85 p85 B_X9_odds_108
    by_cases q : mI M 284 11 ≤ x7
    · rw [if_pos q, if_pos q, hr]
    · rw [if_neg q, if_neg q, r85 hr n]
theorem r48 {rc : Int64 → Int32 → Mem → Option (Int64 × Mem)} {prc : Int64 → Int32 → Option Int64} (hr : ∀ l x, rc l x M = (prc l x).map fun v => (v, M)) : ∀ n l2 x4 l5 x7, L_X9_odds_48 rc n l2 x4 l5 x7 M = (p48 prc (mI M 284 11) n l2 x4 l5 x7).map fun v => (v, M)
  | 0, _, _, _, _ => rfl
  | n + 1, l2, x4, l5, x7 => by
    unfold L_X9_odds_48 p48 B_X9_odds_81
    by_cases q : x4 < x7
    · rw [if_pos q, if_pos q, r85 hr]
    · rw [if_neg q, if_neg q]
      by_cases q2 : x7.toInt64 = 0
      · unfold gd; rw [if_neg (fun h => h q2), if_neg (fun h => h q2)]; rfl
      · rw [gd_t q2, gd_t q2, r48 hr n]
theorem r33 : ∀ n l2 x4, L_X9_odds_33 n l2 x4 M = (p33 (mI M 284 11) n l2 x4).map fun v => (v, M)
  | 0, _, _ => rfl
  | n + 1, l2, x4 => by
    unfold L_X9_odds_33 p33
    by_cases q : mI M 284 11 < x4
    · rw [if_pos q, if_pos q]; rfl
    · rw [if_neg q, if_neg q, r48 (fun l x => r33 n l x)]
theorem odds_all : ∀ n k : Fin 19, k ≤ n → f_X0_rowsWith (Int32.ofNat n.val) (Int32.ofNat k.val) = p33 (Int32.ofNat n.val) FU 0 (Int32.ofNat k.val) ∧ (f_X0_rowsWith (Int32.ofNat n.val) (Int32.ofNat k.val)).isSome = true := by decide +kernel
theorem c_odds (R : CQ A c S N) {f : Nat} (hf : f < 10) : f_X0_rowsWithFigure c (Int32.ofNat f) A = f_X0_rowsWith (Int32.ofNat (gs S false 18 N).1) (Int32.ofNat ((gs S false 18 N).2 f)) := by
  have hN := cq_N R
  have en := cq_n R
  refine up_run (L := fun n x (s : Int32 × Int32) => L_X0_rowsWithFigure_7 n c (Int32.ofNat f) s.1 s.2 x A) N (fun i s => s = (Int32.ofNat (gs S false 18 i).1, Int32.ofNat ((gs S false 18 i).2 f))) (fun o => o = f_X0_rowsWith (Int32.ofNat (gs S false 18 N).1) (Int32.ofNat ((gs S false 18 N).2 f))) (by omega) ?_ ?_ (0, 0) rfl
  · rintro n s rfl
    simp (disch := omega) only [L_X0_rowsWithFigure_7, B_X0_rowsWithFigure_69, en, le_t, if_true, bind_id]
  · rintro n i s hi rfl
    obtain ⟨e1, e2, e3, e9, ew⟩ := cq_h R hi
    obtain ⟨cf, cf'⟩ := c_fig (bq_h R.1 hi) e9 ew
    obtain ⟨l1, l2, l3⟩ := gs_le S false 18 i
    have l3' := l3 f
    have step : L_X0_rowsWithFigure_7 (n + 1) c (Int32.ofNat f) (Int32.ofNat (gs S false 18 i).1) (Int32.ofNat ((gs S false 18 i).2 f)) (Int32.ofNat i) A = (if 18 ≤ (gs S false 18 i).1 then f_X0_rowsWith (Int32.ofNat (gs S false 18 i).1) (Int32.ofNat ((gs S false 18 i).2 f)) else if en4 (fg S false i) = -4 then (if en4 (fg S false i) = Int32.ofNat f then L_X0_rowsWithFigure_7 n c (Int32.ofNat f) (Int32.ofNat (gs S false 18 i).1) (Int32.ofNat ((gs S false 18 i).2 f + 1)) (Int32.ofNat (i + 1)) A else L_X0_rowsWithFigure_7 n c (Int32.ofNat f) (Int32.ofNat (gs S false 18 i).1) (Int32.ofNat ((gs S false 18 i).2 f)) (Int32.ofNat (i + 1)) A) else (if en4 (fg S false i) = Int32.ofNat f then L_X0_rowsWithFigure_7 n c (Int32.ofNat f) (Int32.ofNat ((gs S false 18 i).1 + 1)) (Int32.ofNat ((gs S false 18 i).2 f + 1)) (Int32.ofNat (i + 1)) A else L_X0_rowsWithFigure_7 n c (Int32.ofNat f) (Int32.ofNat ((gs S false 18 i).1 + 1)) (Int32.ofNat ((gs S false 18 i).2 f)) (Int32.ofNat (i + 1)) A)) := by
      simp (disch := omega) only [L_X0_rowsWithFigure_7, B_X0_rowsWithFigure_69, en, le_f, if_false, ↓gd_r, o_clamp, o_succ, cf, Int32.add_zero, bind_id, show (18 : Int32) = Int32.ofNat 18 from rfl, le_ofNat]
    rw [step]
    by_cases q0 : 18 ≤ (gs S false 18 i).1
    · right
      have st := gs_stop S false 18 i q0 (N - i)
      rw [show i + (N - i) = N by omega] at st
      rw [if_pos q0, st]
    · left
      rw [if_neg q0, gs_succ, if_neg q0]
      cases ef : fg S false i with
      | none =>
        rw [if_pos (show en4 none = -4 from rfl), if_neg (show ¬ en4 none = Int32.ofNat f from fun e => by
          have := congrArg Int32.toInt e
          rw [o_toInt (by omega), show (en4 none).toInt = -4 from rfl] at this
          omega)]
        exact ⟨_, rfl, rfl⟩
      | some g =>
        have hg := fg_lt (bq_h R.1 hi) ef
        rw [if_neg (en4_ne (by omega)), show en4 (some g) = Int32.ofNat g from rfl]
        simp only [eq_ofNat (a := g) (b := f) (by omega) (by omega)]
        refine ⟨_, rfl, ?_⟩
        dsimp only
        by_cases q1 : g = f
        · rw [if_pos q1, if_pos q1.symm]
        · rw [if_neg q1, if_neg (Ne.symm q1)]
theorem op_odds (R : RC M 1 (mI M 285) N K) (x1 : Int32) : ∃ r M2, f_X8_odds x1 M = some r ∧ f_X9_odds x1 M = some (r, M2) ∧ Sm M M2 := by
  unfold f_X8_odds f_X9_odds
  rw [in_w x1 0 9 0 9 rfl rfl]
  by_cases q : f_X8_within x1 0 9 = 0
  · rw [if_pos q, if_pos q]
    exact ⟨_, M, rfl, rfl, sm_r M⟩
  obtain ⟨f, hf, rfl⟩ := wi_o (n := 10) q (by decide)
  obtain ⟨b, eb, hb⟩ := m_counts R.1.1 false 18 (by omega)
  obtain ⟨l1, l2, l3⟩ := gs_le (mI M 285) false 18 N
  obtain ⟨t1, t2⟩ := odds_all ⟨(gs (mI M 285) false 18 N).1, by omega⟩ ⟨(gs (mI M 285) false 18 N).2 f, by have := l3 f; omega⟩ (l3 f)
  obtain ⟨r, hr⟩ := Option.isSome_iff_exists.mp t2
  dsimp only at t1 hr
  rw [if_neg q, if_neg q, c_odds R.1 hf, show f_X9_counts 0 18 M = _ from eb, Option.bind_some, gd_r (by omega) (by omega), o_clamp (by omega), cst_293, hb f hf, r33, cst_11, ← t1, hr]
  exact ⟨r, _, rfl, rfl, cst_sm⟩
theorem c_ue (w : Bool) (all : Int32) : ∀ k n j (acc : Int32), j + k = 10 → k < n → L_X0_unevenness_22 n c all (b2 w) acc (Int32.ofNat j) A = some (ueL (fun j => (10 - b2 w) * mI A (c + 22) j - all) k j acc, A)
  | 0, n, j, acc, hj, hn => by
    obtain ⟨m, rfl⟩ : ∃ m, n = m + 1 := ⟨n - 1, by omega⟩
    unfold L_X0_unevenness_22
    rw [if_pos (show (9 : Int32) < Int32.ofNat j from (o_lt (i := 9) (by omega) (by omega)).mpr (by omega))]; rfl
  | k + 1, n, j, acc, hj, hn => by
    obtain ⟨m, rfl⟩ : ∃ m, n = m + 1 := ⟨n - 1, by omega⟩
    unfold L_X0_unevenness_22
    rw [if_neg (show ¬ (9 : Int32) < Int32.ofNat j from fun h => by have := (o_lt (i := 9) (by omega) (by omega)).mp h; omega), gd_r (by omega) (by omega), o_clamp (by omega), o_succ, c_ue w all k m (j + 1) _ (by omega) (by omega)]
    rfl
theorem m_ue (x2 : Int32) : ∀ k n j (acc : Int32), j + k = 10 → k < n → L_X9_squares_17 n x2 acc (Int32.ofNat j) B = some (ueL (fun j => x2 * mI B 293 j - mI B 284 11) k j acc, B)
  | 0, n, j, acc, hj, hn => by
    obtain ⟨m, rfl⟩ : ∃ m, n = m + 1 := ⟨n - 1, by omega⟩
    unfold L_X9_squares_17
    rw [if_pos (show (10 : Int32) ≤ Int32.ofNat j from (o_le (i := 10) (by omega) (by omega)).mpr (by omega))]; rfl
  | k + 1, n, j, acc, hj, hn => by
    obtain ⟨m, rfl⟩ : ∃ m, n = m + 1 := ⟨n - 1, by omega⟩
    unfold L_X9_squares_17
    rw [if_neg (show ¬ (10 : Int32) ≤ Int32.ofNat j from fun h => by have := (o_le (i := 10) (by omega) (by omega)).mp h; omega), gd_r (by omega) (by omega), o_clamp (by omega), o_succ, m_ue x2 k m (j + 1) _ (by omega) (by omega)]
    rfl
theorem ueL_cong {g g' : Nat → Int32} : ∀ k j a, j + k ≤ 10 → (∀ i, i < 10 → g i = g' i) → ueL g k j a = ueL g' k j a
  | 0, _, _, _, _ => rfl
  | k + 1, j, a, h, w => by
    unfold ueL
    rw [w j (by omega), ueL_cong k (j + 1) _ (by omega) w]
theorem c_uev (R : CQ A c S N) (hl : ln (c + 22) = 10) (w : Bool) : ∃ a, f_X0_unevenness c (b2 w) A = some (uev S N w, sR A (c + 22) a) := by
  obtain ⟨a, e, ha⟩ := c_counts R hl w
  refine ⟨a, ?_⟩
  unfold f_X0_unevenness
  rw [e, Option.bind_some]
  have cong : ∀ k j, j + k = 10 → ueL (fun j => (10 - b2 w) * mI (sR A (c + 22) a) (c + 22) j - Int32.ofNat (gs S w 30 N).1) k j 0 = ueL (ovr S N w) k j 0 := fun k j hj => ueL_cong k j 0 (by omega) (fun i hi => by rw [mI_sR_eq, ha i hi]; rfl)
  cases w
  · rw [if_pos (show b2 false = 0 from rfl)]
    have := c_ue (A := sR A (c + 22) a) (c := c) false (Int32.ofNat (gs S false 30 N).1) 10 FU 0 0 (by omega) (by rw [FU_eq]; omega)
    rw [cong 10 0 (by omega)] at this
    exact this
  · rw [if_neg (show ¬ b2 true = 0 by decide)]
    have := c_ue (A := sR A (c + 22) a) (c := c) true (Int32.ofNat (gs S true 30 N).1) 9 FU 1 0 (by omega) (by rw [FU_eq]; omega)
    rw [cong 9 1 (by omega)] at this
    exact this
theorem m_uev (R : BQ (mI B 285) N) (w : Bool) : ∃ a n, f_X9_squares (b2 w) B = some (uev (mI B 285) N w, cst B a n) := by
  obtain ⟨a, e, ha⟩ := m_counts R w 30 (by omega)
  refine ⟨a, Int32.ofNat (gs (mI B 285) w 30 N).1, ?_⟩
  unfold f_X9_squares
  rw [show (30 : Int32) = Int32.ofNat 30 from rfl, e, Option.bind_some]
  have cong : ∀ k j, j + k = 10 → ueL (fun j => (10 - b2 w) * mI (cst B a (Int32.ofNat (gs (mI B 285) w 30 N).1)) 293 j - mI (cst B a (Int32.ofNat (gs (mI B 285) w 30 N).1)) 284 11) k j 0 = ueL (ovr (mI B 285) N w) k j 0 := fun k j hj => ueL_cong k j 0 (by omega) (fun i hi => by rw [cst_293, cst_11, ha i hi]; rfl)
  cases w
  · have := m_ue (B := cst B a (Int32.ofNat (gs (mI B 285) false 30 N).1)) (10 - b2 false) 10 FU 0 0 (by omega) (by rw [FU_eq]; omega)
    rw [cong 10 0 (by omega)] at this
    exact this
  · have := m_ue (B := cst B a (Int32.ofNat (gs (mI B 285) true 30 N).1)) (10 - b2 true) 9 FU 1 0 (by omega) (by rw [FU_eq]; omega)
    rw [cong 9 1 (by omega)] at this
    exact this
theorem c_me (R : CQ A c S N) (hl : ln (c + 22) = 10) {w : Nat} (hw : w < 5) : ∃ a, f_X0_measured c (Int32.ofNat w) A = some (me S N w, sR A (c + 22) a) := by
  unfold f_X0_measured me
  have hN := cq_N R
  have : w = 0 ∨ w = 1 ∨ w = 2 ∨ w = 3 ∨ w = 4 := by omega
  rcases this with rfl | rfl | rfl | rfl | rfl
  · obtain ⟨a, e⟩ := c_uev R hl false
    exact ⟨a, by rw [if_pos (show Int32.ofNat 0 = 0 from rfl), show f_X0_unevenness c 0 A = _ from e]; rfl⟩
  · obtain ⟨a, e⟩ := c_uev R hl true
    exact ⟨a, by rw [if_neg (show ¬ Int32.ofNat 1 = 0 by decide), if_pos (show Int32.ofNat 1 = 1 from rfl), show f_X0_unevenness c 1 A = _ from e]; rfl⟩
  · exact ⟨mI A (c + 22), by rw [if_neg (show ¬ Int32.ofNat 2 = 0 by decide), if_neg (show ¬ Int32.ofNat 2 = 1 by decide), if_pos (show Int32.ofNat 2 = 2 from rfl), c_rnd R (-1), sR_id]; rfl⟩
  · exact ⟨mI A (c + 22), by rw [if_neg (show ¬ Int32.ofNat 3 = 0 by decide), if_neg (show ¬ Int32.ofNat 3 = 1 by decide), if_neg (show ¬ Int32.ofNat 3 = 2 by decide), if_pos (show Int32.ofNat 3 = 3 from rfl), c_high R, sR_id]; rfl⟩
  · exact ⟨mI A (c + 22), by rw [if_neg (show ¬ Int32.ofNat 4 = 0 by decide), if_neg (show ¬ Int32.ofNat 4 = 1 by decide), if_neg (show ¬ Int32.ofNat 4 = 2 by decide), if_neg (show ¬ Int32.ofNat 4 = 3 by decide), c_mba R, sR_id]; rfl⟩
theorem m_me (R : BQ (mI B 285) N) {w : Nat} (hw : w < 5) : ∃ a n, f_X9_measureNow (Int32.ofNat w) B = some (me (mI B 285) N w, cst B a n) := by
  unfold f_X9_measureNow me
  have : w = 0 ∨ w = 1 ∨ w = 2 ∨ w = 3 ∨ w = 4 := by omega
  rcases this with rfl | rfl | rfl | rfl | rfl
  · obtain ⟨a, n, e⟩ := m_uev R false
    exact ⟨a, n, by rw [if_pos (show Int32.ofNat 0 = 0 from rfl), show f_X9_squares (Int32.ofNat 0) B = _ from e]; rfl⟩
  · obtain ⟨a, n, e⟩ := m_uev R true
    exact ⟨a, n, by rw [if_neg (show ¬ Int32.ofNat 1 = 0 by decide), if_pos (show Int32.ofNat 1 = 1 from rfl), show f_X9_squares (Int32.ofNat 1) B = _ from e]; rfl⟩
  · have e := m_rnd R (-1) ⟨fun _ => rfl, fun _ => by decide⟩
    exact ⟨mI B 293, mI B 284 11, by rw [if_neg (show ¬ Int32.ofNat 2 = 0 by decide), if_neg (show ¬ Int32.ofNat 2 = 1 by decide), if_pos (show Int32.ofNat 2 = 2 from rfl), cst_id]; unfold f_X9_round; rw [if_pos rfl, e]; rfl⟩
  · exact ⟨mI B 293, mI B 284 11, by rw [if_neg (show ¬ Int32.ofNat 3 = 0 by decide), if_neg (show ¬ Int32.ofNat 3 = 1 by decide), if_neg (show ¬ Int32.ofNat 3 = 2 by decide), if_pos (show Int32.ofNat 3 = 3 from rfl), m_high R, cst_id]; rfl⟩
  · exact ⟨mI B 293, mI B 284 11, by rw [if_neg (show ¬ Int32.ofNat 4 = 0 by decide), if_neg (show ¬ Int32.ofNat 4 = 1 by decide), if_neg (show ¬ Int32.ofNat 4 = 2 by decide), if_neg (show ¬ Int32.ofNat 4 = 3 by decide), m_mba R, cst_id]; rfl⟩
theorem op_measure (R : RC M 1 (mI M 285) N K) (x1 : Int32) : ∃ r M1 M2, f_X8_measure x1 M = some (r, M1) ∧ f_X9_measure x1 M1 = some (r, M2) ∧ Sm M M2 := by
  unfold f_X8_measure f_X9_measure
  rw [in_w x1 0 4 0 4 rfl rfl]
  by_cases q : f_X8_within x1 0 4 = 0
  · rw [if_pos q]
    exact ⟨_, M, M, rfl, by rw [if_pos q], sm_r M⟩
  obtain ⟨w, hw, rfl⟩ := wi_o (n := 5) q (by decide)
  obtain ⟨a, e⟩ := c_me R.1 (by decide) hw
  have s1 : Sm M (sR M (1 + 22) a) := sm_sR a (by unfold scr; omega) (by decide)
  obtain ⟨b, n, eb⟩ := m_me (rc_sm R s1).1.1 hw
  rw [if_neg q, e]
  refine ⟨_, _, _, rfl, ?_, sm_t s1 (cst_sm (a := b) (n := n))⟩
  rw [if_neg q, eb, sm_285 s1]; rfl
end
