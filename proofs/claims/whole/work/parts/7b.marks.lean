/-! MARKS, 6: fault, mark, marked, said -/
def fq (o : Option Nat) : Int32 := match o with
  | none => -4
  | some i => Int32.ofNat i
def GR (t : Nat → Int32) (L : Nat) : Option Nat := aR t L 0 (0, 0, false, 0, false)
def fvS (S : Nat → Int32) (h : Nat) (x : Int32) : Int32 := if x = 99 then S (12 * h + 9) else if x = 100 then S (12 * h + 3) else if x = 101 then S (12 * h + 4) else if x = 107 then S (12 * h + 2) else if x = 108 then S (12 * h) else if x = 111 then S (12 * h + 10) else if x = 115 then sh S (12 * h) else if x = 116 then S (12 * h + 1) else if x = 119 then S (12 * h + 11) else Int32.ofNat h
/-- whether mark m holds of hall h -/
def mkV (S : Nat → Int32) (h m : Nat) : Bool := Vn (fun k => S (385 + 81 * m + k)) (fvS S h) ((S (382 + 81 * m)).toNatClampNeg - 2) 0 ([(false, true, false)], BASE)
def mkF (f : Nat → Bool) : Nat → Option Nat := fdN (fun m o => match o with
    | some x => some x
    | none => if f m = true then some m else none) none
def mkN (S : Nat → Int32) (K h : Nat) : Int32 := match mkF (mkV S h) K with
  | none => -4
  | some m => S (383 + 81 * m)
theorem mkF_succ (f : Nat → Bool) (i : Nat) : mkF f (i + 1) = match mkF f i with
    | some x => some x
    | none => if f i = true then some i else none := rfl
theorem mkF_up (f : Nat → Bool) (m : Nat) : ∀ k i, mkF f i = some m → mkF f (i + k) = some m
  | 0, _, h => h
  | k + 1, i, h => by
    rw [← Nat.add_assoc, mkF_succ, mkF_up f m k i h]
section
variable {A A' B M M' : Mem} {c N K h k d L off p : Nat} {S S' t : Nat → Int32} {fv : Int32 → Int32}
theorem pst_self : pst B (mI B 284 21) (mI B 284 24) (mI B 284 27) = B := by
  unfold pst
  have : prw (mI B 284) (mI B 284 21) (mI B 284 24) (mI B 284 27) = mI B 284 := by
    funext k
    unfold prw
    by_cases h1 : k = 21
    · rw [if_pos h1, h1]
    by_cases h2 : k = 24
    · rw [if_neg h1, if_pos h2, h2]
    by_cases h3 : k = 27
    · rw [if_neg h1, if_neg h2, if_pos h3, h3]
    · rw [if_neg h1, if_neg h2, if_neg h3]
  rw [this, sR_id]
def bgn (M : Mem) (a : Nat) (x2 x3 x4 : Int32) : Mem := sI (sI (sI (sI (sI (sI (sP M 284 26 a) 284 22 x2) 284 23 x3) 284 25 x4) 284 21 0) 284 24 0) 284 27 1
theorem bgn_t {a : Nat} {x2 x3 x4 : Int32} (ha : a = 290 ∨ a = 285) : f_X9_begins a x2 x3 x4 M = some (bgn M a x2 x3 x4) := by
  unfold f_X9_begins
  rw [gd_t ha]; rfl
theorem bgn_ne {a y : Nat} {x2 x3 x4 : Int32} (h : y ≠ 284) : mI (bgn M a x2 x3 x4) y = mI M y := by
  unfold bgn
  rw [mI_sI_ne h, mI_sI_ne h, mI_sI_ne h, mI_sI_ne h, mI_sI_ne h, mI_sI_ne h]
  rfl
theorem bgn_8 {a : Nat} {x2 x3 x4 : Int32} : mI (bgn M a x2 x3 x4) 284 8 = mI M 284 8 := by
  unfold bgn
  rw [mI_sI_k (by decide), mI_sI_k (by decide), mI_sI_k (by decide), mI_sI_k (by decide), mI_sI_k (by decide), mI_sI_k (by decide)]
  rfl
theorem bgn_tx {a : Nat} {x2 x3 x4 : Int32} : tx (bgn M a x2 x3 x4) = a := by
  unfold tx bgn
  show ((if (284 : Nat) = 284 ∧ (26 : Nat) = 26 then some a else mP M 284 26).getD 0) = a
  rw [if_pos ⟨rfl, rfl⟩]; rfl
theorem bgn_pst {a : Nat} {x2 x3 x4 : Int32} : pst (bgn M a x2 x3 x4) (Int32.ofNat 0) (Int32.ofNat 0) 1 = bgn M a x2 x3 x4 := by
  have h1 : mI (bgn M a x2 x3 x4) 284 21 = Int32.ofNat 0 := by unfold bgn; simp (disch := omega) only [mI_sI_k, mI_sI_eq]; rfl
  have h2 : mI (bgn M a x2 x3 x4) 284 24 = Int32.ofNat 0 := by unfold bgn; simp (disch := omega) only [mI_sI_k, mI_sI_eq]; rfl
  have h3 : mI (bgn M a x2 x3 x4) 284 27 = 1 := by unfold bgn; rw [mI_sI_eq]
  have := pst_self (B := bgn M a x2 x3 x4)
  rw [h1, h2, h3] at this
  exact this
theorem bgn_k {a : Nat} {x2 x3 x4 : Int32} : mI (bgn M a x2 x3 x4) 284 22 = x2 ∧ mI (bgn M a x2 x3 x4) 284 23 = x3 ∧ mI (bgn M a x2 x3 x4) 284 25 = x4 := by
  unfold bgn
  simp (disch := omega) only [mI_sI_k, mI_sI_eq]
  exact ⟨trivial, trivial, trivial⟩
theorem bgn_sm {a : Nat} {x2 x3 x4 : Int32} (p dd w : Int32) : Sm M (pst (bgn M a x2 x3 x4) p dd w) := ⟨fun y _ h4 => by rw [pst_ne h4, bgn_ne h4], by rw [pst_k (by decide) (by decide) (by decide), bgn_8]⟩
/-- the reference's finding of a fault -/
theorem m_fault (X : TX B t L off) (F : FV B fv) : ∃ (p dd w : Int32), ((f_X9_sign (pst B (Int32.ofNat 0) (Int32.ofNat 0) 1)).bind fun q8 => if (f_X9_isIn q8.toInt64 (65 : Int64) (90 : Int64)) = 0 then some ((0 : Int32), pst B (Int32.ofNat 0) (Int32.ofNat 0) 1) else (f_X9_takes (58 : Int32) (sI (pst B (Int32.ofNat 0) (Int32.ofNat 0) 1) 284 21 ((mI (pst B (Int32.ofNat 0) (Int32.ofNat 0) 1) 284 21) + (1 : Int32)))).bind fun q15 => if q15.1 = 0 then some ((mI q15.2 284 21), q15.2) else (f_grp DEP 0 q15.2).bind fun q20 => if (mI q20.2 284 27) = 0 then some ((mI q20.2 284 21), q20.2) else if (mI q20.2 284 21) = (mI q20.2 284 23) then some ((-4 : Int32), q20.2) else some ((mI q20.2 284 21), q20.2)) = some (fq (GR t L), pst B p dd w) := by
  have hL : L ≤ 80 := X.2.2.2.1
  have hGR : GR t L = Rn t L 0 (0, 0, false, 0, false) := rfl
  rw [sign_t X _ 1 (by omega), Option.bind_some, in_w _ 65 90 65 90 rfl rfl]
  have rng : (f_X8_within (sg t L 0) 65 90 = 0) = ¬ (65 ≤ sg t L 0 ∧ sg t L 0 ≤ 90) := by
    rw [within_e]
    by_cases q : (65 : Int32) ≤ sg t L 0 ∧ sg t L 0 ≤ 90
    · rw [if_pos q]; simp [q]
    · rw [if_neg q]; simp only [q]; simp
  by_cases q1 : f_X8_within (sg t L 0) 65 90 = 0
  · rw [if_pos q1]
    refine ⟨Int32.ofNat 0, Int32.ofNat 0, 1, ?_⟩
    have : GR t L = some 0 := by
      rw [hGR]
      refine Rn_none (by omega) (by decide) (fun hl => ?_)
      rw [ag_0, if_neg]
      rw [rng, sg_lt hl] at q1
      exact q1
    rw [this]; rfl
  · rw [if_neg q1]
    have q1' : (65 : Int32) ≤ sg t L 0 ∧ sg t L 0 ≤ 90 := by
      by_cases q : (65 : Int32) ≤ sg t L 0 ∧ sg t L 0 ≤ 90
      · exact q
      · rw [rng] at q1; exact absurd q q1
    have hl : 0 < L := by
      by_cases q : 0 < L
      · exact q
      · rw [show sg t L 0 = -1000 from if_neg q] at q1'
        exact absurd q1'.1 (by decide)
    have st0 : Rn t L 0 (0, 0, false, 0, false) = Rn t L 1 (1, 0, false, 0, false) := Rn_some hl (by rw [sg_lt hl] at q1'; rw [ag_0, if_pos q1'])
    rw [pst_21, pst_s21, o_succ]
    by_cases q2 : sg t L (0 + 1) = 58
    · obtain ⟨hl2, hx⟩ := sg_in q2 (by decide)
      rw [takes_y X _ (by omega) q2, Option.bind_some, if_neg n10]
      have st1 : Rn t L 1 (1, 0, false, 0, false) = Rn t L 2 (2, 0, false, 0, false) := Rn_some hl2 (by rw [ag_1, if_pos hx])
      obtain ⟨v, j, d', w, e, j1, j2, r⟩ := or_main X F (p := 2) (by omega)
      rw [show (0 + 1 + 1 : Nat) = 2 from rfl, e, Option.bind_some]
      dsimp only
      rw [pst_27, pst_21, pst_k (by decide) (by decide) (by decide), X.2.2.1]
      rcases r with ⟨rfl, r⟩ | ⟨rfl, rd, r38, r124, r1, r2⟩
      · rw [if_pos rfl]
        exact ⟨_, _, _, by rw [hGR, st0, st1, r]; rfl⟩
      · rw [if_neg n10]
        have fin : GR t L = if j = L then none else some j := by rw [hGR, st0, st1, r1, RT_0 j2 r38 r124]
        rw [fin]
        simp only [eq_ofNat (a := j) (b := L) (by omega) (by omega)]
        by_cases q3 : j = L
        · rw [if_pos q3, if_pos q3]; exact ⟨_, _, _, rfl⟩
        · rw [if_neg q3, if_neg q3]; exact ⟨_, _, _, rfl⟩
    · rw [takes_n X _ (by omega) q2, Option.bind_some, if_pos rfl]
      refine ⟨Int32.ofNat (0 + 1), Int32.ofNat 0, 1, ?_⟩
      have : GR t L = some 1 := by
        rw [hGR, st0]
        refine Rn_none (by omega) (by decide) (fun hl2 => ?_)
        rw [ag_1, if_neg]
        rw [sg_lt hl2] at q2
        exact q2
      rw [this]
      dsimp only
      rw [pst_21]; rfl
theorem m_faultOf (hd : d < 8) {sz : Nat} (r : Row M d 0 sz) : ∃ M', f_X9_faultOf (Int32.ofNat d) M = some (fq (GR (fun j => mI M 290 (80 * d + j)) sz), M') ∧ Sm M M' := by
  obtain ⟨t1, t2, t3, t4, t5, t6, t7⟩ := r
  have k8 : (80 : Int32) * Int32.ofNat d = Int32.ofNat (80 * d) := o_mul (i := 80)
  unfold f_X9_faultOf
  rw [gd_r (by omega) hd, o_clamp (by omega), t6, k8, bgn_t (Or.inl rfl), Option.bind_some]
  obtain ⟨b22, b23, b25⟩ := bgn_k (M := M) (a := 290) (x2 := Int32.ofNat (80 * d)) (x3 := Int32.ofNat sz) (x4 := -1)
  have ht := bgn_tx (M := M) (a := 290) (x2 := Int32.ofNat (80 * d)) (x3 := Int32.ofNat sz) (x4 := -1)
  have l290 : ln 290 = 640 := by decide
  have X : TX (bgn M 290 (Int32.ofNat (80 * d)) (Int32.ofNat sz) (-1)) (fun j => mI M 290 (80 * d + j)) sz (80 * d) := by
    refine ⟨by rw [ht]; decide, b22, b23, t2, by rw [ht, l290]; omega, by rw [ht, l290]; omega, fun j hj => ?_⟩
    rw [ht, bgn_ne (by decide)]
    exact ⟨rfl, (t7 j (by omega)).2 rfl⟩
  have F : FV (bgn M 290 (Int32.ofNat (80 * d)) (Int32.ofNat sz) (-1)) (fun _ => 0) := by
    intro p dd w x _
    unfold B_X9_atom_155
    rw [pst_21, pst_s21, pst_k (by decide) (by decide) (by decide), b25, if_neg (by decide)]
  obtain ⟨p, dd, w, e⟩ := m_fault X F
  rw [bgn_pst] at e
  exact ⟨_, e, bgn_sm p dd w⟩
theorem sm_259 {M' : Mem} (f : ∀ y, y ≠ 259 → mI M' y = mI M y) : Sm M M' := ⟨fun y hy _ => f y (fun e => hy (by rw [e]; unfold scr; omega)), by rw [f 284 (by decide)]⟩
theorem txt_t (I : Inv M) (hd : d < 8) : f_X8_textRefusal (Int32.ofNat d) M = some (if mI M 287 d = 0 then -11 else if mI M 287 d = 2 then (if mI M 288 d = 0 then 0 else -12) else -12) := by
  unfold f_X8_textRefusal
  rw [wr_t I hd, Option.bind_some]
  by_cases q1 : mI M 287 d = 0
  · rw [if_pos q1, if_neg (by decide), if_pos q1]
  rw [if_neg q1, if_neg q1]
  by_cases q2 : mI M 287 d = 2
  · obtain ⟨so, sz, t1, t2, t3, t4, t5, t6, t7⟩ := row_of (I.2.2 d hd) q2
    rw [if_pos q2, if_pos rfl, if_pos q2, gd_r (by omega) hd, o_clamp (by omega), t3, t4]
    split <;> rfl
  · rw [if_neg q2, if_neg (by decide), if_neg q2]
theorem txt_0 (I : Inv M) (hd : d < 8) (q1 : mI M 287 d = 2) (q2 : mI M 288 d = 0) : ∃ sz, Row M d 0 sz := by
  obtain ⟨so, sz, t1, t2, t3, t4, t5, t6, t7⟩ := row_of (I.2.2 d hd) q1
  rw [q2] at t4
  have : so = 0 := by
    have := (o_inj (i := 0) (j := so) (by omega) (by omega)).mp t4
    omega
  subst this
  exact ⟨sz, t1, t2, t3, by rw [q2]; rfl, t5, t6, t7⟩
theorem c_faultOf (I : Inv M) (hd : d < 8) {sz : Nat} (r : Row M d 0 sz) : ∃ M', f_X2_faultOf ((253 + 7 + 3 * d) + 2) (Int32.ofNat sz) M = some (fr (GR (fun j => mI M 290 (80 * d + j)) sz), M') ∧ ∀ y, y ≠ 259 → mI M' y = mI M y := by
  obtain ⟨t1, t2, t3, t4, t5, t6, t7⟩ := r
  exact faultOf_c (fun j => mI M 290 (80 * d + j)) (253 + 7 + 3 * d + 2) sz (ln_sh ⟨d, hd⟩) t2 (by omega) M (fun j hj => ⟨(t7 j (by omega)).1, (t7 j (by omega)).2 rfl⟩)
theorem row_cong {sz : Nat} (r : Row M d 0 sz) (f : ∀ y, y ≠ 259 → mI M' y = mI M y) (hd : d < 8) : Row M' d 0 sz := by
  unfold Row at r ⊢
  rw [f (253 + 7 + 3 * d) (by omega), f 288 (by omega), f 289 (by omega), f (253 + 7 + 3 * d + 2) (by omega), f 290 (by omega)]
  exact r
theorem fr_fq (o : Option Nat) (h : ∀ i, o = some i → i < 2147483648) : (fr o = -1 ∧ fq o = -4 ∧ o = none) ∨ (fr o ≠ -1 ∧ fq o ≠ -4 ∧ fq o = fr o) := by
  cases o with
  | none => exact Or.inl ⟨rfl, rfl, rfl⟩
  | some i =>
    have hi := h i rfl
    refine Or.inr ⟨fun e => ?_, fun e => ?_, rfl⟩
    · have := congrArg Int32.toInt e
      rw [show (fr (some i)).toInt = (Int32.ofNat i).toInt from rfl, o_toInt hi, show (-1 : Int32).toInt = -1 from rfl] at this
      omega
    · have := congrArg Int32.toInt e
      rw [show (fq (some i)).toInt = (Int32.ofNat i).toInt from rfl, o_toInt hi, show (-4 : Int32).toInt = -4 from rfl] at this
      omega
theorem aR_le (t : Nat → Int32) : ∀ k i a j, aR t k i a = some j → j ≤ i + k
  | 0, i, a, j, e => by
    unfold aR at e
    by_cases q : awh a = true
    · rw [if_pos q] at e; cases e
    · rw [if_neg q] at e; have := Option.some.inj e; omega
  | k + 1, i, a, j, e => by
    unfold aR at e
    cases q : ag a (t i) with
    | none => rw [q] at e; have := Option.some.inj e; omega
    | some a' => rw [q] at e; have := aR_le t k (i + 1) a' j e; omega
theorem op_fault (I : Inv M) (x1 : Int32) : ∃ r M1 M2, f_X8_fault x1 M = some (r, M1) ∧ f_X9_fault x1 M1 = some (r, M2) ∧ Inv M2 := by
  unfold f_X8_fault
  rcases isS x1 with ⟨a, b⟩ | ⟨d, hd, rfl, a, b⟩
  · have : f_X8_textRefusal x1 M = some (-1) := by
      unfold f_X8_textRefusal f_X8_rowRefusal
      rw [c_bad a]; rfl
    rw [this, Option.bind_some, if_neg (by decide)]
    refine ⟨_, M, M, rfl, ?_, I⟩
    unfold f_X9_fault f_X9_wrongRow
    rw [b, if_pos rfl]; rfl
  rw [txt_t I hd, Option.bind_some]
  by_cases q1 : mI M 287 d = 0
  · rw [if_pos q1, if_neg (by decide)]
    refine ⟨_, M, M, rfl, ?_, I⟩
    unfold f_X9_fault
    rw [m_wrong b hd, if_pos q1]; rfl
  rw [if_neg q1]
  by_cases q2' : ¬ mI M 287 d = 2
  · rw [if_neg q2', if_neg (by decide)]
    refine ⟨_, M, M, rfl, ?_, I⟩
    unfold f_X9_fault
    rw [m_wrong b hd, if_neg q1, if_neg q2']; rfl
  have q2 := Decidable.not_not.mp q2'
  rw [if_pos q2]
  by_cases q3' : ¬ mI M 288 d = 0
  · rw [if_neg q3', if_neg (by decide)]
    refine ⟨_, M, M, rfl, ?_, I⟩
    unfold f_X9_fault
    rw [m_wrong b hd, if_neg q1, if_pos q2, if_neg (by decide), if_neg q3']; rfl
  have q3 := Decidable.not_not.mp q3'
  obtain ⟨sz, row⟩ := txt_0 I hd q2 q3
  obtain ⟨M1, e1, f1⟩ := c_faultOf I hd row
  obtain ⟨M2, e2, s2⟩ := m_faultOf hd (row_cong row f1 hd)
  rw [f1 290 (by decide)] at e2
  rw [if_pos q3, if_pos rfl, gd_r (by omega) hd, o_clamp (by omega), row.2.2.2.2.1, e1, Option.bind_some]
  have ref : f_X9_fault (Int32.ofNat d) M1 = some (fq (GR (fun j => mI M 290 (80 * d + j)) sz), M2) := by
    unfold f_X9_fault
    rw [m_wrong b hd, f1 287 (by decide), f1 288 (by decide), if_neg q1, if_pos q2, if_neg (by decide), if_pos q3, Option.bind_some, if_pos rfl, e2]; rfl
  have iv : Inv M2 := inv_sm I (sm_t (sm_259 f1) s2)
  rcases fr_fq (GR (fun j => mI M 290 (80 * d + j)) sz) (fun i hi => by have := aR_le _ _ _ _ _ hi; have := row.2.1; omega) with ⟨g1, g2, -⟩ | ⟨g1, g2, g3⟩
  · rw [if_pos g1]
    exact ⟨_, _, M2, rfl, by rw [ref, g2], iv⟩
  · rw [if_neg g1]
    exact ⟨_, _, M2, rfl, by rw [ref, g3], iv⟩
theorem aR_shift (t : Nat → Int32) : ∀ k i a, aR t k (i + 2) a = none → aR (fun j => t (j + 2)) k i a = none
  | 0, i, a, e => by
    unfold aR at e ⊢
    by_cases q : awh a = true
    · rw [if_pos q]
    · rw [if_neg q] at e; cases e
  | k + 1, i, a, e => by
    unfold aR at e ⊢
    cases q : ag a (t (i + 2)) with
    | none => rw [q] at e; cases e
    | some a' =>
      rw [q] at e
      exact aR_shift t k (i + 1) a' e
theorem vR_shift (t : Nat → Int32) (fv : Int32 → Int32) : ∀ k i e, vR t fv k (i + 2) e = vR (fun j => t (j + 2)) fv k i e
  | 0, _, _ => rfl
  | k + 1, i, e => by
    unfold vR
    exact vR_shift t fv k (i + 1) _
theorem GR_none (h : GR t L = none) : 2 ≤ L ∧ Rn (fun j => t (j + 2)) (L - 2) 0 (2, 0, false, 0, false) = none := by
  have hGR : GR t L = Rn t L 0 (0, 0, false, 0, false) := rfl
  rw [hGR] at h
  have h0 : 0 < L := by
    by_cases q : 0 < L
    · exact q
    · have e : L = 0 := by omega
      subst e
      rw [Rn_end, if_neg (by decide)] at h; cases h
  rw [Rn_step _ h0] at h
  have s0 : ag (0, 0, false, 0, false) (t 0) = some (1, 0, false, 0, false) := by
    rw [ag_0] at h ⊢
    by_cases q : 65 ≤ t 0 ∧ t 0 ≤ 90
    · rw [if_pos q]
    · rw [if_neg q] at h; cases h
  rw [s0] at h
  dsimp only at h
  have h1 : 1 < L := by
    by_cases q : 1 < L
    · exact q
    · have e : L = 1 := by omega
      subst e
      rw [Rn_end, if_neg (by decide)] at h; cases h
  rw [Rn_step _ h1] at h
  have s1 : ag (1, 0, false, 0, false) (t 1) = some (2, 0, false, 0, false) := by
    rw [ag_1] at h ⊢
    by_cases q : t 1 = 58
    · rw [if_pos q]
    · rw [if_neg q] at h; cases h
  rw [s1] at h
  dsimp only at h
  refine ⟨by omega, ?_⟩
  unfold Rn at h ⊢
  exact aR_shift t (L - 2) 0 _ h
/-- the rows with one mark more -/
def mkS (S t : Nat → Int32) (K L : Nat) : Nat → Int32 := fun j => if j = 1193 then Int32.ofNat (K + 1) else if 383 + 81 * K ≤ j ∧ j < 383 + 81 * K + L then t (j - (383 + 81 * K)) else if j = 382 + 81 * K then Int32.ofNat L else S j
theorem m_mark (hd : d < 8) {L : Nat} (hL : L ≤ 80) (hK : K < 10) (h9 : mI B 289 d = Int32.ofNat L) (hk : mI B 285 1193 = Int32.ofNat K) : ∃ M', L_X9_mark_88 FU (Int32.ofNat d) (Int32.ofNat (382 + 81 * K)) 0 (sI B 285 (382 + 81 * K) (Int32.ofNat L)) = some (Int32.ofNat K, M') ∧ Fr5 B M' ∧ mI M' 285 = mkS (mI B 285) (fun j => mI B 290 (80 * d + j)) K L := by
  refine up_run (L := fun n y (s : Mem) => L_X9_mark_88 n (Int32.ofNat d) (Int32.ofNat (382 + 81 * K)) y s) L (fun i s => Fr5 B s ∧ ∀ j, mI s 285 j = if 383 + 81 * K ≤ j ∧ j < 383 + 81 * K + i then mI B 290 (80 * d + (j - (383 + 81 * K))) else if j = 382 + 81 * K then Int32.ofNat L else mI B 285 j) (fun o => ∃ M', o = some (Int32.ofNat K, M') ∧ Fr5 B M' ∧ mI M' 285 = mkS (mI B 285) (fun j => mI B 290 (80 * d + j)) K L) (by omega) ?_ ?_ _ ⟨fun y hy => mI_sI_ne hy, fun j => ?_⟩
  · rintro n s ⟨hf, r⟩
    have e9 : mI s 289 d = Int32.ofNat L := by rw [hf 289 (by decide)]; exact h9
    have ek : mI s 285 1193 = Int32.ofNat K := by rw [r, if_neg (by omega), if_neg (by omega)]; exact hk
    simp (disch := omega) only [L_X9_mark_88, B_X9_mark_129, ↓gd_r, o_clamp, e9, le_t, if_true, ek, o_succ, mI_sI_eq, o_pred]
    refine ⟨_, rfl, fun y hy => by rw [mI_sI_ne hy]; exact hf y hy, ?_⟩
    rw [mI_285]
    funext j
    unfold zu mkS
    by_cases q : j = 1193
    · rw [if_pos q, if_pos q]
    · rw [if_neg q, if_neg q, r j]
  · rintro n i s hi ⟨hf, r⟩
    left
    have e9 : mI s 289 d = Int32.ofNat L := by rw [hf 289 (by decide)]; exact h9
    have e0 : mI s 290 = mI B 290 := hf 290 (by decide)
    refine ⟨sI s 285 (382 + 81 * K + 1 + i) (mI B 290 (80 * d + i)), ⟨fun y hy => by rw [mI_sI_ne hy]; exact hf y hy, fun j => ?_⟩, ?_⟩
    · by_cases q : j = 382 + 81 * K + 1 + i
      · subst q
        rw [mI_sI_eq, if_pos (by omega)]; congr 1; omega
      · rw [mI_sI_k q, r j]
        by_cases q2 : 383 + 81 * K ≤ j ∧ j < 383 + 81 * K + i
        · rw [if_pos q2, if_pos (by omega)]
        · rw [if_neg q2, if_neg (show ¬ (383 + 81 * K ≤ j ∧ j < 383 + 81 * K + (i + 1)) by omega)]
    · simp (disch := omega) only [L_X9_mark_88, ↓gd_r, o_clamp, e9, le_f, if_false, k80, e0, o_succ, o_add]
  · by_cases q : j = 382 + 81 * K
    · rw [q, mI_sI_eq, if_neg (by omega), if_pos rfl]
    · rw [mI_sI_k q, if_neg (by omega), if_neg q]
theorem ln_mt : ∀ m : Fin 10, ln (1 + 6 + 1 + 1 * m.val) = 80 := by decide
theorem op_mark (I : Inv M) (x1 : Int32) : ∃ r M1 M2, f_X8_mark x1 M = some (r, M1) ∧ f_X9_mark x1 M1 = some (r, M2) ∧ Inv M2 := by
  have I0 := I
  obtain ⟨N, K, R, W⟩ := I.1
  obtain ⟨k1, k2, k3, k4⟩ := R.2.2.2
  unfold f_X8_mark
  rcases isS x1 with ⟨a, b⟩ | ⟨d, hd, rfl, a, b⟩
  · rw [a, if_pos rfl]
    refine ⟨_, M, M, rfl, ?_, I⟩
    unfold f_X9_mark
    rw [b, if_pos rfl]
  rw [a, if_neg n10, k2]
  by_cases qK : K = 10
  · rw [if_neg (fun e => by have := (o_lt (j := 10) (by omega) (by omega)).mp e; omega)]
    refine ⟨_, M, M, rfl, ?_, I⟩
    unfold f_X9_mark
    rw [b, if_neg n10, k3, qK, if_pos (show Int32.ofNat 10 = 10 from rfl)]
  rw [if_pos (show Int32.ofNat K < 10 from (o_lt (j := 10) (by omega) (by omega)).mpr (by omega)), txt_t I hd, Option.bind_some]
  have nK : ∀ M1, mI M1 285 = mI M 285 → ¬ mI M1 285 1193 = 10 := fun M1 hM e => by
    rw [hM, k3] at e
    have := (o_inj (j := 10) (by omega) (by omega)).mp e
    omega
  by_cases q1 : mI M 287 d = 0
  · rw [if_pos q1, if_neg (by decide)]
    refine ⟨_, M, M, rfl, ?_, I⟩
    unfold f_X9_mark
    rw [b, if_neg n10, if_neg (nK M rfl), m_wrong b hd, if_pos q1]; rfl
  rw [if_neg q1]
  by_cases q2' : ¬ mI M 287 d = 2
  · rw [if_neg q2', if_neg (by decide)]
    refine ⟨_, M, M, rfl, ?_, I⟩
    unfold f_X9_mark
    rw [b, if_neg n10, if_neg (nK M rfl), m_wrong b hd, if_neg q1, if_neg q2']; rfl
  have q2 := Decidable.not_not.mp q2'
  rw [if_pos q2]
  by_cases q3' : ¬ mI M 288 d = 0
  · rw [if_neg q3', if_neg (by decide)]
    refine ⟨_, M, M, rfl, ?_, I⟩
    unfold f_X9_mark
    rw [b, if_neg n10, if_neg (nK M rfl), m_wrong b hd, if_neg q1, if_pos q2, if_neg (by decide), if_neg q3']; rfl
  have q3 := Decidable.not_not.mp q3'
  obtain ⟨sz, row⟩ := txt_0 I hd q2 q3
  have hsz := row.2.1
  obtain ⟨MA, e1, f1⟩ := c_faultOf I hd row
  rw [if_pos q3, if_pos rfl, gd_r (by omega) hd]
  simp (disch := omega) only [o_clamp]
  rw [row.2.2.2.2.1, e1, Option.bind_some]
  dsimp only
  have refw : ∀ M1 (f : Int32 → Option (Int32 × Mem)), mI M1 287 = mI M 287 → mI M1 288 = mI M 288 → ((f_X9_wrongRow (Int32.ofNat d) 0 M1).bind f) = f 0 := fun M1 f h7 h8 => by
    rw [m_wrong b hd, h7, h8, if_neg q1, if_pos q2, if_neg (by decide), if_pos q3, Option.bind_some]
  rcases fr_fq (GR (fun j => mI M 290 (80 * d + j)) sz) (fun i hi => by have := aR_le _ _ _ _ _ hi; omega) with ⟨g1, g2, g3⟩ | ⟨g1, g2, g3⟩
  · -- the text is a mark
    rw [if_pos g1]
    have e8 : mI MA 1 8 = Int32.ofNat K := by rw [f1 1 (by decide)]; exact k2
    have rA := row_cong row f1 hd
    unfold f_X0_addMark
    rw [rA.2.2.2.2.1, e8, if_pos (show Int32.ofNat K < 10 from (o_lt (j := 10) (by omega) (by omega)).mpr (by omega)), gd_r (by omega) (by omega), gd_t (by decide), gd_t (by decide), gd_t (by decide), gd_t (show (0 : Int32).toNatClampNeg + (80 : Int32).toNatClampNeg ≤ ln (253 + 7 + 3 * d + 2) by rw [ln_sh ⟨d, hd⟩]; decide), gd_t (by decide), o_clamp (by omega), show (0 : Int32).toNatClampNeg = 0 from rfl, show (80 : Int32).toNatClampNeg = 80 from rfl]
    have c8 : ∀ b n, mI (cI MA (253 + 7 + 3 * d + 2) 0 (1 + 6 + 1 + 1 * K) b n) 1 8 = Int32.ofNat K := fun b n => by rw [mI_cI_ne (by omega)]; exact e8
    rw [c8, gd_r (by omega) (by omega), o_clamp (by omega), Option.bind_some]
    dsimp only
    have c8' : mI (sI (cI MA (253 + 7 + 3 * d + 2) 0 (1 + 6 + 1 + 1 * K) 0 80) (1 + 17) K (Int32.ofNat sz)) 1 8 = Int32.ofNat K := by rw [mI_sI_ne (by decide)]; exact c8 0 80
    rw [c8', mI_sI_eq, o_succ, o_pred]
    generalize hM1 : sI (sI (cI MA (253 + 7 + 3 * d + 2) 0 (1 + 6 + 1 + 1 * K) 0 80) (1 + 17) K (Int32.ofNat sz)) 1 8 (Int32.ofNat (K + 1)) = M1
    have w1 : ∀ y, y ≠ 1 → y ≠ 18 → y ≠ 1 + 6 + 1 + 1 * K → y ≠ 259 → mI M1 y = mI M y := fun y y1 y2 y3 y4 => by
      rw [← hM1, mI_sI_ne y1, mI_sI_ne y2, mI_cI_ne y3]; exact f1 y y4
    have v18 : ∀ j, mI M1 18 j = if j = K then Int32.ofNat sz else mI M 18 j := fun j => by
      rw [← hM1, mI_sI_ne (by decide)]
      by_cases q : j = K
      · rw [if_pos q, q, show (18 : Nat) = 1 + 17 from rfl, mI_sI_eq]
      · rw [if_neg q, show (18 : Nat) = 1 + 17 from rfl, mI_sI_k q, mI_cI_ne (by omega), f1 _ (by omega)]
    have vt : ∀ j, j < 80 → mI M1 (1 + 6 + 1 + 1 * K) j = mI M 290 (80 * d + j) := fun j hj => by
      rw [← hM1, mI_sI_ne (by omega), mI_sI_ne (by omega), mI_cI_0 hj, f1 _ (by omega)]
      exact (row.2.2.2.2.2.2 j hj).1
    have v1 : ∀ j, mI M1 1 j = if j = 8 then Int32.ofNat (K + 1) else mI M 1 j := fun j => by
      rw [← hM1]
      by_cases q : j = 8
      · rw [if_pos q, q, mI_sI_eq]
      · rw [if_neg q, mI_sI_k q, mI_sI_ne (by decide), mI_cI_ne (by omega), f1 1 (by decide)]
    have m5 : mI M1 285 = mI M 285 := w1 285 (by decide) (by decide) (by omega) (by decide)
    have m9 : mI M1 289 = mI M 289 := w1 289 (by decide) (by decide) (by omega) (by decide)
    have m0 : mI M1 290 = mI M 290 := w1 290 (by decide) (by decide) (by omega) (by decide)
    have row1 : Row M1 d 0 sz := by
      unfold Row at row ⊢
      rw [w1 (253 + 7 + 3 * d) (by omega) (by omega) (by omega) (by omega), w1 288 (by omega) (by omega) (by omega) (by omega), m9, w1 (253 + 7 + 3 * d + 2) (by omega) (by omega) (by omega) (by omega), m0]
      exact row
    obtain ⟨M2, e2, s2⟩ := m_faultOf hd row1
    rw [m0, g2] at e2
    have n5 : mI M2 285 = mI M 285 := by rw [sm_285 s2, m5]
    have n9 : mI M2 289 = mI M 289 := by rw [s2.1 289 (by unfold scr; omega) (by decide), m9]
    have n0 : mI M2 290 = mI M 290 := by rw [s2.1 290 (by unfold scr; omega) (by decide), m0]
    obtain ⟨M3, e3, f3, r3⟩ := m_mark (B := M2) (K := K) hd hsz (by omega) (by rw [n9]; exact row.2.2.2.2.2.1) (by rw [n5]; exact k3)
    rw [n5, n0] at r3
    refine ⟨_, M1, M3, rfl, ?_, ?_⟩
    · unfold f_X9_mark
      rw [b, if_neg n10, if_neg (nK M1 m5), refw M1 _ (w1 287 (by decide) (by decide) (by omega) (by decide)) (w1 288 (by decide) (by decide) (by omega) (by decide)), if_pos rfl, e2, Option.bind_some]
      dsimp only
      rw [if_pos rfl, n5, k3, show (81 : Int32) * Int32.ofNat K = Int32.ofNat (81 * K) from o_mul (i := 81), show (382 : Int32) + Int32.ofNat (81 * K) = Int32.ofNat (382 + 81 * K) from o_add (i := 382), gd_r (by omega) hd, gd_r (by omega) (by omega), o_clamp (by omega), o_clamp (by omega), n9, row.2.2.2.2.2.1]
      exact e3
    · have w3 : ∀ y, y ≠ 285 → y ≠ 284 → ¬ scr y → mI M3 y = mI M1 y := fun y y1 y2 y3 => by rw [f3 y y1, s2.1 y y3 y2]
      have u : Up M M3 := ⟨fun y a' b' c' d' => by rw [w3 y d' b' a', w1 y (by omega) (by omega) (by omega) (fun e => a' (by rw [e]; unfold scr; omega))], by rw [f3 284 (by decide), s2.2, w1 284 (by decide) (by decide) (by omega) (by decide)]⟩
      obtain ⟨L2, hGR⟩ := GR_none g3
      refine inv_up I0 u ⟨N, K + 1, ?_, ?_⟩
      · rw [r3]
        have lo : ∀ j, j < 382 → mkS (mI M 285) (fun j => mI M 290 (80 * d + j)) K sz j = mI M 285 j := fun j hj => by
          unfold mkS; rw [if_neg (by omega), if_neg (by omega), if_neg (by omega)]
        have c1 : ∀ y, 2 ≤ y → y ≤ 7 ∨ 24 < y ∧ y ≤ 84 → mI M3 y = mI M y := fun y y1 y2 => by
          rw [w3 y (by omega) (by omega) (by unfold scr; omega), w1 y (by omega) (by omega) (by omega) (by omega)]
        obtain ⟨⟨⟨b1, b2', b3, b4⟩, r1, r2, r3'⟩, r4, r5, -⟩ := R
        have hc : ∀ h, h < N → RQ M3 (1 + 1 + 23 + 2 * h) (mkS (mI M 285) (fun j => mI M 290 (80 * d + j)) K sz) (12 * h) ∧ RR M3 (1 + 1 + 23 + 2 * h) (mkS (mI M 285) (fun j => mI M 290 (80 * d + j)) K sz) (12 * h) ∧ BH (mkS (mI M 285) (fun j => mI M 290 (80 * d + j)) K sz) (12 * h) := fun h hi => hall_cong (c1 _ (by omega) (by omega)) (c1 _ (by omega) (by omega)) (fun j hj => lo _ (by omega)) ⟨r2 h hi, r4 h hi, b3 h hi⟩
        have x1 : ∀ j, mI M3 1 j = mI M1 1 j := fun j => by rw [w3 1 (by decide) (by decide) (by unfold scr; omega)]
        have s1192 : mkS (mI M 285) (fun j => mI M 290 (80 * d + j)) K sz 1192 = mI M 285 1192 := by
          unfold mkS; rw [if_neg (by omega), if_neg (by omega), if_neg (by omega)]
        refine ⟨⟨⟨b1, by rw [s1192]; exact b2', fun h hi => (hc h hi).2.2, fun k hk => by rw [lo _ (by omega)]; exact b4 k hk⟩, by rw [x1, v1, if_neg (by decide)]; exact r1, fun h hi => (hc h hi).1, fun k hk => by rw [c1 (1 + 2) (by omega) (by omega), lo _ (by omega)]; exact r3' k hk⟩, fun h hi => (hc h hi).2.1, fun e he => ?_, by omega, by rw [x1, v1, if_pos rfl], by unfold mkS; rw [if_pos rfl], fun m hm => ?_⟩
        · rw [c1 (1 + 3) (by omega) (by omega), c1 (1 + 4) (by omega) (by omega), c1 (1 + 5) (by omega) (by omega), lo _ (by omega), lo _ (by omega), lo _ (by omega)]
          exact r5 e he
        · by_cases e : m = K
          · subst e
            refine ⟨sz, hsz, ?_, ?_, fun j hj => ?_⟩
            · rw [w3 (1 + 17) (by decide) (by decide) (by unfold scr; omega)]
              have := v18 m
              rw [if_pos rfl] at this
              exact this
            · unfold mkS; rw [if_neg (by omega), if_neg (by omega), if_pos rfl]
            · rw [w3 (1 + 6 + 1 + 1 * m) (by omega) (by omega) (by unfold scr; omega), vt j (by omega)]
              unfold mkS
              rw [if_neg (by omega), if_pos (by omega), show 383 + 81 * m + j - (383 + 81 * m) = j by omega]
              exact ⟨rfl, (row.2.2.2.2.2.2 j (by omega)).2 rfl⟩
          · obtain ⟨L, l1, l2, l3, l4⟩ := k4 m (by omega)
            refine ⟨L, l1, ?_, ?_, fun j hj => ?_⟩
            · rw [w3 (1 + 17) (by decide) (by decide) (by unfold scr; omega)]
              have := v18 m
              rw [if_neg e] at this
              exact this.trans l2
            · unfold mkS
              rw [if_neg (by omega), if_neg (by omega), if_neg (by omega)]; exact l3
            · rw [w3 (1 + 6 + 1 + 1 * m) (by omega) (by omega) (by unfold scr; omega), w1 (1 + 6 + 1 + 1 * m) (by omega) (by omega) (by omega) (by omega)]
              unfold mkS
              rw [if_neg (by omega), if_neg (by omega), if_neg (by omega)]; exact l4 j hj
      · rw [r3]
        intro m hm
        by_cases e : m = K
        · subst e
          refine ⟨sz, ?_, L2, hsz, ?_⟩
          · unfold mkS; rw [if_neg (by omega), if_neg (by omega), if_pos rfl]
          · rw [← hGR]
            have : ∀ k i a, i + k = sz - 2 → aR (fun j => mkS (mI M 285) (fun j => mI M 290 (80 * d + j)) m sz (385 + 81 * m + j)) k i a = aR (fun j => mI M 290 (80 * d + (j + 2))) k i a := by
              intro k
              induction k with
              | zero => intro i a _; rfl
              | succ k ih =>
                intro i a hi
                unfold aR
                have ev : mkS (mI M 285) (fun j => mI M 290 (80 * d + j)) m sz (385 + 81 * m + i) = mI M 290 (80 * d + (i + 2)) := by
                  unfold mkS
                  rw [if_neg (by omega), if_pos (by omega), show 385 + 81 * m + i - (383 + 81 * m) = i + 2 by omega]
                rw [ev]
                cases ag a (mI M 290 (80 * d + (i + 2))) with
                | none => rfl
                | some a' => exact ih (i + 1) a' (by omega)
            exact this (sz - 2) 0 _ (by omega)
        · obtain ⟨L, h1, h2, h3, h4⟩ := W m (by omega)
          refine ⟨L, ?_, h2, h3, ?_⟩
          · unfold mkS; rw [if_neg (by omega), if_neg (by omega), if_neg (by omega)]; exact h1
          · rw [← h4]
            have : ∀ k i a, i + k = L - 2 → aR (fun j => mkS (mI M 285) (fun j => mI M 290 (80 * d + j)) K sz (385 + 81 * m + j)) k i a = aR (fun j => mI M 285 (385 + 81 * m + j)) k i a := by
              intro k
              induction k with
              | zero => intro i a _; rfl
              | succ k ih =>
                intro i a hi
                unfold aR
                have ev : mkS (mI M 285) (fun j => mI M 290 (80 * d + j)) K sz (385 + 81 * m + i) = mI M 285 (385 + 81 * m + i) := by
                  unfold mkS
                  rw [if_neg (by omega), if_neg (by omega), if_neg (by omega)]
                rw [ev]
                cases ag a (mI M 285 (385 + 81 * m + i)) with
                | none => rfl
                | some a' => exact ih (i + 1) a' (by omega)
            exact this (L - 2) 0 _ (by omega)
  · -- it is none
    rw [if_neg g1]
    obtain ⟨M2, e2, s2⟩ := m_faultOf hd (row_cong row f1 hd)
    rw [f1 290 (by decide)] at e2
    refine ⟨_, MA, M2, rfl, ?_, inv_sm I0 (sm_t (sm_259 f1) s2)⟩
    unfold f_X9_mark
    rw [b, if_neg n10, if_neg (nK MA (f1 285 (by decide))), refw MA _ (f1 287 (by decide)) (f1 288 (by decide)), if_pos rfl, e2, Option.bind_some]
    dsimp only
    rw [if_neg g2, g3]
end
