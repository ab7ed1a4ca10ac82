/-! THE RELATION of a country's cells to the reference's row -/
theorem ti_sub {x y : Int32} (h : -2147483648 ≤ x.toInt - y.toInt) (h' : x.toInt - y.toInt < 2147483648) : (x - y).toInt = x.toInt - y.toInt := by
  rw [Int32.toInt_sub, Int.bmod_def]; omega
theorem ti_add {x y : Int32} (h : -2147483648 ≤ x.toInt + y.toInt) (h' : x.toInt + y.toInt < 2147483648) : (x + y).toInt = x.toInt + y.toInt := by
  rw [Int32.toInt_add, Int.bmod_def]; omega
theorem ti_mul {x y : Int32} (h : -2147483648 ≤ x.toInt * y.toInt) (h' : x.toInt * y.toInt < 2147483648) : (x * y).toInt = x.toInt * y.toInt := by
  rw [Int32.toInt_mul, Int.bmod_def]; omega
def b2 (c : Bool) : Int32 := if c then 1 else 0
theorem b2_0 (c : Bool) : (b2 c = 0) = (c = false) := by cases c <;> simp [b2]
theorem b2_t : b2 true = 1 := rfl
theorem b2_f : b2 false = 0 := rfl
theorem b2_1 (c : Bool) : (b2 c = 1) = (c = true) := by cases c <;> simp [b2]
theorem mI_sI_eq {M : Mem} {x k : Nat} {v : Int32} : mI (sI M x k v) x k = v := by rw [mI_sI]; simp
theorem mI_sI_k {M : Mem} {x k j : Nat} {v : Int32} (h : j ≠ k) : mI (sI M x k v) x j = mI M x j := by rw [mI_sI]; simp [h]
theorem mI_sI_ne {M : Mem} {x k y : Nat} {v : Int32} (h : y ≠ x) : mI (sI M x k v) y = mI M y := by
  funext j; rw [mI_sI]; simp [h]
theorem bind_id {α : Type} (o : Option α) : (o.bind fun q => some q) = o := by cases o <;> rfl
theorem ti_zero : (0 : Int32).toInt = 0 := rfl
theorem n10 : ¬ ((1 : Int32) = 0) := by decide
theorem i10 : ((1 : Int32) = 0) = False := by decide
theorem i01 : ((0 : Int32) = 1) = False := by decide
theorem within_t (x a b : Int32) : f_X8_within x a b = if a.toInt ≤ x.toInt ∧ x.toInt ≤ b.toInt then 1 else 0 := by
  rw [within_e]; simp only [Int32.le_iff_toInt_le]
theorem isIn_t (x a b : Int64) : f_X9_isIn x a b = if a.toInt ≤ x.toInt ∧ x.toInt ≤ b.toInt then 1 else 0 := by
  unfold f_X9_isIn
  simp only [lg_neg, lg_pos, Int64.lt_iff_toInt_lt]
  by_cases h1 : x.toInt < a.toInt
  · rw [if_pos h1, if_neg (by omega)]
  · rw [if_neg h1]
    by_cases h2 : b.toInt < x.toInt
    · rw [if_pos h2, if_neg (by omega)]
    · rw [if_neg h2, if_pos (by omega)]
def bt (x : Int32) (a b : Int) : Prop := a ≤ x.toInt ∧ x.toInt ≤ b
def BH (S : Nat → Int32) (q : Nat) : Prop :=
  bt (S q) 1 999 ∧ bt (S (q + 1)) 0 1 ∧ bt (S (q + 2)) 0 5 ∧ bt (S (q + 3)) 0 3 ∧ bt (S (q + 4)) 0 100 ∧ bt (S (q + 5)) 0 (S q).toInt ∧ bt (S (q + 6)) 0 (S (q + 5)).toInt ∧ bt (S (q + 7)) 0 7 ∧ bt (S (q + 8)) 0 999 ∧ bt (S (q + 9)) (-1) 9999 ∧ (¬ S (q + 9) < 0 → bt (S (q + 10)) 0 (S (q + 9)).toInt) ∧ bt (S (q + 11)) 0 1
def BQ (S : Nat → Int32) (N : Nat) : Prop := N ≤ 30 ∧ S 1192 = Int32.ofNat N ∧ (∀ h, h < N → BH S (12 * h)) ∧ (∀ k, k < 10 → bt (S (360 + k)) 0 (if k = 0 then 9 else if k = 3 then 30 else 100))
def RQ (A : Mem) (p : Nat) (S : Nat → Int32) (q : Nat) : Prop :=
  mI A p 1 = S q ∧ mI A p 2 = S (q + 1) ∧ mI A p 3 = S (q + 2) ∧ mI A p 9 = (if S (q + 9) < 0 then 1 else 0) ∧ (¬ S (q + 9) < 0 → mI A p 10 = S (q + 9) ∧ mI A p 11 = S (q + 10))
def RR (A : Mem) (p : Nat) (S : Nat → Int32) (q : Nat) : Prop :=
  mI A p 4 = S (q + 3) ∧ mI A p 5 = S (q + 4) ∧ mI A p 6 = S (q + 5) ∧ mI A p 7 = S (q + 6) ∧ mI A (p + 1) 0 = S (q + 7) ∧ mI A (p + 1) 1 = S (q + 8) ∧ mI A p 8 = S (q + 11)
def CQ (A : Mem) (c : Nat) (S : Nat → Int32) (N : Nat) : Prop := BQ S N ∧ mI A c 1 = Int32.ofNat N ∧ (∀ h, h < N → RQ A (c + 1 + 23 + 2 * h) S (12 * h)) ∧ (∀ k, k < 10 → mI A (c + 2) k = S (360 + k))
def RU (A : Mem) (c : Nat) (S : Nat → Int32) : Prop := ∀ d, d < 4 → mI A (c + 3) d = S (370 + 3 * d) ∧ bt (S (370 + 3 * d)) 0 1 ∧ mI A (c + 4) d = S (371 + 3 * d) ∧ mI A (c + 5) d = S (372 + 3 * d)
def RM (A : Mem) (c : Nat) (S : Nat → Int32) (K : Nat) : Prop := K ≤ 10 ∧ mI A c 8 = Int32.ofNat K ∧ S 1193 = Int32.ofNat K ∧ ∀ m, m < K → ∃ L, L ≤ 80 ∧ mI A (c + 17) m = Int32.ofNat L ∧ S (382 + 81 * m) = Int32.ofNat L ∧ (∀ k, k < L → mI A (c + 6 + 1 + 1 * m) k = S (383 + 81 * m + k) ∧ bt (S (383 + 81 * m + k)) (-128) 127)
def RC (A : Mem) (c : Nat) (S : Nat → Int32) (N K : Nat) : Prop := CQ A c S N ∧ (∀ h, h < N → RR A (c + 1 + 23 + 2 * h) S (12 * h)) ∧ RU A c S ∧ RM A c S K
section
variable {A B : Mem} {c N K h : Nat} {S : Nat → Int32}
theorem cq_N (R : CQ A c S N) : N ≤ 30 := R.1.1
theorem cq_n (R : CQ A c S N) : mI A c 1 = Int32.ofNat N := R.2.1
theorem cq_h (R : CQ A c S N) (hh : h < N) : RQ A (c + 1 + 23 + 2 * h) S (12 * h) := R.2.2.1 h hh
theorem bq_h (R : BQ S N) (hh : h < N) : BH S (12 * h) := R.2.2.1 h hh
theorem get_t (k : Nat) (hh : h < 30) (hk : k < 12) : f_X9_get (Int32.ofNat h) (Int32.ofNat k) B = some (mI B 285 (12 * h + k)) := by
  unfold f_X9_get
  rw [show (12 : Int32) = Int32.ofNat 12 from rfl, o_mul, o_add, gd_t ((o_inR (by omega)).mpr (by omega)), o_clamp (by omega)]
theorem g0 (hh : h < 30) : f_X9_get (Int32.ofNat h) (0 : Int32) B = some (mI B 285 (12 * h)) := get_t 0 hh (by omega)
theorem g1 (hh : h < 30) : f_X9_get (Int32.ofNat h) (1 : Int32) B = some (mI B 285 (12 * h + 1)) := get_t 1 hh (by omega)
theorem g2 (hh : h < 30) : f_X9_get (Int32.ofNat h) (2 : Int32) B = some (mI B 285 (12 * h + 2)) := get_t 2 hh (by omega)
theorem g3 (hh : h < 30) : f_X9_get (Int32.ofNat h) (3 : Int32) B = some (mI B 285 (12 * h + 3)) := get_t 3 hh (by omega)
theorem g4 (hh : h < 30) : f_X9_get (Int32.ofNat h) (4 : Int32) B = some (mI B 285 (12 * h + 4)) := get_t 4 hh (by omega)
theorem g5 (hh : h < 30) : f_X9_get (Int32.ofNat h) (5 : Int32) B = some (mI B 285 (12 * h + 5)) := get_t 5 hh (by omega)
theorem g6 (hh : h < 30) : f_X9_get (Int32.ofNat h) (6 : Int32) B = some (mI B 285 (12 * h + 6)) := get_t 6 hh (by omega)
theorem g7 (hh : h < 30) : f_X9_get (Int32.ofNat h) (7 : Int32) B = some (mI B 285 (12 * h + 7)) := get_t 7 hh (by omega)
theorem g8 (hh : h < 30) : f_X9_get (Int32.ofNat h) (8 : Int32) B = some (mI B 285 (12 * h + 8)) := get_t 8 hh (by omega)
theorem g9 (hh : h < 30) : f_X9_get (Int32.ofNat h) (9 : Int32) B = some (mI B 285 (12 * h + 9)) := get_t 9 hh (by omega)
theorem g10 (hh : h < 30) : f_X9_get (Int32.ofNat h) (10 : Int32) B = some (mI B 285 (12 * h + 10)) := get_t 10 hh (by omega)
theorem g11 (hh : h < 30) : f_X9_get (Int32.ofNat h) (11 : Int32) B = some (mI B 285 (12 * h + 11)) := get_t 11 hh (by omega)
theorem g9x {x : Nat} (hh : h < 30) (hx : x < 2) : f_X9_get (Int32.ofNat h) ((9 : Int32) + Int32.ofNat x) B = some (mI B 285 (12 * h + 9 + x)) := by
  rw [show (9 : Int32) = Int32.ofNat 9 from rfl, o_add, get_t (9 + x) hh (by omega), Nat.add_assoc]
theorem hs (hh : h < 30) : f_X9_has (Int32.ofNat h) B = some (if mI B 285 (12 * h + 9) < 0 then 0 else 1) := by
  unfold f_X9_has
  rw [g9 hh, Option.bind_some]
  by_cases hm : mI B 285 (12 * h + 9) < 0
  · rw [if_pos hm, if_pos hm]
  · rw [if_neg hm, if_neg hm]
/-! a hall's own figures -/
def sh (S : Nat → Int32) (q : Nat) : Int32 := if S (q + 9) = 0 then 0 else S (q + 10) * 100 / S (q + 9)
def mb (S : Nat → Int32) (q : Nat) : Int32 := if S (q + 9) ≤ S q then 0 else S (q + 9) - S q
def ut (S : Nat → Int32) (q : Nat) : Int32 := if f_X9_amount (S (q + 9) - S (q + 5)) ≤ f_X9_amount (S (q + 10) - S (q + 6)) then f_X9_amount (S (q + 10) - S (q + 6)) else f_X9_amount (S (q + 9) - S (q + 5))
theorem m_share (hh : h < 30) : f_X9_share (Int32.ofNat h) B = some (sh (mI B 285) (12 * h)) := by
  unfold f_X9_share
  simp only [g9 hh, g10 hh, Option.bind_some]
  by_cases h0 : mI B 285 (12 * h + 9) = 0
  · rw [if_pos h0]; unfold sh; rw [if_pos h0]
  · rw [if_neg h0, gd_t h0]; unfold sh; rw [if_neg h0]
theorem c_share {p q : Nat} (e10 : mI A p 10 = S (q + 9)) (e11 : mI A p 11 = S (q + 10)) : f_X1_share p A = some (sh S q) := by
  unfold f_X1_share f_X8_shareOf
  rw [e10, e11]
  by_cases h0 : S (q + 9) = 0
  · rw [if_pos h0, Option.bind_some]; unfold sh; rw [if_pos h0]
  · rw [if_neg h0, gd_t h0, Option.bind_some]; unfold sh; rw [if_neg h0]
theorem jmax_e (a b : Int32) : jmax a b = if a ≤ b then b else a := by
  unfold jmax
  by_cases h1 : a < b
  · rw [if_pos h1, if_pos (by rw [Int32.lt_iff_toInt_lt] at h1; rw [Int32.le_iff_toInt_le]; omega)]
  · rw [if_neg h1]
    by_cases h2 : a ≤ b
    · rw [if_pos h2]
      rw [Int32.lt_iff_toInt_lt] at h1; rw [Int32.le_iff_toInt_le] at h2
      exact Int32.toInt_inj.mp (by omega)
    · rw [if_neg h2]
theorem jmin_e (a b : Int32) : jmin a b = if a ≤ b then a else b := by
  unfold jmin
  by_cases h1 : b < a
  · rw [if_pos h1, if_neg (by rw [Int32.lt_iff_toInt_lt] at h1; rw [Int32.le_iff_toInt_le]; omega)]
  · rw [if_neg h1, if_pos (by rw [Int32.lt_iff_toInt_lt] at h1; rw [Int32.le_iff_toInt_le]; omega)]
theorem jmin_s (a b : Int32) : jmin b a = f_X9_less a b := by
  unfold jmin f_X9_less
  by_cases h1 : a < b
  · rw [if_pos h1, if_neg (by rw [Int32.lt_iff_toInt_lt] at h1; rw [Int32.le_iff_toInt_le]; omega)]
  · rw [if_neg h1, if_pos (by rw [Int32.lt_iff_toInt_lt] at h1; rw [Int32.le_iff_toInt_le]; omega)]
theorem less_c (a b : Int32) : f_X9_less a b = f_X9_less b a := by
  unfold f_X9_less
  by_cases h1 : b ≤ a
  · rw [if_pos h1]
    by_cases h2 : a ≤ b
    · rw [if_pos h2]; rw [Int32.le_iff_toInt_le] at h1 h2; exact Int32.toInt_inj.mp (by omega)
    · rw [if_neg h2]
  · rw [if_neg h1, if_pos (by rw [Int32.le_iff_toInt_le] at h1 ⊢; omega)]
theorem jabs_e (a : Int32) : jabs a = f_X9_amount a := by
  unfold jabs f_X9_amount
  rw [Int32.zero_sub]
theorem c_must {p q : Nat} (b : BH S q) (hm : ¬ S (q + 9) < 0) (e1 : mI A p 1 = S q) (e10 : mI A p 10 = S (q + 9)) : f_X1_mustBe p A = mb S q := by
  unfold f_X1_mustBe mb
  rw [e10, e1, jmax_e]
  obtain ⟨b0, -, -, -, -, -, -, -, -, b9, -⟩ := b
  unfold bt at b0 b9
  have e := ti_sub (x := S (q + 9)) (y := S q) (by omega) (by omega)
  have z : (0 : Int32).toInt = 0 := rfl
  by_cases h1 : S (q + 9) ≤ S q
  · rw [if_pos h1]
    by_cases h2 : 0 ≤ S (q + 9) - S q
    · rw [if_pos h2]; rw [Int32.le_iff_toInt_le] at h1 h2; exact Int32.toInt_inj.mp (by omega)
    · rw [if_neg h2]
  · rw [if_neg h1, if_pos (by rw [Int32.le_iff_toInt_le] at h1 ⊢; omega)]
theorem c_untruth {p q : Nat} (e6 : mI A p 6 = S (q + 5)) (e7 : mI A p 7 = S (q + 6)) (e10 : mI A p 10 = S (q + 9)) (e11 : mI A p 11 = S (q + 10)) : f_X1_untruth p A = ut S q := by
  unfold f_X1_untruth ut
  rw [e10, e11, e6, e7, jmax_e, jabs_e, jabs_e]
theorem m_must (hh : h < 30) : f_X9_untrueOf (Int32.ofNat h) 1 B = some (mb (mI B 285) (12 * h)) := by
  unfold f_X9_untrueOf mb
  simp only [g9 hh, g0 hh, Option.bind_some, if_true]
  by_cases h1 : mI B 285 (12 * h + 9) ≤ mI B 285 (12 * h)
  · rw [if_pos h1, if_pos h1]
  · rw [if_neg h1, if_neg h1]
theorem m_untruth (hh : h < 30) : f_X9_untrueOf (Int32.ofNat h) 0 B = some (ut (mI B 285) (12 * h)) := by
  unfold f_X9_untrueOf ut
  simp only [g9 hh, g5 hh, g10 hh, g6 hh, Option.bind_some, i01, if_false]
  split <;> rfl
theorem isHall_c {x : Int32} (hn : N ≤ 30) (h : mI A c 1 = Int32.ofNat N) : f_X0_isHall c x A = if 0 ≤ x.toInt ∧ x.toInt < N then 1 else 0 := by
  unfold f_X0_isHall
  rw [within_t, h, Int32.toInt_sub, o_toInt (by omega)]
  rw [show (0 : Int32).toInt = 0 from rfl, show (1 : Int32).toInt = 1 from rfl, Int.bmod_def]
  congr 1
  apply propext
  omega
theorem isHall_m {x : Int32} (hn : N ≤ 30) (h : mI B 285 1192 = Int32.ofNat N) : f_X9_isHall x B = if 0 ≤ x.toInt ∧ x.toInt < N then 1 else 0 := by
  unfold f_X9_isHall
  rw [isIn_t, h, Int32.toInt_toInt64, Int32.toInt_toInt64, Int32.toInt_sub, o_toInt (by omega)]
  rw [show (0 : Int64).toInt = 0 from rfl, show (1 : Int32).toInt = 1 from rfl, Int.bmod_def]
  congr 1
  apply propext
  omega
theorem of_in {x : Int32} {n : Nat} (h0 : 0 ≤ x.toInt) (h1 : x.toInt < n) : ∃ i, i < n ∧ x = Int32.ofNat i := ⟨x.toInt.toNat, by omega, of_toInt h0⟩
end
