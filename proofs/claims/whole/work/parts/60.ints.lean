/-! ints -/
theorem o_toInt {i : Nat} (h : i < 2147483648) : (Int32.ofNat i).toInt = i := by
  rw [Int32.toInt_ofNat', show Int32.size = 4294967296 from rfl, Int.bmod_def]
  omega
theorem o_clamp {i : Nat} (h : i < 2147483648) : (Int32.ofNat i).toNatClampNeg = i := by
  have := o_toInt h
  rw [← Int32.toNat_toInt, this]
  simp
theorem o_lt {i j : Nat} (hi : i < 2147483648) (hj : j < 2147483648) : Int32.ofNat i < Int32.ofNat j ↔ i < j := by
  rw [Int32.lt_iff_toInt_lt, o_toInt hi, o_toInt hj]; omega
theorem o_le {i j : Nat} (hi : i < 2147483648) (hj : j < 2147483648) : Int32.ofNat i ≤ Int32.ofNat j ↔ i ≤ j := by
  rw [Int32.le_iff_toInt_le, o_toInt hi, o_toInt hj]; omega
theorem o_inj {i j : Nat} (hi : i < 2147483648) (hj : j < 2147483648) : Int32.ofNat i = Int32.ofNat j ↔ i = j := by
  constructor
  · intro h
    have := congrArg Int32.toInt h
    rw [o_toInt hi, o_toInt hj] at this
    omega
  · intro h; rw [h]
theorem o_add {i j : Nat} : Int32.ofNat i + Int32.ofNat j = Int32.ofNat (i + j) := (Int32.ofNat_add i j).symm
theorem o_mul {i j : Nat} : Int32.ofNat i * Int32.ofNat j = Int32.ofNat (i * j) := (Int32.ofNat_mul i j).symm
theorem o_succ (i : Nat) : Int32.ofNat i + 1 = Int32.ofNat (i + 1) := o_add (j := 1)
theorem o_inR {i n : Nat} (h : i < 2147483648) : inR (Int32.ofNat i) n ↔ i < n := by
  unfold inR
  rw [o_clamp h]
  have : ¬ Int32.ofNat i < 0 := by
    have := @o_lt i 0 h (by omega)
    rw [show (0 : Int32) = Int32.ofNat 0 from rfl, this]; omega
  simp [this]
theorem of_toInt {x : Int32} (h : 0 ≤ x.toInt) : x = Int32.ofNat x.toInt.toNat := by
  apply Int32.toInt_inj.mp
  have := x.toInt_lt
  rw [o_toInt (by omega)]
  omega
theorem x_of {x : Int32} {n : Nat} (hn : n < 2147483648) (h0 : ¬ x < 0) (h1 : x < Int32.ofNat n) : ∃ i, i < n ∧ x = Int32.ofNat i := by
  rw [Int32.lt_iff_toInt_lt] at h0 h1
  rw [o_toInt hn] at h1
  have h0 : ¬ x.toInt < 0 := h0
  refine ⟨x.toInt.toNat, by omega, of_toInt (by omega)⟩
/-! memory -/
theorem mI_sI (M : Mem) (a k : Nat) (v : Int32) (x y : Nat) : mI (sI M a k v) x y = if x = a ∧ y = k then v else mI M x y := rfl
theorem mI_sP (M : Mem) (a k : Nat) (v : Nat) (x y : Nat) : mI (sP M a k v) x y = mI M x y := rfl
theorem mI_sJ (M : Mem) (a k : Nat) (v : Int64) (x y : Nat) : mI (sJ M a k v) x y = mI M x y := rfl
theorem mI_cI (M : Mem) (a s b d n : Nat) (x y : Nat) : mI (cI M a s b d n) x y = if x = b ∧ d ≤ y ∧ y < d + n then mI M a (s + (y - d)) else mI M x y := rfl
theorem mP_sI (M : Mem) (a k : Nat) (v : Int32) : mP (sI M a k v) = mP M := rfl
theorem mP_cI (M : Mem) (a s b d n : Nat) : mP (cI M a s b d n) = mP M := rfl
theorem gd_t {α : Type} {c : Prop} [Decidable c] {x : Option α} (h : c) : gd c x = x := if_pos h
/-! the two sides' own tests -/
theorem within_e (x a b : Int32) : f_X8_within x a b = if a ≤ x ∧ x ≤ b then 1 else 0 := by
  unfold f_X8_within
  simp only [Int32.lt_iff_toInt_lt, Int32.le_iff_toInt_le]
  by_cases h1 : x.toInt < a.toInt
  · rw [if_pos h1, if_neg (by omega)]
  · rw [if_neg h1]
    by_cases h2 : b.toInt < x.toInt
    · rw [if_pos h2, if_neg (by omega)]
    · rw [if_neg h2, if_pos (by omega)]
theorem lg_neg (x y : Int64) : lg_cmp x y < 0 ↔ x < y := by
  unfold lg_cmp
  by_cases h1 : x > y
  · rw [if_pos h1]
    have h1' := h1
    simp only [GT.gt, Int64.lt_iff_toInt_lt] at h1' ⊢
    constructor
    · intro h; exact absurd h (by decide)
    · intro h; omega
  · rw [if_neg h1]
    by_cases h2 : x = y
    · rw [if_pos h2]; subst h2; simp only [Int64.lt_iff_toInt_lt]; constructor
      · intro h; exact absurd h (by decide)
      · intro h; omega
    · rw [if_neg h2]
      have h2' : x.toInt ≠ y.toInt := fun h => h2 (Int64.toInt_inj.mp h)
      simp only [GT.gt, Int64.lt_iff_toInt_lt] at h1 ⊢
      constructor
      · intro _; omega
      · intro _; decide
theorem lg_pos (x y : Int64) : 0 < lg_cmp x y ↔ y < x := by
  unfold lg_cmp
  by_cases h1 : x > y
  · rw [if_pos h1]
    constructor
    · intro _; exact h1
    · intro _; decide
  · rw [if_neg h1]
    constructor
    · intro h; split at h
      · exact absurd h (by decide)
      · exact absurd h (by decide)
    · intro h; exact absurd h h1
theorem isIn_e (x a b : Int32) : f_X9_isIn x.toInt64 a.toInt64 b.toInt64 = if a ≤ x ∧ x ≤ b then 1 else 0 := by
  unfold f_X9_isIn
  simp only [lg_neg, lg_pos, Int64.lt_iff_toInt_lt, Int32.toInt_toInt64, Int32.le_iff_toInt_le]
  by_cases h1 : x.toInt < a.toInt
  · rw [if_pos h1, if_neg (by omega)]
  · rw [if_neg h1]
    by_cases h2 : b.toInt < x.toInt
    · rw [if_pos h2, if_neg (by omega)]
    · rw [if_neg h2, if_pos (by omega)]
theorem isIn_w (x a b : Int32) : f_X9_isIn x.toInt64 a.toInt64 b.toInt64 = f_X8_within x a b := by rw [isIn_e, within_e]

/-! loops -/
def fdN {σ : Type} (f : Nat → σ → σ) (a : σ) : Nat → σ
  | 0 => a
  | i + 1 => f i (fdN f a i)
theorem fdN_congr {σ : Type} {f g : Nat → σ → σ} {a : σ} : ∀ {n : Nat}, (∀ i, i < n → ∀ s, f i s = g i s) → fdN f a n = fdN g a n
  | 0, _ => rfl
  | n + 1, h => by
    show f n (fdN f a n) = g n (fdN g a n)
    rw [fdN_congr (n := n) (fun i hi => h i (by omega)), h n (by omega)]
theorem up_rule {σ β : Type} {L : Nat → Int32 → σ → Option β} {N : Nat} (P : Nat → σ → Prop) (Q : Option β → Prop)
    (hend : ∀ n s, P N s → Q (L (n + 1) (Int32.ofNat N) s))
    (hstep : ∀ n i s, i < N → P i s → (∃ s', P (i + 1) s' ∧ L (n + 1) (Int32.ofNat i) s = L n (Int32.ofNat (i + 1)) s') ∨ Q (L (n + 1) (Int32.ofNat i) s)) :
    ∀ k n i s, i + k = N → k < n → P i s → Q (L n (Int32.ofNat i) s) := by
  intro k
  induction k with
  | zero =>
    intro n i s h hn hp
    obtain ⟨m, rfl⟩ : ∃ m, n = m + 1 := ⟨n - 1, by omega⟩
    have e : i = N := by omega
    subst e; exact hend m s hp
  | succ k ih =>
    intro n i s h hn hp
    obtain ⟨m, rfl⟩ : ∃ m, n = m + 1 := ⟨n - 1, by omega⟩
    rcases hstep m i s (by omega) hp with ⟨s', hp', e⟩ | hq
    · rw [e]; exact ih m (i + 1) s' (by omega) (by omega) hp'
    · exact hq
theorem FU_eq : FU = 19999 + 1 := rfl
theorem up_run {σ β : Type} {L : Nat → Int32 → σ → Option β} (N : Nat) (P : Nat → σ → Prop) (Q : Option β → Prop) (hN : N < 20000)
    (hend : ∀ n s, P N s → Q (L (n + 1) (Int32.ofNat N) s))
    (hstep : ∀ n i s, i < N → P i s → (∃ s', P (i + 1) s' ∧ L (n + 1) (Int32.ofNat i) s = L n (Int32.ofNat (i + 1)) s') ∨ Q (L (n + 1) (Int32.ofNat i) s))
    (s : σ) (h : P 0 s) : Q (L FU (Int32.ofNat 0) s) := up_rule P Q hend hstep N FU 0 s (by omega) (by rw [FU_eq]; omega) h
theorem up_val {σ β : Type} {L : Nat → Int32 → σ → Option β} (N : Nat) (f : Nat → σ → σ) (o : σ → Option β) (hN : N < 20000)
    (hend : ∀ n s, L (n + 1) (Int32.ofNat N) s = o s)
    (hstep : ∀ n i s, i < N → L (n + 1) (Int32.ofNat i) s = L n (Int32.ofNat (i + 1)) (f i s)) (a : σ) : L FU (Int32.ofNat 0) a = o (fdN f a N) := by
  refine up_run N (fun i s => s = fdN f a i) (fun r => r = o (fdN f a N)) hN ?_ ?_ a rfl
  · intro n s h; rw [hend, h]
  · intro n i s hi h
    refine Or.inl ⟨f i s, ?_, hstep n i s hi⟩
    rw [h]; rfl
/-- a loop whose steps keep a property -/
theorem up_inv {σ β : Type} {L : Nat → Int32 → σ → Option β} (N : Nat) (f : Nat → σ → σ) (o : σ → Option β) (I : Nat → σ → Prop) (hN : N < 20000)
    (hend : ∀ n s, I N s → L (n + 1) (Int32.ofNat N) s = o s)
    (hstep : ∀ n i s, i < N → I i s → L (n + 1) (Int32.ofNat i) s = L n (Int32.ofNat (i + 1)) (f i s) ∧ I (i + 1) (f i s)) (a : σ) (h : I 0 a) : L FU (Int32.ofNat 0) a = o (fdN f a N) ∧ I N (fdN f a N) := by
  refine up_run N (fun i s => s = fdN f a i ∧ I i s) (fun r => r = o (fdN f a N) ∧ I N (fdN f a N)) hN ?_ ?_ a ⟨rfl, h⟩
  · intro n s h; rw [hend n s h.2, ← h.1]; exact ⟨rfl, h.2⟩
  · intro n i s hi h
    have e := hstep n i s hi h.2
    refine Or.inl ⟨f i s, ⟨?_, e.2⟩, e.1⟩
    rw [h.1]; rfl
theorem le_t {N : Nat} (h : N < 2147483648) : (Int32.ofNat N ≤ Int32.ofNat N) = True := by simp [o_le h h]
theorem le_f {i N : Nat} (h : N < 2147483648) (hi : i < N) : (Int32.ofNat N ≤ Int32.ofNat i) = False := by
  rw [o_le h (by omega)]; simp; omega
theorem gd_r {α : Type} {i n : Nat} {x : Option α} (h : i < 2147483648) (hi : i < n) : gd (inR (Int32.ofNat i) n) x = x := gd_t ((o_inR h).mpr hi)
theorem pr_t {p : Prop} [Decidable p] {α : Type} {a b : α} (h : p) : (if p then a else b) = a := if_pos h
theorem pr_f {p : Prop} [Decidable p] {α : Type} {a b : α} (h : ¬ p) : (if p then a else b) = b := if_neg h
/-! a row put in whole -/
def sR (M : Mem) (x : Nat) (a : Nat → Int32) : Mem := (M.1, (fun y k => if y = x then a k else M.2.1 y k), M.2.2.1, M.2.2.2)
def zu (a : Nat → Int32) (k : Nat) (v : Int32) : Nat → Int32 := fun j => if j = k then v else a j
theorem sI_sR (M : Mem) (x k : Nat) (v : Int32) : sI M x k v = sR M x (zu (mI M x) k v) := by
  show (M.1, _, M.2.2.1, M.2.2.2) = (M.1, _, M.2.2.1, M.2.2.2)
  congr 2
  funext y j
  by_cases h : y = x
  · subst h; simp [zu, mI]
  · simp [h]
theorem mI_sR_eq (M : Mem) (x : Nat) (a : Nat → Int32) : mI (sR M x a) x = a := by
  funext k; show (if x = x then a k else _) = a k
  rw [if_pos rfl]
theorem mI_sR_ne (M : Mem) {x y : Nat} (a : Nat → Int32) (h : y ≠ x) : mI (sR M x a) y = mI M y := by
  funext k; show (if y = x then a k else _) = mI M y k
  rw [if_neg h]; rfl
theorem sR_sR (M : Mem) (x : Nat) (a b : Nat → Int32) : sR (sR M x a) x b = sR M x b := by
  show (M.1, _, M.2.2.1, M.2.2.2) = (M.1, _, M.2.2.1, M.2.2.2)
  congr 2
  funext y k
  by_cases h : y = x
  · simp [h]
  · simp only [h, if_false]; show (if y = x then a k else _) = _; rw [if_neg h]
theorem sR_id (M : Mem) (x : Nat) : sR M x (mI M x) = M := by
  show (M.1, _, M.2.2.1, M.2.2.2) = M
  obtain ⟨m1, m2, m3, m4⟩ := M
  show (m1, _, m3, m4) = (m1, m2, m3, m4)
  congr 2
  funext y k
  by_cases h : y = x
  · subst h; simp [mI]
  · simp [h]
theorem sR_comm (M : Mem) {x y : Nat} (a b : Nat → Int32) (h : x ≠ y) : sR (sR M x a) y b = sR (sR M y b) x a := by
  show (M.1, _, M.2.2.1, M.2.2.2) = (M.1, _, M.2.2.1, M.2.2.2)
  congr 2
  funext z k
  show (if z = y then b k else (if z = x then a k else M.2.1 z k)) = (if z = x then a k else (if z = y then b k else M.2.1 z k))
  by_cases h1 : z = y
  · subst h1; simp [Ne.symm h]
  · simp [h1]
theorem mP_sR (M : Mem) (x : Nat) (a : Nat → Int32) : mP (sR M x a) = mP M := rfl
theorem zu_eq (a : Nat → Int32) (k : Nat) (v : Int32) : zu a k v k = v := if_pos rfl
theorem zu_ne (a : Nat → Int32) {k j : Nat} (v : Int32) (h : j ≠ k) : zu a k v j = a j := if_neg h
