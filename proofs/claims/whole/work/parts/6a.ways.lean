/-! WATCHERS: COST, WAYS -/
theorem and1 (x : Int32) : x &&& 1 = 0 ∨ x &&& 1 = 1 := by
  have h : (x &&& 1).toBitVec.toNat = x.toBitVec.toNat % 2 := by
    rw [Int32.toBitVec_and, BitVec.toNat_and]
    exact Nat.and_one_is_mod _
  have h2 : x.toBitVec.toNat % 2 = 0 ∨ x.toBitVec.toNat % 2 = 1 := by omega
  rcases h2 with q | q
  · left
    apply Int32.toBitVec_inj.mp
    apply BitVec.eq_of_toNat_eq
    rw [h, q]; rfl
  · right
    apply Int32.toBitVec_inj.mp
    apply BitVec.eq_of_toNat_eq
    rw [h, q]; rfl
def sa (ar : Nat → Int32) : Nat → Int32 := fdN (fun k a => a + ar k) 0
def sin_ (ar : Nat → Int32) (x : Int32) : Nat → Int32 := fdN (fun k a => if tb x k = true then a else a + ar k) 0
def lk (S : Nat → Int32) : Nat → Nat × (Nat → Int32) × Int32 × Nat := fdN (fun h s => if S (12 * h + 9) < 0 then s else (s.1 + 1, zu s.2.1 s.1 (sh S (12 * h)), s.2.2.1 ||| (S (12 * h + 11) <<< (Int32.ofNat s.1 &&& 31)), if S (12 * h + 11) = 0 then s.2.2.2 else s.2.2.2 + 1)) (0, (fun _ => 0), 0, 0)
theorem lk_succ (S : Nat → Int32) (i : Nat) : lk S (i + 1) = if S (12 * i + 9) < 0 then lk S i else ((lk S i).1 + 1, zu (lk S i).2.1 (lk S i).1 (sh S (12 * i)), (lk S i).2.2.1 ||| (S (12 * i + 11) <<< (Int32.ofNat (lk S i).1 &&& 31)), if S (12 * i + 11) = 0 then (lk S i).2.2.2 else (lk S i).2.2.2 + 1) := rfl
theorem sa_succ (ar : Nat → Int32) (k : Nat) : sa ar (k + 1) = sa ar k + ar k := rfl
theorem sin_succ (ar : Nat → Int32) (x : Int32) (k : Nat) : sin_ ar x (k + 1) = if tb x k = true then sin_ ar x k else sin_ ar x k + ar k := rfl
theorem sa_cong {a b : Nat → Int32} : ∀ n, (∀ k, k < n → a k = b k) → sa a n = sa b n
  | 0, _ => rfl
  | n + 1, w => by rw [sa_succ, sa_succ, sa_cong n (fun k hk => w k (by omega)), w n (by omega)]
theorem sin_cong {a b : Nat → Int32} {x y : Int32} (n : Nat) (w : ∀ k, k < n → a k = b k ∧ tb x k = tb y k) : sin_ a x n = sin_ b y n := by
  induction n with
  | zero =>
    show (0 : Int32) = 0
    rfl
  | succ n ih =>
    obtain ⟨w1, w2⟩ := w n (by omega)
    rw [sin_succ, sin_succ, ih (fun k hk => w k (by omega)), w1, w2]
theorem tb_or1 {x : Int32} {b h : Nat} (hb : b < 30) (hh : h < 30) : tb (x ||| ((1 : Int32) <<< (Int32.ofNat b &&& 31))) h = (tb x h && decide (h ≠ b)) := tb_nb hb hh
theorem tb_or0 {x : Int32} {b : Nat} : x ||| ((0 : Int32) <<< (Int32.ofNat b &&& 31)) = x := by
  rw [Int32.zero_shiftLeft, Int32.or_zero]
theorem tb_0 (h : Nat) : tb 0 h = true := by
  unfold tb
  rw [Int32.zero_shiftRight, Int32.zero_and]; rfl
theorem cost_id (ar : Nat → Int32) (x N W : Int32) : ∀ n, fdN (fun k a => if tb x k = true then a + (-(ar k)) * W else a + ar k * (N - W)) 0 n = sin_ ar x n * (N - W) - (sa ar n - sin_ ar x n) * W
  | 0 => by
    show (0 : Int32) = 0 * (N - W) - (0 - 0) * W
    grind
  | n + 1 => by
    have ih := cost_id ar x N W n
    show (if tb x n = true then _ else _) = _
    rw [sin_succ, sa_succ, ih]
    generalize sin_ ar x n = s
    generalize sa ar n = t
    generalize ar n = v
    by_cases q : tb x n = true
    · rw [if_pos q, if_pos q]; grind
    · rw [if_neg q, if_neg q]; grind
theorem sa_b {ar : Nat → Int32} : ∀ n, n ≤ 30 → (∀ k, k < n → bt (ar k) 0 100) → bt (sa ar n) 0 (100 * (n : Int))
  | 0, _, _ => by unfold bt; show (0 : Int) ≤ 0 ∧ (0 : Int) ≤ _; omega
  | n + 1, h, w => by
    have ih := sa_b n (by omega) (fun k hk => w k (by omega))
    have v := w n (by omega)
    unfold bt at ih v ⊢
    rw [sa_succ, ti_add (by omega) (by omega)]
    omega
theorem sin_b {ar : Nat → Int32} {x : Int32} : ∀ n, n ≤ 30 → (∀ k, k < n → bt (ar k) 0 100) → bt (sin_ ar x n) 0 (100 * (n : Int))
  | 0, _, _ => by unfold bt; show (0 : Int) ≤ 0 ∧ (0 : Int) ≤ _; omega
  | n + 1, h, w => by
    have ih := sin_b (x := x) n (by omega) (fun k hk => w k (by omega))
    have v := w n (by omega)
    unfold bt at ih v ⊢
    rw [sin_succ]
    by_cases q : tb x n = true
    · rw [if_pos q]; omega
    · rw [if_neg q, ti_add (by omega) (by omega)]; omega
theorem pow_all : ∀ n : Fin 15, (1 : Int32) <<< (Int32.ofNat n.val &&& 31) = Int32.ofNat (2 ^ n.val) := by decide +kernel
section
variable {A B M M' : Mem} {c N K h k : Nat} {S : Nat → Int32}
theorem sh_b (b : BH S (12 * h)) (hm : ¬ S (12 * h + 9) < 0) : bt (sh S (12 * h)) 0 100 := by
  obtain ⟨b0, b1, b2', b3, b4, b5, b6, b7, b8, b9, b10, b11⟩ := b
  have b10' := b10 hm
  unfold bt at b9 b10' ⊢
  rw [Int32.lt_iff_toInt_lt, ti_zero] at hm
  have e9 := of_toInt (x := S (12 * h + 9)) (by omega)
  have e10 := of_toInt (x := S (12 * h + 10)) (by omega)
  have l1 : (S (12 * h + 9)).toInt.toNat ≤ 9999 := by omega
  have l2 : (S (12 * h + 10)).toInt.toNat ≤ (S (12 * h + 9)).toInt.toNat := by omega
  unfold sh
  generalize (S (12 * h + 9)).toInt.toNat = m at e9 l1 l2
  generalize (S (12 * h + 10)).toInt.toNat = o at e10 l2
  by_cases q : S (12 * h + 9) = 0
  · rw [if_pos q, ti_zero]; omega
  · rw [if_neg q, e9, e10, show (100 : Int32) = Int32.ofNat 100 from rfl, o_mul, o_div (by omega) (by omega)]
    have m0 : m ≠ 0 := fun e => q (by rw [e9, e]; rfl)
    have : o * 100 / m ≤ 100 := Nat.div_le_of_le_mul (Nat.mul_le_mul_right 100 l2)
    generalize o * 100 / m = z at this ⊢
    rw [o_toInt (by omega)]
    omega
theorem lk_p (R : BQ S N) : ∀ i, i ≤ N → (lk S i).1 ≤ i ∧ (lk S i).2.2.2 ≤ (lk S i).1 ∧ (∀ k, k < (lk S i).1 → bt ((lk S i).2.1 k) 0 100) ∧ ∀ k, (lk S i).1 ≤ k → k < 30 → tb (lk S i).2.2.1 k = true
  | 0, _ => ⟨Nat.le_refl _, Nat.le_refl _, fun k hk => absurd hk (by show ¬ k < 0; omega), fun k _ _ => tb_0 k⟩
  | i + 1, hi => by
    have hN := R.1
    obtain ⟨h1, h2, h3, h4⟩ := lk_p R i (by omega)
    rw [lk_succ]
    by_cases hm : S (12 * i + 9) < 0
    · rw [if_pos hm]; exact ⟨by omega, h2, h3, h4⟩
    · rw [if_neg hm]
      have bh := bq_h R (h := i) (by omega)
      refine ⟨by dsimp only; omega, ?_, fun k hk => ?_, fun k hk hk' => ?_⟩
      · dsimp only; split <;> omega
      · dsimp only at hk ⊢
        by_cases e : k = (lk S i).1
        · rw [e, zu_eq]; exact sh_b bh hm
        · rw [zu_ne _ _ e]; exact h3 k (by omega)
      · dsimp only at hk ⊢
        rcases b01 bh.2.2.2.2.2.2.2.2.2.2.2 with q | q
        · rw [q, tb_or0]; exact h4 k (by omega) hk'
        · rw [q, tb_or1 (by omega) hk', h4 k (by omega) hk']
          simp; omega
/-- what the class's look leaves -/
def LkC (S : Nat → Int32) (i : Nat) (M : Mem) : Prop := mI M 254 1 = Int32.ofNat (lk S i).1 ∧ mI M 254 2 = sa (lk S i).2.1 (lk S i).1 ∧ mI M 254 3 = Int32.ofNat (lk S i).2.2.2 ∧ mI M 254 4 = sin_ (lk S i).2.1 (lk S i).2.2.1 (lk S i).1 ∧ ∀ k, k < (lk S i).1 → mI M 255 k = (lk S i).2.1 k
theorem sums_step (R : BQ S N) {i : Nat} (hi : i < N) (hm : ¬ S (12 * i + 9) < 0) : sa (zu (lk S i).2.1 (lk S i).1 (sh S (12 * i))) ((lk S i).1 + 1) = sa (lk S i).2.1 (lk S i).1 + sh S (12 * i) ∧ sin_ (zu (lk S i).2.1 (lk S i).1 (sh S (12 * i))) ((lk S i).2.2.1 ||| (S (12 * i + 11) <<< (Int32.ofNat (lk S i).1 &&& 31))) ((lk S i).1 + 1) = if S (12 * i + 11) = 0 then sin_ (lk S i).2.1 (lk S i).2.2.1 (lk S i).1 else sin_ (lk S i).2.1 (lk S i).2.2.1 (lk S i).1 + sh S (12 * i) := by
  have hN := R.1
  obtain ⟨h1, h2, h3, h4⟩ := lk_p R i (by omega)
  have bh := bq_h R (h := i) (by omega)
  refine ⟨?_, ?_⟩
  · rw [sa_succ, zu_eq, sa_cong (b := (lk S i).2.1) (lk S i).1 (fun k hk => zu_ne _ _ (by omega))]
  · rw [sin_succ, zu_eq]
    rcases b01 bh.2.2.2.2.2.2.2.2.2.2.2 with q | q
    · rw [q, tb_or0, h4 _ (Nat.le_refl _) (by omega), if_pos rfl, if_pos rfl]
      exact sin_cong _ (fun k hk => ⟨zu_ne _ _ (by omega), rfl⟩)
    · rw [q, tb_or1 (by omega) (by omega), if_neg (by simp), if_neg n10]
      congr 1
      exact sin_cong _ (fun k hk => ⟨zu_ne _ _ (by omega), by rw [tb_or1 (by omega) (by omega)]; simp; omega⟩)
theorem c_look (R : RC M 1 S N K) : ∃ M', f_X7_look 1 M = some M' ∧ FrA M M' 254 255 ∧ LkC S N M' := by
  have hN := cq_N R.1
  unfold f_X7_look
  refine up_run (L := fun n x (s : Mem) => L_X7_look_22 n 1 x s) N (fun i s => FrA M s 254 255 ∧ LkC S i s) (fun o => ∃ M', o = some M' ∧ FrA M M' 254 255 ∧ LkC S N M') (by omega) ?_ ?_ _ ?_
  · rintro n s ⟨hf, hl⟩
    have en : mI s 1 1 = Int32.ofNat N := by rw [hf 1 (by decide) (by decide)]; exact R.1.2.1
    simp (disch := omega) only [L_X7_look_22, en, le_t, if_true]
    exact ⟨s, rfl, hf, hl⟩
  · rintro n i s hi ⟨hf, hl⟩
    left
    have en : mI s 1 1 = Int32.ofNat N := by rw [hf 1 (by decide) (by decide)]; exact R.1.2.1
    have hp : mI s (1 + 1 + 23 + 2 * i) = mI M (1 + 1 + 23 + 2 * i) := hf _ (by omega) (by omega)
    obtain ⟨e1, e2, e3, e9, ew⟩ := R.1.2.2.1 i hi
    obtain ⟨e4, e5, e6, e7, f0, f1, e8⟩ := R.2.1 i hi
    obtain ⟨p1, p2, p3, p4⟩ := lk_p R.1.1 i (by omega)
    obtain ⟨l1, l2, l3, l4, l5⟩ := hl
    have bh := bq_h R.1.1 hi
    have h30 : ((30 : Int32) ≤ Int32.ofNat i) = False := by rw [show (30 : Int32) = Int32.ofNat 30 from rfl, le_ofNat (by omega) (by omega)]; simp; omega
    by_cases hm : S (12 * i + 9) < 0
    · rw [if_pos hm] at e9
      refine ⟨s, ⟨hf, ?_⟩, ?_⟩
      · unfold LkC; rw [lk_succ, if_pos hm]; exact ⟨l1, l2, l3, l4, l5⟩
      · simp (disch := omega) only [L_X7_look_22, B_X7_look_131, en, le_f, h30, if_false, ↓gd_r, o_clamp, o_succ, hp, e9, i10]
    · rw [if_neg hm] at e9
      obtain ⟨e10, e11⟩ := ew hm
      obtain ⟨ss1, ss2⟩ := sums_step R.1.1 hi hm
      have hsh : ∀ M', mI M' (1 + 1 + 23 + 2 * i) = mI M (1 + 1 + 23 + 2 * i) → f_X1_share (1 + 1 + 23 + 2 * i) M' = some (sh S (12 * i)) := fun M' hM' => c_share (by rw [hM']; exact e10) (by rw [hM']; exact e11)
      have hs0 := hsh s hp
      have hs1 : ∀ a v b w, f_X1_share (1 + 1 + 23 + 2 * i) (sI (sI s 255 a v) 254 b w) = some (sh S (12 * i)) := fun a v b w => hsh _ (by rw [mI_sI_ne (by omega), mI_sI_ne (by omega)]; exact hp)
      have hs2 : ∀ a v b w b1 w1 b3 w3, f_X1_share (1 + 1 + 23 + 2 * i) (sI (sI (sI (sI s 255 a v) 254 b w) 254 b1 w1) 254 b3 w3) = some (sh S (12 * i)) := fun a v b w b1 w1 b3 w3 => hsh _ (by rw [mI_sI_ne (by omega), mI_sI_ne (by omega), mI_sI_ne (by omega), mI_sI_ne (by omega)]; exact hp)
      refine ⟨sI (sI (sI (sI (sI s 255 (lk S i).1 (sh S (12 * i))) 254 1 (Int32.ofNat ((lk S i).1 + 1))) 254 2 (sa (lk S i).2.1 (lk S i).1 + sh S (12 * i))) 254 3 (Int32.ofNat (if S (12 * i + 11) = 0 then (lk S i).2.2.2 else (lk S i).2.2.2 + 1))) 254 4 (if S (12 * i + 11) = 0 then sin_ (lk S i).2.1 (lk S i).2.2.1 (lk S i).1 else sin_ (lk S i).2.1 (lk S i).2.2.1 (lk S i).1 + sh S (12 * i)), ⟨fun z z1 z2 => ?_, ?_⟩, ?_⟩
      · rw [mI_sI_ne z1, mI_sI_ne z1, mI_sI_ne z1, mI_sI_ne z1, mI_sI_ne z2]; exact hf z z1 z2
      · unfold LkC
        rw [lk_succ, if_neg hm]
        dsimp only
        rw [ss1, ss2]
        simp (disch := omega) only [mI_sI_ne, mI_sI_k, mI_sI_eq]
        refine ⟨trivial, trivial, trivial, trivial, fun k hk => ?_⟩
        by_cases e : k = (lk S i).1
        · rw [e, mI_sI_eq, zu_eq]
        · rw [mI_sI_k e, zu_ne _ _ e]; exact l5 k (by omega)
      · rcases b01 bh.2.2.2.2.2.2.2.2.2.2.2 with q | q
        · have e8' : mI s (1 + 1 + 23 + 2 * i) 8 = 0 := by rw [hp, e8, q]
          simp (disch := omega) only [L_X7_look_22, B_X7_look_131, en, le_f, h30, if_false, if_true, ↓gd_r, o_clamp, hp, e9, hs0, hs1, hs2, Option.bind_some, l1, l2, l3, l4, mI_sI_ne, mI_sI_k, mI_sI_eq, e8, q, Int32.add_zero, o_succ]
        · have n1 : ((1 : Int32) = 0) = False := i10
          simp (disch := omega) only [L_X7_look_22, B_X7_look_131, en, le_f, h30, if_false, if_true, ↓gd_r, o_clamp, hp, e9, hs0, hs1, hs2, Option.bind_some, l1, l2, l3, l4, mI_sI_ne, mI_sI_k, mI_sI_eq, e8, q, n1, o_succ]
  · refine ⟨fun z z1 z2 => by rw [mI_sI_ne z1, mI_sI_ne z1, mI_sI_ne z1, mI_sI_ne z1], ?_⟩
    unfold LkC
    simp (disch := omega) only [mI_sI_ne, mI_sI_k, mI_sI_eq]
    exact ⟨rfl, rfl, rfl, rfl, fun k hk => absurd hk (by show ¬ k < 0; omega)⟩
def LkM (S : Nat → Int32) (i : Nat) (M : Mem) : Prop := mI M 284 13 = Int32.ofNat (lk S i).1 ∧ mI M 284 14 = Int32.ofNat (lk S i).2.2.2 ∧ ∀ k, k < (lk S i).1 → mI M 294 k = (lk S i).2.1 k
def FrM (B M : Mem) : Prop := (∀ z, z ≠ 284 → z ≠ 294 → mI M z = mI B z) ∧ ∀ j, j ≠ 13 → j ≠ 14 → mI M 284 j = mI B 284 j
theorem m_look (R : BQ (mI B 285) N) : ∃ M', f_X9_findWatched B = some ((lk (mI B 285) N).2.2.1, M') ∧ FrM B M' ∧ LkM (mI B 285) N M' := by
  have hN := R.1
  unfold f_X9_findWatched
  refine up_run (L := fun n x (s : Int32 × Mem) => L_X9_findWatched_14 n s.1 x s.2) N (fun i s => s.1 = (lk (mI B 285) i).2.2.1 ∧ FrM B s.2 ∧ LkM (mI B 285) i s.2) (fun o => ∃ M', o = some ((lk (mI B 285) N).2.2.1, M') ∧ FrM B M' ∧ LkM (mI B 285) N M') (by omega) ?_ ?_ (0, sI (sI B 284 13 0) 284 14 0) ?_
  · rintro n ⟨s1, s⟩ ⟨rfl, hf, hl⟩
    dsimp only at hf hl
    have en : mI s 285 1192 = Int32.ofNat N := by rw [hf.1 285 (by decide) (by decide)]; exact R.2.1
    simp (disch := omega) only [L_X9_findWatched_14, en, le_t, if_true]
    exact ⟨s, rfl, hf, hl⟩
  · rintro n i ⟨s1, s⟩ hi ⟨rfl, hf, hl⟩
    dsimp only at hf hl
    left
    have hi' : i < 30 := by omega
    have m5 : mI s 285 = mI B 285 := hf.1 285 (by decide) (by decide)
    have en : mI s 285 1192 = Int32.ofNat N := by rw [m5]; exact R.2.1
    obtain ⟨p1, p2, p3, p4⟩ := lk_p R i (by omega)
    obtain ⟨l1, l2, l3⟩ := hl
    have bh := bq_h R hi
    by_cases hm : mI B 285 (12 * i + 9) < 0
    · refine ⟨((lk (mI B 285) i).2.2.1, s), ⟨?_, hf, ?_⟩, ?_⟩
      · rw [lk_succ, if_pos hm]
      · unfold LkM; rw [lk_succ, if_pos hm]; exact ⟨l1, l2, l3⟩
      · simp (disch := omega) only [L_X9_findWatched_14, B_X9_findWatched_92, en, le_f, if_false, o_succ, hs hi', Option.bind_some, m5, hm, if_true]
    · have g' : ∀ a v, f_X9_get (Int32.ofNat i) 11 (sI s 294 a v) = some (mI B 285 (12 * i + 11)) := fun a v => by rw [g11 hi', mI_sI_ne (by decide), m5]
      refine ⟨((lk (mI B 285) (i + 1)).2.2.1, sI (sI (sI s 294 (lk (mI B 285) i).1 (sh (mI B 285) (12 * i))) 284 14 (Int32.ofNat (lk (mI B 285) i).2.2.2 + mI B 285 (12 * i + 11))) 284 13 (Int32.ofNat ((lk (mI B 285) i).1 + 1))), ⟨rfl, ⟨fun z z1 z2 => ?_, fun j j1 j2 => ?_⟩, ?_⟩, ?_⟩
      · rw [mI_sI_ne z1, mI_sI_ne z1, mI_sI_ne z2]; exact hf.1 z z1 z2
      · rw [mI_sI_k j1, mI_sI_k j2, mI_sI_ne (by decide)]; exact hf.2 j j1 j2
      · unfold LkM
        rw [lk_succ, if_neg hm]
        dsimp only
        simp (disch := omega) only [mI_sI_ne, mI_sI_k, mI_sI_eq]
        refine ⟨trivial, ?_, fun k hk => ?_⟩
        · rcases b01 bh.2.2.2.2.2.2.2.2.2.2.2 with q | q
          · rw [q, if_pos rfl, Int32.add_zero]
          · rw [q, if_neg n10, o_succ]
        · by_cases e : k = (lk (mI B 285) i).1
          · rw [e, mI_sI_eq, zu_eq]
          · rw [mI_sI_k e, zu_ne _ _ e]; exact l3 k (by omega)
      · rw [lk_succ, if_neg hm]
        simp (disch := omega) only [L_X9_findWatched_14, B_X9_findWatched_92, en, le_f, if_false, hs hi', m_share hi', Option.bind_some, m5, hm, i10, l1, l2, ↓gd_r, o_clamp, g', mI_sI_ne, mI_sI_k, mI_sI_eq, o_succ]
  · refine ⟨rfl, ⟨fun z z1 z2 => by dsimp only; rw [mI_sI_ne z1, mI_sI_ne z1], fun j j1 j2 => by dsimp only; rw [mI_sI_k j2, mI_sI_k j1]⟩, ?_⟩
    unfold LkM
    dsimp only
    simp (disch := omega) only [mI_sI_ne, mI_sI_k, mI_sI_eq]
    exact ⟨rfl, rfl, fun k hk => absurd hk (by show ¬ k < 0; omega)⟩
def cv (S : Nat → Int32) (N : Nat) (x : Int32) : Int32 := sin_ (lk S N).2.1 x (lk S N).1 * (Int32.ofNat (lk S N).1 - Int32.ofNat (lk S N).2.2.2) - (sa (lk S N).2.1 (lk S N).1 - sin_ (lk S N).2.1 x (lk S N).1) * Int32.ofNat (lk S N).2.2.2
theorem m_costOf (hl : LkM S N M) (hn : (lk S N).1 ≤ 30) (x : Int32) : f_X9_costOf x M = some (cv S N x) := by
  obtain ⟨l1, l2, l3⟩ := hl
  unfold cv
  rw [← cost_id]
  refine up_val (L := fun n y a => L_X9_costOf_4 n x a y M) (lk S N).1 _ some (by omega) ?_ ?_ 0
  · intro n s
    simp (disch := omega) only [L_X9_costOf_4, l1, le_t, if_true]
  · intro n i s hi
    simp (disch := omega) only [L_X9_costOf_4, l1, l2, le_f, if_false, ↓gd_r, o_clamp, o_succ, l3 i hi]
    unfold tb
    rcases and1 (x >>> (Int32.ofNat i &&& 31)) with q | q
    · rw [q, if_neg (by decide), if_pos (by decide)]
    · rw [q, if_pos rfl, if_neg (by decide)]
theorem some_c (hl : LkC S N M) (h : (lk S N).2.2.2 ≤ (lk S N).1) (hn : (lk S N).1 ≤ 30) : f_X7_areSome M = if (lk S N).2.2.2 = 0 ∨ (lk S N).2.2.2 = (lk S N).1 then 0 else 1 := by
  obtain ⟨l1, l2, l3, l4, l5⟩ := hl
  unfold f_X7_areSome
  rw [l1, l3]
  by_cases q1 : (lk S N).2.2.2 = 0
  · rw [if_pos (show Int32.ofNat (lk S N).2.2.2 ≤ 0 from (o_le (j := 0) (by omega) (by omega)).mpr (by omega)), if_pos (Or.inl q1)]
  · rw [if_neg (show ¬ Int32.ofNat (lk S N).2.2.2 ≤ 0 from fun e => by have := (o_le (j := 0) (by omega) (by omega)).mp e; omega)]
    by_cases q2 : (lk S N).2.2.2 = (lk S N).1
    · rw [if_pos ((o_le (by omega) (by omega)).mpr (by omega)), if_pos (Or.inr q2)]
    · rw [if_neg (fun e => by have := (o_le (by omega) (by omega)).mp e; omega), if_neg (fun e => e.elim q1 q2)]
theorem op_cost (R : RC M 1 (mI M 285) N K) : ∃ r M1 M2, f_X8_cost M = some (r, M1) ∧ f_X9_cost M1 = some (r, M2) ∧ Sm M M2 := by
  have hN := R.1.1.1
  obtain ⟨M1, e1, f1, k1⟩ := c_look R
  have s1 : Sm M M1 := ⟨fun y hy h4 => f1 y (fun e => hy (by rw [e]; unfold scr; omega)) (fun e => hy (by rw [e]; unfold scr; omega)), by rw [f1 284 (by decide) (by decide)]⟩
  have R1 := rc_sm R s1
  obtain ⟨M2, e2, f2, k2⟩ := m_look R1.1.1
  have s2 : Sm M1 M2 := ⟨fun y hy h4 => f2.1 y h4 (fun e => hy (by rw [e]; unfold scr; omega)), f2.2 8 (by decide) (by decide)⟩
  obtain ⟨p1, p2, p3, p4⟩ := lk_p R.1.1 N (Nat.le_refl _)
  rw [sm_285 s1] at e2 k2
  have hsome := some_c k1 p2 (by omega)
  obtain ⟨l1, l2, l3, l4, l5⟩ := k1
  have k2' := k2
  obtain ⟨j1, j2, j3⟩ := k2
  unfold f_X8_cost f_X9_cost B_X9_cost_23
  rw [e1, Option.bind_some, hsome]
  by_cases q1 : (lk (mI M 285) N).2.2.2 = 0
  · rw [if_pos (by rw [if_pos (Or.inl q1)])]
    refine ⟨_, M1, M2, rfl, ?_, sm_t s1 s2⟩
    rw [e2, Option.bind_some]
    dsimp only
    rw [j2, q1, if_pos (show Int32.ofNat 0 = 0 from rfl)]
  by_cases q2 : (lk (mI M 285) N).2.2.2 = (lk (mI M 285) N).1
  · rw [if_pos (by rw [if_pos (Or.inr q2)])]
    refine ⟨_, M1, M2, rfl, ?_, sm_t s1 s2⟩
    rw [e2, Option.bind_some]
    dsimp only
    rw [j2, j1, q2, if_neg (fun e => by have := (o_inj (j := 0) (by omega) (by omega)).mp e; omega), if_pos rfl]
  · rw [if_neg (by rw [if_neg (fun e => e.elim q1 q2)]; decide)]
    refine ⟨_, M1, M2, rfl, ?_, sm_t s1 s2⟩
    rw [e2, Option.bind_some]
    dsimp only
    rw [j2, j1, if_neg (fun e => by have := (o_inj (j := 0) (by omega) (by omega)).mp e; omega), if_neg (fun e => by have := (o_inj (by omega) (by omega)).mp e; omega), m_costOf k2' (by omega), Option.bind_some]
    unfold f_X7_worth cv
    rw [l1, l2, l3, l4]
theorem sharesIn_t (hl : LkC S N M) (hn : (lk S N).1 ≤ 30) (x : Int32) : f_X7_sharesIn x M = some (sin_ (lk S N).2.1 x (lk S N).1) := by
  obtain ⟨l1, l2, l3, l4, l5⟩ := hl
  refine up_val (L := fun n y a => L_X7_sharesIn_4 n x a y M) (lk S N).1 _ some (by omega) ?_ ?_ 0
  · intro n s
    simp (disch := omega) only [L_X7_sharesIn_4, l1, le_t, if_true]
  · intro n i s hi
    simp (disch := omega) only [L_X7_sharesIn_4, l1, le_f, if_false, ↓gd_r, o_clamp, o_succ, l5 i hi]
    unfold tb
    rcases and1 (x >>> (Int32.ofNat i &&& 31)) with q | q
    · rw [q, if_pos (by decide), Int32.zero_mul, Int32.add_zero]
    · rw [q, if_neg (by decide), Int32.one_mul]
def wys (S : Nat → Int32) (N : Nat) (w : Bool) : Int32 := fdN (fun b a => if f_J6_bitCount_0f7a4 (Int32.ofNat b) = Int32.ofNat (lk S N).2.2.2 ∧ (w = true ∨ ¬ sin_ (lk S N).2.1 (lk S N).2.2.1 (lk S N).1 < sin_ (lk S N).2.1 (Int32.ofNat b) (lk S N).1) then a + 1 else a) 0 (2 ^ (lk S N).1)
theorem pow_b {n : Nat} (h : n ≤ 14) : 2 ^ n ≤ 16384 := Nat.pow_le_pow_right (n := 2) (by omega) h
theorem c_choices (hl : LkC S N M) (hn : (lk S N).1 ≤ 14) (w : Bool) : f_X7_choices (b2 w) M = some (wys S N w) := by
  have hsh := sharesIn_t hl (by omega)
  obtain ⟨l1, l2, l3, l4, l5⟩ := hl
  have few : f_X7_areFew M = 1 := by
    unfold f_X7_areFew
    rw [l1, if_neg (fun e => by have := (o_lt (i := 14) (by omega) (by omega)).mp e; omega)]
  have pw := pow_all ⟨(lk S N).1, by omega⟩
  dsimp only at pw
  have pb := pow_b hn
  refine up_val (L := fun n y a => L_X7_choices_4 n (b2 w) a y M) (2 ^ (lk S N).1) _ some (by omega) ?_ ?_ 0
  · intro n s
    simp (disch := omega) only [L_X7_choices_4, few, i10, if_false, l1, pw, le_t, if_true]
  · intro n i s hi
    simp (disch := omega) only [L_X7_choices_4, B_X7_choices_48, B_X7_choices_51, few, i10, if_false, l1, pw, le_f, l3, hsh, Option.bind_some, l4, o_succ, b2_0]
    by_cases q1 : f_J6_bitCount_0f7a4 (Int32.ofNat i) = Int32.ofNat (lk S N).2.2.2
    · rw [if_pos q1]
      cases w
      · rw [if_pos rfl]
        by_cases q2 : sin_ (lk S N).2.1 (lk S N).2.2.1 (lk S N).1 < sin_ (lk S N).2.1 (Int32.ofNat i) (lk S N).1
        · rw [if_pos q2, if_neg (fun e => e.2.elim (by decide) (fun e => e q2))]
        · rw [if_neg q2, if_pos ⟨q1, Or.inr q2⟩]
      · rw [if_neg (by decide), if_pos ⟨q1, Or.inl rfl⟩]
    · rw [if_neg q1, if_neg (fun e => q1 e.1)]
theorem cv_lt (R : BQ S N) (hn : (lk S N).1 ≤ 14) (hn0 : 0 < (lk S N).1) (x y : Int32) : (cv S N x < cv S N y) = (sin_ (lk S N).2.1 x (lk S N).1 < sin_ (lk S N).2.1 y (lk S N).1) := by
  obtain ⟨p1, p2, p3, p4⟩ := lk_p R N (Nat.le_refl _)
  have bs := sa_b (lk S N).1 (by omega) p3
  have key : ∀ z : Int32, (cv S N z).toInt = (sin_ (lk S N).2.1 z (lk S N).1).toInt * (((lk S N).1 : Int) - ((lk S N).2.2.2 : Int)) - ((sa (lk S N).2.1 (lk S N).1).toInt - (sin_ (lk S N).2.1 z (lk S N).1).toInt) * ((lk S N).2.2.2 : Int) ∧ 0 ≤ (sin_ (lk S N).2.1 z (lk S N).1).toInt ∧ (sin_ (lk S N).2.1 z (lk S N).1).toInt ≤ 1400 := by
    intro z
    have bi := sin_b (x := z) (lk S N).1 (by omega) p3
    unfold cv
    generalize sin_ (lk S N).2.1 z (lk S N).1 = s at bi ⊢
    generalize sa (lk S N).2.1 (lk S N).1 = t at bs ⊢
    generalize (lk S N).1 = n at hn p2 bs bi ⊢
    generalize (lk S N).2.2.2 = w at p2 ⊢
    unfold bt at bs bi
    have hs1 : s.toInt ≤ 1400 := by omega
    have ht1 : t.toInt ≤ 1400 := by omega
    have e1 := o_sub (a := n) (b := w) p2 (by omega)
    have e2 : (Int32.ofNat n - Int32.ofNat w).toInt = (n : Int) - (w : Int) := by rw [e1, o_toInt (by omega)]; omega
    have e3 : (Int32.ofNat w).toInt = (w : Int) := o_toInt (by omega)
    have m1 : 0 ≤ s.toInt * ((n : Int) - (w : Int)) := Int.mul_nonneg (by omega) (by omega)
    have m2 : s.toInt * ((n : Int) - (w : Int)) ≤ 1400 * 14 := Int.mul_le_mul (by omega) (by omega) (by omega) (by omega)
    have e4 : (s * (Int32.ofNat n - Int32.ofNat w)).toInt = s.toInt * ((n : Int) - (w : Int)) := by rw [ti_mul (by rw [e2]; omega) (by rw [e2]; omega), e2]
    have e5 : (t - s).toInt = t.toInt - s.toInt := ti_sub (by omega) (by omega)
    have a1 : -1400 * 14 ≤ (t.toInt - s.toInt) * (w : Int) := by
      have : -((t.toInt - s.toInt) * (w : Int)) ≤ 1400 * 14 := by
        rw [← Int.neg_mul]
        by_cases q : 0 ≤ -(t.toInt - s.toInt)
        · exact Int.mul_le_mul (by omega) (by omega) (by omega) (by omega)
        · have := Int.mul_nonneg (a := t.toInt - s.toInt) (b := (w : Int)) (by omega) (by omega)
          rw [Int.neg_mul]; omega
      omega
    have a2 : (t.toInt - s.toInt) * (w : Int) ≤ 1400 * 14 := by
      by_cases q : 0 ≤ t.toInt - s.toInt
      · exact Int.mul_le_mul (by omega) (by omega) (by omega) (by omega)
      · have := Int.mul_nonneg (a := -(t.toInt - s.toInt)) (b := (w : Int)) (by omega) (by omega)
        rw [Int.neg_mul] at this; omega
    have e6 : ((t - s) * Int32.ofNat w).toInt = (t.toInt - s.toInt) * (w : Int) := by rw [ti_mul (by rw [e5, e3]; omega) (by rw [e5, e3]; omega), e5, e3]
    refine ⟨?_, by omega, hs1⟩
    rw [ti_sub (by rw [e4, e6]; omega) (by rw [e4, e6]; omega), e4, e6]
  obtain ⟨kx, x0, x1⟩ := key x
  obtain ⟨ky, y0, y1⟩ := key y
  rw [Int32.lt_iff_toInt_lt, Int32.lt_iff_toInt_lt, kx, ky]
  generalize (sin_ (lk S N).2.1 x (lk S N).1).toInt = a at x0 x1 ⊢
  generalize (sin_ (lk S N).2.1 y (lk S N).1).toInt = b at y0 y1 ⊢
  generalize (sa (lk S N).2.1 (lk S N).1).toInt = t
  generalize (lk S N).1 = n at hn hn0 p2
  generalize (lk S N).2.2.2 = w at p2
  have r : ∀ z : Int, z * ((n : Int) - (w : Int)) - (t - z) * (w : Int) = z * (n : Int) - t * (w : Int) := fun z => by
    rw [Int.mul_sub, Int.sub_mul]; omega
  rw [r a, r b]
  apply propext
  constructor
  · intro h
    have : a * (n : Int) < b * (n : Int) := by omega
    exact Int.lt_of_mul_lt_mul_right this (by omega)
  · intro h
    have : a * (n : Int) < b * (n : Int) := Int.mul_lt_mul_of_pos_right h (by omega)
    omega
theorem m_ways (R : BQ S N) (hl : LkM S N M) (hn : (lk S N).1 ≤ 14) (hn0 : 0 < (lk S N).1) (w : Bool) : L_X9_ways_55 FU (b2 w) (lk S N).2.2.1 0 0 M = some (wys S N w, M) := by
  have hco := m_costOf hl (by omega)
  have hl' := hl
  obtain ⟨l1, l2, l3⟩ := hl
  have pw := pow_all ⟨(lk S N).1, by omega⟩
  dsimp only at pw
  have pb := pow_b hn
  refine up_val (L := fun n y a => L_X9_ways_55 n (b2 w) (lk S N).2.2.1 a y M) (2 ^ (lk S N).1) _ (fun a => some (a, M)) (by omega) ?_ ?_ 0
  · intro n s
    simp (disch := omega) only [L_X9_ways_55, l1, pw, le_t, if_true]
  · intro n i s hi
    have hb : f_X9_bits (Int32.ofNat i) = some (f_J6_bitCount_0f7a4 (Int32.ofNat i)) := bits_t (by omega)
    simp (disch := omega) only [L_X9_ways_55, l1, pw, le_f, if_false, hb, l2, hco, Option.bind_some, o_succ, Int32.add_zero, cv_lt R hn hn0, b2_1]
    by_cases q1 : f_J6_bitCount_0f7a4 (Int32.ofNat i) = Int32.ofNat (lk S N).2.2.2
    · rw [if_pos q1]
      cases w
      · rw [if_neg (by decide)]
        by_cases q2 : sin_ (lk S N).2.1 (lk S N).2.2.1 (lk S N).1 < sin_ (lk S N).2.1 (Int32.ofNat i) (lk S N).1
        · rw [if_pos q2, if_neg (fun e => e.2.elim (by decide) (fun e => e q2))]
        · rw [if_neg q2, if_pos ⟨q1, Or.inr q2⟩]
      · rw [if_pos rfl, if_pos ⟨q1, Or.inl rfl⟩]
    · rw [if_neg q1, if_neg (fun e => q1 e.1)]
theorem op_ways (R : RC M 1 (mI M 285) N K) (x1 : Int32) : ∃ r M1 M2, f_X8_ways x1 M = some (r, M1) ∧ f_X9_ways x1 M1 = some (r, M2) ∧ Sm M M2 := by
  have hN := R.1.1.1
  unfold f_X8_ways f_X9_ways
  rw [in_w x1 0 1 0 1 rfl rfl]
  by_cases q : f_X8_within x1 0 1 = 0
  · rw [if_pos q]
    exact ⟨_, M, M, rfl, by rw [if_pos q], sm_r M⟩
  obtain ⟨i, hi, rfl⟩ := wi_o (n := 2) q (by decide)
  have hw : ∃ w : Bool, Int32.ofNat i = b2 w := by
    have : i = 0 ∨ i = 1 := by omega
    rcases this with rfl | rfl
    · exact ⟨false, rfl⟩
    · exact ⟨true, rfl⟩
  obtain ⟨w, ew⟩ := hw
  rw [ew] at q ⊢
  rw [if_neg q]
  obtain ⟨M1, e1, f1, k1⟩ := c_look R
  have s1 : Sm M M1 := ⟨fun y hy h4 => f1 y (fun e => hy (by rw [e]; unfold scr; omega)) (fun e => hy (by rw [e]; unfold scr; omega)), by rw [f1 284 (by decide) (by decide)]⟩
  have R1 := rc_sm R s1
  obtain ⟨M2, e2, f2, k2⟩ := m_look R1.1.1
  have s2 : Sm M1 M2 := ⟨fun y hy h4 => f2.1 y h4 (fun e => hy (by rw [e]; unfold scr; omega)), f2.2 8 (by decide) (by decide)⟩
  obtain ⟨p1, p2, p3, p4⟩ := lk_p R.1.1 N (Nat.le_refl _)
  rw [sm_285 s1] at e2 k2
  have hsome := some_c k1 p2 (by omega)
  have k1' := k1
  obtain ⟨l1, l2, l3, l4, l5⟩ := k1
  have k2' := k2
  obtain ⟨j1, j2, j3⟩ := k2
  have hfew : f_X7_areFew M1 = if (lk (mI M 285) N).1 ≤ 14 then 1 else 0 := by
    unfold f_X7_areFew
    rw [l1]
    by_cases q1 : (lk (mI M 285) N).1 ≤ 14
    · rw [if_pos q1, if_neg (fun e => by have := (o_lt (i := 14) (by omega) (by omega)).mp e; omega)]
    · rw [if_neg q1, if_pos (show (14 : Int32) < Int32.ofNat (lk (mI M 285) N).1 from (o_lt (i := 14) (by omega) (by omega)).mpr (by omega))]
  rw [e1, Option.bind_some, hfew]
  by_cases q1 : (lk (mI M 285) N).1 ≤ 14
  · rw [if_pos q1, if_neg n10, hsome]
    have le14 : mI M2 284 13 ≤ 14 := by rw [j1]; exact (o_le (j := 14) (by omega) (by omega)).mpr q1
    by_cases q2 : (lk (mI M 285) N).2.2.2 = 0
    · rw [if_pos (by rw [if_pos (Or.inl q2)])]
      refine ⟨_, M1, M2, rfl, ?_, sm_t s1 s2⟩
      rw [if_neg q, e2, Option.bind_some]
      dsimp only
      rw [if_pos le14, j2, q2, if_pos (show Int32.ofNat 0 = 0 from rfl)]
    by_cases q3 : (lk (mI M 285) N).2.2.2 = (lk (mI M 285) N).1
    · rw [if_pos (by rw [if_pos (Or.inr q3)])]
      refine ⟨_, M1, M2, rfl, ?_, sm_t s1 s2⟩
      rw [if_neg q, e2, Option.bind_some]
      dsimp only
      rw [if_pos le14, j2, j1, q3, if_neg (fun e => by have := (o_inj (j := 0) (by omega) (by omega)).mp e; omega), if_pos rfl]
    · rw [if_neg (by rw [if_neg (fun e => e.elim q2 q3)]; decide)]
      have ec : (if b2 w = 1 then (f_X7_choices 1 M1).bind fun q21 => some (q21, M1) else (f_X7_choices 0 M1).bind fun q17 => some (q17, M1)) = some (wys (mI M 285) N w, M1) := by
        have := c_choices k1' q1 w
        cases w
        · rw [if_neg (show ¬ b2 false = 1 by decide), show f_X7_choices 0 M1 = _ from this]; rfl
        · rw [if_pos (show b2 true = 1 from rfl), show f_X7_choices 1 M1 = _ from this]; rfl
      rw [ec]
      refine ⟨_, M1, M2, rfl, ?_, sm_t s1 s2⟩
      rw [if_neg q, e2, Option.bind_some]
      dsimp only
      rw [if_pos le14, j2, j1, if_neg (fun e => by have := (o_inj (j := 0) (by omega) (by omega)).mp e; omega), if_neg (fun e => by have := (o_inj (by omega) (by omega)).mp e; omega)]
      exact m_ways R.1.1 k2' q1 (by omega) w
  · rw [if_neg q1, if_pos rfl]
    refine ⟨_, M1, M2, rfl, ?_, sm_t s1 s2⟩
    rw [if_neg q, e2, Option.bind_some]
    dsimp only
    rw [if_neg (show ¬ mI M2 284 13 ≤ 14 from fun e => by rw [j1] at e; have := (o_le (j := 14) (by omega) (by omega)).mp e; omega)]
end
