/-! TURN -/
def fall (S : Nat → Int32) (h : Nat) : Int32 := (2 * S (12 * h + 10) - S (12 * h + 9)) - (2 * S (12 * h + 6) - S (12 * h + 5))
def tb (bits : Int32) (h : Nat) : Bool := decide (((bits >>> (Int32.ofNat h &&& 31)) &&& 1) = 0)
def nb (bits : Int32) (b : Nat) : Int32 := bits ||| ((1 : Int32) <<< (Int32.ofNat b &&& 31))
def cand (S : Nat → Int32) (bits : Int32) (h : Nat) : Bool := decide (¬ S (12 * h + 9) < 0) && tb bits h
def bst (S : Nat → Int32) (bits : Int32) : Nat → Option Nat := fdN (fun h b => if cand S bits h = true then (match b with
    | none => some h
    | some b' => if fall S h ≤ fall S b' then some b' else some h) else b) none
def en4 (o : Option Nat) : Int32 := match o with
  | none => -4
  | some b => Int32.ofNat b
def en1 (o : Option Nat) : Int32 := match o with
  | none => -1
  | some b => Int32.ofNat b
def cN (f : Nat → Bool) : Nat → Nat := fdN (fun h a => if f h = true then a + 1 else a) 0
theorem one_bits : ∀ b h : Fin 30, (((1 : Int32) <<< (Int32.ofNat b.val &&& 31)) >>> (Int32.ofNat h.val &&& 31)) &&& 1 = if b = h then 1 else 0 := by decide +kernel
theorem and_or1 (x y : Int32) : (x ||| y) &&& 1 = (x &&& 1) ||| (y &&& 1) := by
  apply Int32.toBitVec_inj.mp
  simp only [Int32.toBitVec_and, Int32.toBitVec_or]
  ext i
  simp [Bool.and_or_distrib_right]
theorem tb_nb {bits : Int32} {b h : Nat} (hb : b < 30) (hh : h < 30) : tb (nb bits b) h = (tb bits h && decide (h ≠ b)) := by
  unfold tb nb
  rw [Int32.shiftRight_or, and_or1, one_bits ⟨b, hb⟩ ⟨h, hh⟩]
  by_cases e : h = b
  · subst e
    simp
  · have e' : ¬ (⟨b, hb⟩ : Fin 30) = ⟨h, hh⟩ := fun q => e (by injection q with q; exact q.symm)
    rw [if_neg e']
    simp [e]
theorem cN_succ (f : Nat → Bool) (n : Nat) : cN f (n + 1) = if f n = true then cN f n + 1 else cN f n := rfl
theorem cN_le {p q : Nat → Bool} : ∀ n, (∀ h, h < n → q h = true → p h = true) → cN q n ≤ cN p n
  | 0, _ => Nat.le_refl _
  | n + 1, w => by
    have ih := cN_le n (fun h hh => w h (by omega))
    rw [cN_succ, cN_succ]
    by_cases e : q n = true
    · rw [if_pos e, if_pos (w n (by omega) e)]; omega
    · rw [if_neg e]; split <;> omega
theorem cN_lt {p q : Nat → Bool} {b : Nat} (hp : p b = true) (hq : q b = false) : ∀ n, b < n → (∀ h, h < n → q h = true → p h = true) → cN q n < cN p n
  | 0, h, _ => absurd h (by omega)
  | n + 1, h, w => by
    rw [cN_succ, cN_succ]
    by_cases e : b = n
    · subst e
      have := cN_le b (fun h hh => w h (by omega))
      rw [hp, hq, if_pos rfl, if_neg (by decide)]; omega
    · have ih := cN_lt hp hq n (by omega) (fun h hh => w h (by omega))
      by_cases e2 : q n = true
      · rw [if_pos e2, if_pos (w n (by omega) e2)]; omega
      · rw [if_neg e2]; split <;> omega
theorem cN_b (f : Nat → Bool) : ∀ n, cN f n ≤ n
  | 0 => Nat.le_refl _
  | n + 1 => by
    have := cN_b f n
    rw [cN_succ]; split <;> omega
section
variable {A B M : Mem} {c N K h b : Nat} {S : Nat → Int32} {bits : Int32}
theorem bst_succ (i : Nat) : bst S bits (i + 1) = if cand S bits i = true then (match bst S bits i with
    | none => some i
    | some b' => if fall S i ≤ fall S b' then some b' else some i) else bst S bits i := rfl
theorem bst_some : ∀ i b, bst S bits i = some b → b < i ∧ cand S bits b = true ∧ ∀ h, h < i → cand S bits h = true → fall S h ≤ fall S b
  | 0, b, e => by cases e
  | i + 1, b, e => by
    rw [bst_succ] at e
    by_cases q : cand S bits i = true
    · rw [if_pos q] at e
      cases e0 : bst S bits i with
      | none =>
        rw [e0] at e
        injection e with e; subst e
        refine ⟨by omega, q, fun h hh hc => ?_⟩
        by_cases q2 : h = i
        · subst q2; rw [Int32.le_iff_toInt_le]; omega
        · exfalso
          have : ∀ j, bst S bits j = none → ∀ h, h < j → cand S bits h = false := by
            intro j
            induction j with
            | zero => intro _ h hh; omega
            | succ j ih =>
              intro ej h hh
              rw [bst_succ] at ej
              by_cases qj : cand S bits j = true
              · rw [if_pos qj] at ej
                cases e1 : bst S bits j with
                | none => rw [e1] at ej; cases ej
                | some b1 =>
                  rw [e1] at ej
                  dsimp only at ej
                  by_cases q3 : fall S j ≤ fall S b1
                  · rw [if_pos q3] at ej; cases ej
                  · rw [if_neg q3] at ej; cases ej
              · rw [if_neg qj] at ej
                by_cases q4 : h = j
                · subst q4; simpa using qj
                · exact ih ej h (by omega)
          rw [this i e0 h (by omega)] at hc; cases hc
      | some b0 =>
        rw [e0] at e
        obtain ⟨r1, r2, r3⟩ := bst_some i b0 e0
        dsimp only at e
        by_cases q3 : fall S i ≤ fall S b0
        · rw [if_pos q3] at e; injection e with e; subst e
          refine ⟨by omega, r2, fun h hh hc => ?_⟩
          by_cases q2 : h = i
          · subst q2; exact q3
          · exact r3 h (by omega) hc
        · rw [if_neg q3] at e; injection e with e; subst e
          refine ⟨by omega, q, fun h hh hc => ?_⟩
          by_cases q2 : h = i
          · subst q2; rw [Int32.le_iff_toInt_le]; omega
          · have := r3 h (by omega) hc
            rw [Int32.le_iff_toInt_le] at this q3 ⊢; omega
    · rw [if_neg q] at e
      obtain ⟨r1, r2, r3⟩ := bst_some i b e
      refine ⟨by omega, r2, fun h hh hc => ?_⟩
      by_cases q2 : h = i
      · subst q2; exact absurd hc q
      · exact r3 h (by omega) hc
theorem c_fall {p h : Nat} (e6 : mI A p 6 = S (12 * h + 5)) (e7 : mI A p 7 = S (12 * h + 6)) (e10 : mI A p 10 = S (12 * h + 9)) (e11 : mI A p 11 = S (12 * h + 10)) : f_X1_marginFall p A = fall S h := by
  unfold f_X1_marginFall f_X1_margin fall
  rw [e6, e7, e10, e11]
theorem m_fall (hh : h < 30) : f_X9_falls (Int32.ofNat h) B = some (fall (mI B 285) h) := by
  unfold f_X9_falls fall
  simp only [g10 hh, g9 hh, g6 hh, g5 hh, Option.bind_some]
  congr 1
  generalize mI B 285 (12 * h + 10) = a
  generalize mI B 285 (12 * h + 9) = b
  generalize mI B 285 (12 * h + 6) = c
  generalize mI B 285 (12 * h + 5) = d
  grind
theorem en4_ne {b : Nat} (hb : b < 30) : ¬ en4 (some b) = -4 := by
  intro e
  have := congrArg Int32.toInt e
  rw [show en4 (some b) = Int32.ofNat b from rfl, o_toInt (by omega), show (-4 : Int32).toInt = -4 from rfl] at this
  omega
theorem c_mf (R : RC A c S N K) (bits : Int32) : f_X0_mostFalling c bits A = some (en4 (bst S bits N)) := by
  have hN := R.1.1.1
  have en := R.1.2.1
  refine up_run (L := fun n x s => L_X0_mostFalling_5 n c bits s x A) N (fun i s => s = en4 (bst S bits i)) (fun o => o = some (en4 (bst S bits N))) (by omega) ?_ ?_ (-4) rfl
  · intro n s hp
    simp (disch := omega) only [L_X0_mostFalling_5, en, le_t, if_true]
    rw [hp]
  · intro n i s hi hp
    left
    subst hp
    obtain ⟨e1, e2, e3, e9, ew⟩ := R.1.2.2.1 i hi
    obtain ⟨e4, e5, e6, e7, f0, f1, e8⟩ := R.2.1 i hi
    refine ⟨_, rfl, ?_⟩
    rw [bst_succ]
    simp (disch := omega) only [L_X0_mostFalling_5, B_X0_mostFalling_37, B_X0_mostFalling_74, B_X0_mostFalling_72, en, le_f, if_false, ↓gd_r, o_clamp, o_succ, e9, i10, if_true]
    by_cases hm : S (12 * i + 9) < 0
    · rw [if_pos hm, if_neg n10, show cand S bits i = false by simp [cand, hm], if_neg (by decide)]
    obtain ⟨e10, e11⟩ := ew hm
    rw [if_neg hm, if_pos rfl]
    by_cases q1 : ((bits >>> (Int32.ofNat i &&& 31)) &&& 1) = 0
    · rw [if_pos q1, show cand S bits i = true by simp [cand, hm, tb, q1], if_pos rfl]
      cases e0 : bst S bits i with
      | none => rw [if_pos (show en4 none = -4 from rfl)]; rfl
      | some b =>
        obtain ⟨r1, r2, r3⟩ := bst_some i b e0
        obtain ⟨e1', e2', e3', e9', ew'⟩ := R.1.2.2.1 b (by omega)
        obtain ⟨e4', e5', e6', e7', f0', f1', e8'⟩ := R.2.1 b (by omega)
        have hmb : ¬ S (12 * b + 9) < 0 := by
          unfold cand at r2
          rw [Bool.and_eq_true] at r2
          exact of_decide_eq_true r2.1
        obtain ⟨e10', e11'⟩ := ew' hmb
        rw [if_neg (en4_ne (by omega)), show en4 (some b) = Int32.ofNat b from rfl, gd_r (by omega) (by omega), o_clamp (by omega), c_fall e6 e7 e10 e11, c_fall e6' e7' e10' e11']
        dsimp only
        by_cases q3 : fall S i ≤ fall S b
        · rw [if_pos q3, if_pos q3]; rfl
        · rw [if_neg q3, if_neg q3]; rfl
    · rw [if_neg q1, show cand S bits i = false by simp [cand, tb, q1], if_neg (by decide)]
theorem m_mf (R : BQ (mI B 285) N) (rc : Int32 → Int32 → Int32 → Mem → Option Int32) (x1 x3 bits : Int32) : L_X9_turn_70 rc FU x1 bits x3 (-1) 0 B = B_X9_turn_131 rc x1 bits x3 (en1 (bst (mI B 285) bits N)) B := by
  have hN := R.1
  have en := R.2.1
  refine up_run (L := fun n x s => L_X9_turn_70 rc n x1 bits x3 s x B) N (fun i s => s = en1 (bst (mI B 285) bits i)) (fun o => o = B_X9_turn_131 rc x1 bits x3 (en1 (bst (mI B 285) bits N)) B) (by omega) ?_ ?_ (-1) rfl
  · intro n s hp
    simp (disch := omega) only [L_X9_turn_70, en, le_t, if_true]
    rw [hp]
  · intro n i s hi hp
    left
    subst hp
    have hi' : i < 30 := by omega
    refine ⟨_, rfl, ?_⟩
    rw [bst_succ]
    simp (disch := omega) only [L_X9_turn_70, B_X9_turn_125, B_X9_turn_121, en, le_f, if_false, o_succ, hs hi', Option.bind_some]
    by_cases hm : mI B 285 (12 * i + 9) < 0
    · rw [if_pos hm, if_pos rfl, show cand (mI B 285) bits i = false by simp [cand, hm], if_neg (by decide)]
    rw [if_neg hm, if_neg n10]
    by_cases q1 : ((bits >>> (Int32.ofNat i &&& 31)) &&& 1) = 0
    · rw [if_pos q1, show cand (mI B 285) bits i = true by simp [cand, hm, tb, q1], if_pos rfl]
      cases e0 : bst (mI B 285) bits i with
      | none => rw [if_pos (show en1 none < 0 by decide)]; rfl
      | some b =>
        obtain ⟨r1, r2, r3⟩ := bst_some i b e0
        rw [show en1 (some b) = Int32.ofNat b from rfl, if_neg (show ¬ Int32.ofNat b < 0 by rw [show (0 : Int32) = Int32.ofNat 0 from rfl, o_lt (by omega) (by omega)]; omega), m_fall hi', m_fall (by omega), Option.bind_some, Option.bind_some]
        dsimp only
        by_cases q3 : fall (mI B 285) i ≤ fall (mI B 285) b
        · rw [if_pos q3, if_pos q3]; rfl
        · rw [if_neg q3, if_neg q3]; rfl
    · rw [if_neg q1, show cand (mI B 285) bits i = false by simp [cand, tb, q1], if_neg (by decide)]
theorem fall_b (b : BH S (12 * h)) (hm : ¬ S (12 * h + 9) < 0) : -50000 ≤ (fall S h).toInt ∧ (fall S h).toInt ≤ 50000 := by
  obtain ⟨b0, b1, b2', b3, b4, b5, b6, b7, b8, b9, b10, b11⟩ := b
  have b10' := b10 hm
  unfold bt at b0 b5 b6 b9 b10'
  rw [Int32.lt_iff_toInt_lt, ti_zero] at hm
  unfold fall
  have z2 : (2 : Int32).toInt = 2 := rfl
  have a1 : ((2 : Int32) * S (12 * h + 10)).toInt = 2 * (S (12 * h + 10)).toInt := by rw [ti_mul (by rw [z2]; omega) (by rw [z2]; omega), z2]
  have a2 : ((2 : Int32) * S (12 * h + 6)).toInt = 2 * (S (12 * h + 6)).toInt := by rw [ti_mul (by rw [z2]; omega) (by rw [z2]; omega), z2]
  have a3 : ((2 : Int32) * S (12 * h + 10) - S (12 * h + 9)).toInt = 2 * (S (12 * h + 10)).toInt - (S (12 * h + 9)).toInt := by rw [ti_sub (by rw [a1]; omega) (by rw [a1]; omega), a1]
  have a4 : ((2 : Int32) * S (12 * h + 6) - S (12 * h + 5)).toInt = 2 * (S (12 * h + 6)).toInt - (S (12 * h + 5)).toInt := by rw [ti_sub (by rw [a2]; omega) (by rw [a2]; omega), a2]
  rw [ti_sub (by rw [a3, a4]; omega) (by rw [a3, a4]; omega), a3, a4]
  omega
theorem cand_ms (q : cand S bits h = true) : ¬ S (12 * h + 9) < 0 := by
  unfold cand at q
  rw [Bool.and_eq_true] at q
  exact of_decide_eq_true q.1
theorem cand_nb (hb : b < 30) (hh : h < 30) : cand S (nb bits b) h = (cand S bits h && decide (h ≠ b)) := by
  unfold cand
  rw [tb_nb hb hh, Bool.and_assoc]
theorem cand_cnt (hN : N ≤ 30) (hb : b < N) (q : cand S bits b = true) : cN (cand S (nb bits b)) N < cN (cand S bits) N := by
  refine cN_lt q ?_ N hb (fun h hh e => ?_)
  · rw [cand_nb (by omega) (by omega)]; simp
  · rw [cand_nb (by omega) (by omega), Bool.and_eq_true] at e; exact e.1
theorem turn_neg (R : RC A c S N K) : ∀ k n (x1 bits : Int32) (tn : Nat), cN (cand S bits) N ≤ k → tn + k ≤ N → k < n → 0 < x1.toInt → x1.toInt + 50000 * k < 2147483648 → (∀ h, h < N → cand S bits h = true → (fall S h).toInt ≤ 0) → L_X0_fewestTurns_9 n c x1 bits (Int32.ofNat tn) A = some (-4) := by
  have hN := R.1.1.1
  have en := R.1.2.1
  intro k
  induction k with
  | zero =>
    intro n x1 bits tn hc ht hn h0 hb hf
    obtain ⟨m, rfl⟩ : ∃ m, n = m + 1 := ⟨n - 1, by omega⟩
    unfold L_X0_fewestTurns_9
    rw [en, if_neg (by rw [o_lt (by omega) (by omega)]; omega), if_pos (by rw [Int32.lt_iff_toInt_lt, ti_zero]; exact h0), c_mf R, Option.bind_some]
    cases e : bst S bits N with
    | none => rfl
    | some b =>
      obtain ⟨r1, r2, r3⟩ := bst_some N b e
      have := cand_cnt hN r1 r2
      omega
  | succ k ih =>
    intro n x1 bits tn hc ht hn h0 hb hf
    obtain ⟨m, rfl⟩ : ∃ m, n = m + 1 := ⟨n - 1, by omega⟩
    unfold L_X0_fewestTurns_9
    rw [en, if_neg (by rw [o_lt (by omega) (by omega)]; omega), if_pos (by rw [Int32.lt_iff_toInt_lt, ti_zero]; exact h0), c_mf R, Option.bind_some]
    cases e : bst S bits N with
    | none => rfl
    | some b =>
      obtain ⟨r1, r2, r3⟩ := bst_some N b e
      have lt := cand_cnt hN r1 r2
      obtain ⟨e1', e2', e3', e9', ew'⟩ := R.1.2.2.1 b r1
      obtain ⟨e4', e5', e6', e7', f0', f1', e8'⟩ := R.2.1 b r1
      obtain ⟨e10', e11'⟩ := ew' (cand_ms r2)
      rw [if_neg (en4_ne (by omega)), show en4 (some b) = Int32.ofNat b from rfl, gd_r (by omega) (by omega), o_clamp (by omega), c_fall e6' e7' e10' e11', o_succ]
      have fb := fall_b (bq_h R.1.1 r1) (cand_ms r2)
      have f0' := hf b r1 r2
      have es := ti_sub (x := x1) (y := fall S b) (by omega) (by omega)
      refine ih m _ _ (tn + 1) (by show cN (cand S (nb bits b)) N ≤ k; omega) (by omega) (by omega) (by rw [es]; omega) (by rw [es]; omega) (fun h hh hc' => hf h hh ?_)
      have : cand S (nb bits b) h = true := hc'
      rw [cand_nb (by omega) (by omega), Bool.and_eq_true] at this
      exact this.1
theorem turn_eq (R : RC M c (mI M 285) N K) : ∀ k n n' (x1 bits : Int32) (tn : Nat), cN (cand (mI M 285) bits) N ≤ k → tn + k ≤ N → k < n → k < n' → x1.toInt ≤ 1073741824 → ∃ r, L_X0_fewestTurns_9 n c x1 bits (Int32.ofNat tn) M = some r ∧ L_X9_turn_58 n' x1 bits (Int32.ofNat tn) M = some r := by
  have hN := R.1.1.1
  have en := R.1.2.1
  intro k
  induction k using Nat.strongRecOn with
  | ind k ih =>
    intro n n' x1 bits tn hc ht hn hn' h1
    obtain ⟨m, rfl⟩ : ∃ m, n = m + 1 := ⟨n - 1, by omega⟩
    obtain ⟨m', rfl⟩ : ∃ m, n' = m + 1 := ⟨n' - 1, by omega⟩
    unfold L_X9_turn_58
    have big := turn_neg R k (m + 1) x1 bits tn hc ht hn
    unfold L_X0_fewestTurns_9 at big ⊢
    rw [en, if_neg (by rw [o_lt (by omega) (by omega)]; omega)] at big ⊢
    by_cases q0 : 0 < x1
    · rw [if_pos q0, c_mf R, Option.bind_some] at big ⊢
      rw [if_pos q0, m_mf R.1.1]
      rw [Int32.lt_iff_toInt_lt, ti_zero] at q0
      unfold B_X9_turn_131
      cases e : bst (mI M 285) bits N with
      | none => exact ⟨_, rfl, rfl⟩
      | some b =>
        obtain ⟨r1, r2, r3⟩ := bst_some N b e
        have lt := cand_cnt hN r1 r2
        obtain ⟨e1', e2', e3', e9', ew'⟩ := R.1.2.2.1 b r1
        obtain ⟨e4', e5', e6', e7', f0', f1', e8'⟩ := R.2.1 b r1
        obtain ⟨e10', e11'⟩ := ew' (cand_ms r2)
        have fb := fall_b (bq_h R.1.1 r1) (cand_ms r2)
        rw [e] at big
        rw [show en1 (some b) = Int32.ofNat b from rfl, if_neg (show ¬ Int32.ofNat b < 0 by rw [show (0 : Int32) = Int32.ofNat 0 from rfl, o_lt (by omega) (by omega)]; omega), m_fall (by omega), Option.bind_some]
        by_cases q1 : 0 < fall (mI M 285) b
        · rw [if_pos q1, Option.bind_some, if_neg (en4_ne (by omega)), show en4 (some b) = Int32.ofNat b from rfl, gd_r (by omega) (by omega), o_clamp (by omega), c_fall e6' e7' e10' e11', o_succ]
          rw [Int32.lt_iff_toInt_lt, ti_zero] at q1
          have es := ti_sub (x := x1) (y := fall (mI M 285) b) (by omega) (by omega)
          exact ih (k - 1) (by omega) m m' _ _ (tn + 1) (by show cN (cand (mI M 285) (nb bits b)) N ≤ k - 1; omega) (by omega) (by omega) (by omega) (by rw [es]; omega)
        · rw [if_neg q1]
          rw [Int32.lt_iff_toInt_lt, ti_zero] at q1
          refine ⟨-4, big q0 (by omega) (fun h hh hc' => ?_), rfl⟩
          have := r3 h hh hc'
          rw [Int32.le_iff_toInt_le] at this
          omega
    · rw [if_neg q0, if_neg q0]; exact ⟨_, rfl, rfl⟩
def mgs (S : Nat → Int32) : Nat → Int32 := fdN (fun h a => if S (12 * h + 9) < 0 then a else a + (2 * S (12 * h + 10) - S (12 * h + 9))) 0
theorem mgs_succ (i : Nat) : mgs S (i + 1) = if S (12 * i + 9) < 0 then mgs S i else mgs S i + (2 * S (12 * i + 10) - S (12 * i + 9)) := rfl
theorem mgs_e : ∀ n, 2 * wra S n 10 - wra S n 9 = mgs S n
  | 0 => by
    show (2 : Int32) * 0 - 0 = 0
    decide
  | n + 1 => by
    have ih := mgs_e n
    rw [wra_succ, wra_succ, mgs_succ, ← ih]
    by_cases hm : S (12 * n + 9) < 0
    · simp only [hm, if_true]
    · simp only [hm, if_false]; grind
theorem mgs_b (b : ∀ h, h < N → BH S (12 * h)) : ∀ n, n ≤ N → n ≤ 30 → -30000 * (n : Int) ≤ (mgs S n).toInt ∧ (mgs S n).toInt ≤ 30000 * (n : Int)
  | 0, _, _ => by show _ ≤ (0 : Int) ∧ (0 : Int) ≤ _; omega
  | n + 1, h1, h2 => by
    have ih := mgs_b b n (by omega) (by omega)
    rw [mgs_succ]
    by_cases hm : S (12 * n + 9) < 0
    · rw [if_pos hm]; omega
    · rw [if_neg hm]
      obtain ⟨b0, b1, b2', b3, b4, b5, b6, b7, b8, b9, b10, b11⟩ := b n (by omega)
      have b10' := b10 hm
      unfold bt at b9 b10'
      rw [Int32.lt_iff_toInt_lt, ti_zero] at hm
      have z2 : (2 : Int32).toInt = 2 := rfl
      have a1 : ((2 : Int32) * S (12 * n + 10)).toInt = 2 * (S (12 * n + 10)).toInt := by rw [ti_mul (by rw [z2]; omega) (by rw [z2]; omega), z2]
      have a3 : ((2 : Int32) * S (12 * n + 10) - S (12 * n + 9)).toInt = 2 * (S (12 * n + 10)).toInt - (S (12 * n + 9)).toInt := by rw [ti_sub (by rw [a1]; omega) (by rw [a1]; omega), a1]
      rw [ti_add (by rw [a3]; omega) (by rw [a3]; omega), a3]
      omega
theorem m_turn4 (R : BQ (mI B 285) N) : f_X9_turn B = B_X9_turn_54 (mgs (mI B 285) N) B := by
  have hN := R.1
  have en := R.2.1
  refine up_val (L := fun n x a => L_X9_turn_4 n a x B) N _ (fun a => B_X9_turn_54 a B) (by omega) ?_ ?_ 0
  · intro n s
    simp (disch := omega) only [L_X9_turn_4, en, le_t, if_true]
  · intro n i s hi
    have hi' : i < 30 := by omega
    simp (disch := omega) only [L_X9_turn_4, en, le_f, if_false, hs hi', g9 hi', g10 hi', Option.bind_some, o_succ, Int32.add_zero]
    by_cases hm : mI B 285 (12 * i + 9) < 0
    · rw [if_pos hm, if_pos rfl, if_pos hm]
    · rw [if_neg hm, if_neg n10, if_neg hm]
theorem op_turn (R : RC M 1 (mI M 285) N K) : ∃ r, f_X8_turn M = some r ∧ f_X9_turn M = some r := by
  unfold f_X8_turn f_X0_fewestTurns f_X0_writtenMargin
  rw [bind_id, c_allC R, c_allO R, m_turn4 R.1.1]
  simp only [Option.bind_some]
  rw [mgs_e]
  have hN := R.1.1.1
  have := mgs_b R.1.1.2.2.1 N (Nat.le_refl _) hN
  exact turn_eq R N FU FU _ 0 0 (cN_b _ _) (by omega) (by rw [FU_eq]; omega) (by rw [FU_eq]; omega) (by omega)
end
