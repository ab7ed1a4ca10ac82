/-! MIDDLES -/
theorem o_div {n k : Nat} (hn : n < 2147483648) (hk : k < 2147483648) : Int32.ofNat n / Int32.ofNat k = Int32.ofNat (n / k) := (Int32.ofNat_div (by omega) (by omega)).symm
theorem o_pred (p : Nat) : Int32.ofNat (p + 1) - 1 = Int32.ofNat p := by
  rw [← o_succ]; exact Int32.add_sub_cancel ..
theorem o_pred' (p : Nat) : Int32.ofNat (p + 1) + -1 = Int32.ofNat p := by
  rw [← o_pred p]; exact (Int32.sub_eq_add_neg ..).symm
def insF (v : Int32) : Nat → (Nat → Int32) → (Nat → Int32)
  | 0, a => zu a 0 v
  | p + 1, a => if a p ≤ v then zu a (p + 1) v else insF v p (zu a (p + 1) (a p))
theorem insF_hi (v : Int32) : ∀ p a k, p < k → insF v p a k = a k
  | 0, a, k, h => zu_ne _ _ (by omega)
  | p + 1, a, k, h => by
    unfold insF
    split
    · exact zu_ne _ _ (by omega)
    · rw [insF_hi v p _ k (by omega)]; exact zu_ne _ _ (by omega)
theorem insF_ag (v : Int32) : ∀ p a b, (∀ k, k < p → a k = b k) → ∀ k, k ≤ p → insF v p a k = insF v p b k
  | 0, a, b, _, k, hk => by
    have : k = 0 := by omega
    subst this
    show zu a 0 v 0 = zu b 0 v 0
    rw [zu_eq, zu_eq]
  | p + 1, a, b, w, k, hk => by
    unfold insF
    rw [w p (by omega)]
    by_cases q : b p ≤ v
    · rw [if_pos q, if_pos q]
      by_cases e : k = p + 1
      · subst e; rw [zu_eq, zu_eq]
      · rw [zu_ne _ _ e, zu_ne _ _ e]; exact w k (by omega)
    · rw [if_neg q, if_neg q]
      by_cases e : k = p + 1
      · subst e; rw [insF_hi v p _ _ (by omega), insF_hi v p _ _ (by omega), zu_eq, zu_eq]
      · refine insF_ag v p _ _ (fun j hj => ?_) k (by omega)
        rw [zu_ne _ _ (by omega), zu_ne _ _ (by omega)]; exact w j (by omega)
def md (S : Nat → Int32) (t : Int32) (a : Nat → Int32) : Nat → (Nat → Int32) × Nat := fdN (fun h s => if S (12 * h + 9) < 0 then s else if S (12 * h + 1) = t then (insF (sh S (12 * h)) s.2 s.1, s.2 + 1) else s) (a, 0)
theorem md_succ (S : Nat → Int32) (t : Int32) (a : Nat → Int32) (i : Nat) : md S t a (i + 1) = if S (12 * i + 9) < 0 then md S t a i else if S (12 * i + 1) = t then (insF (sh S (12 * i)) (md S t a i).2 (md S t a i).1, (md S t a i).2 + 1) else md S t a i := rfl
theorem md_le (S : Nat → Int32) (t : Int32) (a : Nat → Int32) : ∀ i, (md S t a i).2 ≤ i
  | 0 => Nat.le_refl _
  | i + 1 => by
    have := md_le S t a i
    rw [md_succ]
    split
    · omega
    · split
      · dsimp only; omega
      · omega
theorem md_ag (S : Nat → Int32) (t : Int32) (a b : Nat → Int32) : ∀ i, (md S t a i).2 = (md S t b i).2 ∧ ∀ k, k < (md S t a i).2 → (md S t a i).1 k = (md S t b i).1 k
  | 0 => ⟨rfl, fun k hk => absurd hk (by show ¬ k < 0; omega)⟩
  | i + 1 => by
    obtain ⟨h1, h2⟩ := md_ag S t a b i
    rw [md_succ, md_succ]
    by_cases q1 : S (12 * i + 9) < 0
    · rw [if_pos q1, if_pos q1]; exact ⟨h1, h2⟩
    rw [if_neg q1, if_neg q1]
    by_cases q2 : S (12 * i + 1) = t
    · rw [if_pos q2, if_pos q2]
      refine ⟨by dsimp only; rw [h1], fun k hk => ?_⟩
      dsimp only at hk ⊢
      rw [← h1]
      exact insF_ag _ _ _ _ h2 k (by omega)
    · rw [if_neg q2, if_neg q2]; exact ⟨h1, h2⟩
def mid (S : Nat → Int32) (N : Nat) (t : Int32) : Int32 := if (md S t (fun _ => 0) N).2 = 0 then -4 else (md S t (fun _ => 0) N).1 ((md S t (fun _ => 0) N).2 / 2)
theorem mid_e (S : Nat → Int32) (N : Nat) (t : Int32) (a : Nat → Int32) : (if (md S t a N).2 = 0 then -4 else (md S t a N).1 ((md S t a N).2 / 2)) = mid S N t := by
  obtain ⟨h1, h2⟩ := md_ag S t a (fun _ => 0) N
  unfold mid
  rw [← h1]
  by_cases q : (md S t a N).2 = 0
  · rw [if_pos q, if_pos q]
  · rw [if_neg q, if_neg q]; exact h2 _ (by omega)
section
variable {A B M : Mem} {c N K h b : Nat} {S : Nat → Int32} {t : Int32}
theorem cq_cong {A' : Mem} (R : CQ A c S N) (w : ∀ y, (y = c ∨ y = c + 2 ∨ c + 23 < y ∧ y < c + 84) → mI A' y = mI A y) : CQ A' c S N := by
  obtain ⟨r1, r2, r3, r4⟩ := R
  refine ⟨r1, by rw [w c (by omega)]; exact r2, fun h hh => ?_, fun k hk => by rw [w (c + 2) (by omega)]; exact r4 k hk⟩
  have := r1.1
  obtain ⟨e1, e2, e3, e9, ew⟩ := r3 h hh
  unfold RQ
  rw [w (c + 1 + 23 + 2 * h) (by omega)]
  exact ⟨e1, e2, e3, e9, ew⟩
theorem cq_sR (R : CQ A c S N) {x : Nat} (hx : c + 17 < x ∧ x < c + 24 ∨ x < c ∨ c + 84 ≤ x) (a : Nat → Int32) : CQ (sR A x a) c S N := cq_cong R (fun y hy => mI_sR_ne A a (by omega))
theorem c_put (v : Int32) : ∀ p n (A : Mem), p < 30 → p < n → L_X0_putInOrder_2 n c v (Int32.ofNat p) A = some (sR A (c + 23) (insF v p (mI A (c + 23))))
  | 0, n, A, hp, hn => by
    obtain ⟨m, rfl⟩ : ∃ m, n = m + 1 := ⟨n - 1, by omega⟩
    unfold L_X0_putInOrder_2
    rw [if_pos (by decide), gd_r (by omega) (by omega), o_clamp (by omega), sI_sR]; rfl
  | p + 1, n, A, hp, hn => by
    obtain ⟨m, rfl⟩ : ∃ m, n = m + 1 := ⟨n - 1, by omega⟩
    unfold L_X0_putInOrder_2
    rw [if_neg (by rw [show (0 : Int32) = Int32.ofNat 0 from rfl, o_le (by omega) (by omega)]; omega), o_pred, o_pred', gd_r (by omega) (by omega), gd_r (by omega) (by omega), gd_r (by omega) (by omega), o_clamp (by omega), o_clamp (by omega)]
    unfold insF
    by_cases q : mI A (c + 23) p ≤ v
    · rw [if_pos q, if_pos q, sI_sR]
    · rw [if_neg q, if_neg q, c_put v p m _ (by omega) (by omega), sI_sR, sR_sR, mI_sR_eq]
theorem c_mid (R : CQ A c S N) (t : Int32) : ∃ a, f_X0_middleShare c t A = some (mid S N t, sR A (c + 23) a) := by
  have hN := cq_N R
  refine ⟨(md S t (mI A (c + 23)) N).1, ?_⟩
  refine up_run (L := fun n x (s : Int32 × Mem) => L_X0_middleShare_4 n c t s.1 x s.2) N (fun i s => s = (Int32.ofNat (md S t (mI A (c + 23)) i).2, sR A (c + 23) (md S t (mI A (c + 23)) i).1)) (fun o => o = some (mid S N t, sR A (c + 23) (md S t (mI A (c + 23)) N).1)) (by omega) ?_ ?_ (0, A) (by show (0, A) = (Int32.ofNat 0, sR A (c + 23) (mI A (c + 23))); rw [sR_id]; rfl)
  · intro n s hp
    subst hp
    have R' := cq_sR R (x := c + 23) (by omega) (md S t (mI A (c + 23)) N).1
    have en := cq_n R'
    have hl := md_le S t (mI A (c + 23)) N
    simp (disch := omega) only [L_X0_middleShare_4, B_X0_middleShare_56, en, le_t, if_true]
    rw [← mid_e S N t (mI A (c + 23))]
    have z : (Int32.ofNat (md S t (mI A (c + 23)) N).2 = 0) = ((md S t (mI A (c + 23)) N).2 = 0) := propext (o_inj (j := 0) (by omega) (by omega))
    simp only [z]
    by_cases q : (md S t (mI A (c + 23)) N).2 = 0
    · rw [if_pos q, if_pos q]
    · rw [if_neg q, if_neg q, show (2 : Int32) = Int32.ofNat 2 from rfl, o_div (by omega) (by omega), gd_r (by omega) (by omega), o_clamp (by omega), mI_sR_eq]
  · intro n i s hi hp
    left
    subst hp
    have R' := cq_sR R (x := c + 23) (by omega) (md S t (mI A (c + 23)) i).1
    have en := cq_n R'
    have hl := md_le S t (mI A (c + 23)) i
    obtain ⟨e1, e2, e3, e9, ew⟩ := cq_h R' hi
    refine ⟨_, rfl, ?_⟩
    rw [md_succ]
    simp (disch := omega) only [L_X0_middleShare_4, B_X0_middleShare_50, en, le_f, if_false, ↓gd_r, o_clamp, o_succ, e9, e2]
    by_cases hm : S (12 * i + 9) < 0
    · rw [if_pos hm, if_pos hm, if_neg n10]
    obtain ⟨e10, e11⟩ := ew hm
    rw [if_neg hm, if_neg hm, if_pos rfl, c_share e10 e11, Option.bind_some]
    by_cases q : S (12 * i + 1) = t
    · rw [if_pos q, if_pos q]
      unfold f_X0_putInOrder
      rw [c_put _ _ FU _ (by omega) (by rw [FU_eq]; omega), Option.bind_some, sR_sR, mI_sR_eq]
    · rw [if_neg q, if_neg q]
theorem m_put (rc : Int32 → Int32 → Int32 → Mem → Option (Int32 × Mem)) (t x2 : Int32) (hh : h < 30) : ∀ p n (B : Mem), p < 30 → p < n → L_X9_middleOf_40 rc n t x2 (Int32.ofNat h) (Int32.ofNat p) B = rc t (x2 + 1) (Int32.ofNat (h + 1)) (sR B 294 (insF (sh (mI B 285) (12 * h)) p (mI B 294)))
  | 0, n, B, hp, hn => by
    obtain ⟨m, rfl⟩ : ∃ m, n = m + 1 := ⟨n - 1, by omega⟩
    unfold L_X9_middleOf_40 B_X9_middleOf_84 B_X9_middleOf_99
    rw [if_pos (by decide), m_share hh, Option.bind_some, gd_r (by omega) (by omega), o_clamp (by omega), sI_sR, o_succ]; rfl
  | p + 1, n, B, hp, hn => by
    obtain ⟨m, rfl⟩ : ∃ m, n = m + 1 := ⟨n - 1, by omega⟩
    unfold L_X9_middleOf_40 B_X9_middleOf_84 B_X9_middleOf_99
    rw [if_neg (by rw [show (0 : Int32) = Int32.ofNat 0 from rfl, o_le (by omega) (by omega)]; omega), o_pred, o_pred', gd_r (by omega) (by omega), m_share hh, Option.bind_some, Option.bind_some, gd_r (by omega) (by omega), gd_r (by omega) (by omega), o_clamp (by omega), o_clamp (by omega), o_succ]
    unfold insF
    by_cases q : mI B 294 p ≤ sh (mI B 285) (12 * h)
    · rw [if_pos q, if_pos q, sI_sR]
    · rw [if_neg q, if_neg q, m_put rc t x2 hh p m _ (by omega) (by omega), sI_sR, sR_sR, mI_sR_eq, mI_sR_ne _ _ (by decide)]
theorem m_mid (R : BQ (mI B 285) N) (t : Int32) : ∃ a, f_X9_middleOf t B = some (mid (mI B 285) N t, sR B 294 a) := by
  have hN := R.1
  have R' : ∀ a, mI (sR B 294 a) 285 = mI B 285 := fun a => mI_sR_ne _ _ (by decide)
  refine ⟨(md (mI B 285) t (mI B 294) N).1, ?_⟩
  refine up_run (L := fun n x (s : Int32 × Mem) => L_X9_middleOf_4 n t s.1 x s.2) N (fun i s => s = (Int32.ofNat (md (mI B 285) t (mI B 294) i).2, sR B 294 (md (mI B 285) t (mI B 294) i).1)) (fun o => o = some (mid (mI B 285) N t, sR B 294 (md (mI B 285) t (mI B 294) N).1)) (by omega) ?_ ?_ (0, B) (by show (0, B) = (Int32.ofNat 0, sR B 294 (mI B 294)); rw [sR_id]; rfl)
  · intro n s hp
    subst hp
    have en : mI (sR B 294 (md (mI B 285) t (mI B 294) N).1) 285 1192 = Int32.ofNat N := by rw [R']; exact R.2.1
    have hl := md_le (mI B 285) t (mI B 294) N
    simp (disch := omega) only [L_X9_middleOf_4, B_X9_middleOf_105, en, le_t, if_true]
    rw [← mid_e (mI B 285) N t (mI B 294)]
    have z : (Int32.ofNat (md (mI B 285) t (mI B 294) N).2 = 0) = ((md (mI B 285) t (mI B 294) N).2 = 0) := propext (o_inj (j := 0) (by omega) (by omega))
    simp only [z]
    by_cases q : (md (mI B 285) t (mI B 294) N).2 = 0
    · rw [if_pos q, if_pos q]
    · rw [if_neg q, if_neg q, show (2 : Int32) = Int32.ofNat 2 from rfl, o_div (by omega) (by omega), gd_r (by omega) (by omega), o_clamp (by omega), mI_sR_eq]
  · intro n i s hi hp
    left
    subst hp
    have hi' : i < 30 := by omega
    have en : mI (sR B 294 (md (mI B 285) t (mI B 294) i).1) 285 1192 = Int32.ofNat N := by rw [R']; exact R.2.1
    have hl := md_le (mI B 285) t (mI B 294) i
    refine ⟨_, rfl, ?_⟩
    rw [md_succ]
    simp (disch := omega) only [L_X9_middleOf_4, B_X9_middleOf_99, en, le_f, if_false, o_succ, hs hi', g1 hi', Option.bind_some, R']
    by_cases hm : mI B 285 (12 * i + 9) < 0
    · rw [if_pos hm, if_pos hm, if_pos rfl]
    rw [if_neg hm, if_neg hm, if_neg n10]
    by_cases q : mI B 285 (12 * i + 1) = t
    · rw [if_pos q, if_pos q, m_put _ t _ hi' _ FU _ (by omega) (by rw [FU_eq]; omega), R', sR_sR, mI_sR_eq, o_succ]
    · rw [if_neg q, if_neg q]
def scr (y : Nat) : Prop := (19 ≤ y ∧ y ≤ 24) ∨ (169 ≤ y ∧ y ≤ 252) ∨ (254 ≤ y ∧ y ≤ 259) ∨ (293 ≤ y ∧ y ≤ 300)
def Sm (M M' : Mem) : Prop := (∀ y, ¬ scr y → y ≠ 284 → mI M' y = mI M y) ∧ mI M' 284 8 = mI M 284 8
theorem sm_r (M : Mem) : Sm M M := ⟨fun _ _ _ => rfl, rfl⟩
theorem sm_t {M M1 M2 : Mem} (h : Sm M M1) (g : Sm M1 M2) : Sm M M2 := ⟨fun y a b => (g.1 y a b).trans (h.1 y a b), g.2.trans h.2⟩
theorem sm_sR {x : Nat} (a : Nat → Int32) (hx : scr x) (h4 : x ≠ 284) : Sm M (sR M x a) := ⟨fun y hy _ => mI_sR_ne _ _ (fun e => hy (e ▸ hx)), by rw [mI_sR_ne _ _ (Ne.symm h4)]⟩
theorem bt_cong {x y : Int32} {a b : Int} (h : bt x a b) (e : y = x) : bt y a b := e ▸ h
theorem sm_285 {M' : Mem} (h : Sm M M') : mI M' 285 = mI M 285 := h.1 285 (by unfold scr; omega) (by decide)
theorem rc_cong {A' : Mem} (R : RC A c S N K) (w : ∀ y, (c ≤ y ∧ y ≤ c + 17 ∨ c + 23 < y ∧ y < c + 84) → mI A' y = mI A y) : RC A' c S N K := by
  obtain ⟨r1, r2, r3, r4⟩ := R
  have hN := cq_N r1
  refine ⟨cq_cong r1 (fun y hy => w y (by omega)), fun h hh => ?_, fun d hd => ?_, ?_⟩
  · have := r2 h hh
    unfold RR at this ⊢
    rw [w (c + 1 + 23 + 2 * h) (by omega), w (c + 1 + 23 + 2 * h + 1) (by omega)]
    exact this
  · have := r3 d hd
    rw [w (c + 3) (by omega), w (c + 4) (by omega), w (c + 5) (by omega)]
    exact this
  · obtain ⟨k1, k2, k3, k4⟩ := r4
    refine ⟨k1, by rw [w c (by omega)]; exact k2, k3, fun m hm => ?_⟩
    obtain ⟨L, l1, l2, l3, l4⟩ := k4 m hm
    refine ⟨L, l1, by rw [w (c + 17) (by omega)]; exact l2, l3, fun k hk => ?_⟩
    rw [w (c + 6 + 1 + 1 * m) (by omega)]; exact l4 k hk
theorem rc_sm {M' : Mem} (R : RC M 1 (mI M 285) N K) (h : Sm M M') : RC M' 1 (mI M' 285) N K := by
  rw [sm_285 h]
  exact rc_cong R (fun y hy => h.1 y (by unfold scr; omega) (by omega))
theorem op_middle (R : RC M 1 (mI M 285) N K) (x : Int32) : ∃ r M1 M2, f_X8_middle x M = some (r, M1) ∧ f_X9_middle x M1 = some (r, M2) ∧ Sm M M2 := by
  unfold f_X8_middle f_X9_middle
  rw [in_w x 0 1 0 1 rfl rfl]
  by_cases q : f_X8_within x 0 1 = 0
  · rw [if_pos q]
    exact ⟨_, M, M, rfl, by rw [if_pos q], sm_r M⟩
  · rw [if_neg q]
    obtain ⟨a, ea⟩ := c_mid R.1 x
    rw [ea]
    have s1 : Sm M (sR M (1 + 23) a) := sm_sR a (by unfold scr; omega) (by decide)
    obtain ⟨b, eb⟩ := m_mid (rc_sm R s1).1.1 x
    refine ⟨_, _, _, rfl, ?_, sm_t s1 (sm_sR b (x := 294) (by unfold scr; omega) (by decide))⟩
    rw [if_neg q, eb, sm_285 s1]; rfl
theorem m_left (R : BQ (mI B 285) N) (hh : h < 30) : ∃ a, f_X9_leftOf (Int32.ofNat h) B = some (sh (mI B 285) (12 * h) - mid (mI B 285) N (mI B 285 (12 * h + 1)), sR B 294 a) := by
  obtain ⟨a, ea⟩ := m_mid R (mI B 285 (12 * h + 1))
  refine ⟨a, ?_⟩
  unfold f_X9_leftOf
  rw [m_share hh, g1 hh, Option.bind_some, Option.bind_some, ea]; rfl
theorem op_left (R : RC M 1 (mI M 285) N K) (x : Int32) : ∃ r M1 M2, f_X8_left x M = some (r, M1) ∧ f_X9_left x M1 = some (r, M2) ∧ Sm M M2 := by
  unfold f_X8_left
  have hN : N ≤ 30 := R.1.1.1
  rcases isH R x with ⟨a, b⟩ | ⟨h, hh, rfl, a, b⟩
  · rw [a, if_pos rfl]
    exact ⟨_, M, M, rfl, by unfold f_X9_left; rw [b, if_pos rfl], sm_r M⟩
  obtain ⟨⟨e1, e2, e3, e9, ew⟩, ⟨e4, e5, e6, e7, f0, f1, e8⟩, bh⟩ := hall1 R hh
  have h30 : h < 30 := by omega
  rw [a, if_neg n10, gd_r (by omega) (by omega), o_clamp (by omega), e9]
  by_cases hm : mI M 285 (12 * h + 9) < 0
  · rw [if_pos hm, if_neg n10]
    refine ⟨_, M, M, rfl, ?_, sm_r M⟩
    unfold f_X9_left
    rw [b, if_neg n10, hs h30, Option.bind_some, if_pos hm, if_pos rfl]
  · obtain ⟨e10, e11⟩ := ew hm
    rw [if_neg hm, if_pos rfl]
    unfold f_X0_shareFromMiddle
    rw [c_share e10 e11, e2, Option.bind_some]
    obtain ⟨a', ea⟩ := c_mid R.1 (mI M 285 (12 * h + 1))
    rw [ea]
    have s1 : Sm M (sR M (1 + 23) a') := sm_sR a' (by unfold scr; omega) (by decide)
    have R1 := rc_sm R s1
    obtain ⟨b', eb⟩ := m_left R1.1.1 h30
    refine ⟨_, _, _, rfl, ?_, sm_t s1 (sm_sR b' (x := 294) (by unfold scr; omega) (by decide))⟩
    unfold f_X9_left
    rw [(isH_y R1 hh).2, if_neg n10, hs h30, Option.bind_some, sm_285 s1, if_neg hm, if_neg n10, eb, sm_285 s1]
    rfl
end
