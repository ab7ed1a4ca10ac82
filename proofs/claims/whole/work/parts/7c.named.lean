/-! MARKS, 7: marked, said -/
section
variable {A A' B M M' : Mem} {c N K h k d L off p m : Nat} {S S' t : Nat → Int32} {fv : Int32 → Int32}
def E0 : ES := ([(false, true, false)], BASE)
theorem bg_0 (M : Mem) (a0 : Nat) : EO (f_X3_beginGroup a0 (sI M a0 3 0)) M a0 ([(false, true, false)], mI M a0 5, mI M a0 4, mI M a0 6, mI M a0 7, mI M a0 8, mI M a0 9, mI M a0 10) := by
  unfold f_X3_beginGroup
  have d0 : mI (sI M a0 3 0) a0 3 = Int32.ofNat 0 := mI_sI_eq
  have d1 : ∀ y, mI (sI (sI M a0 3 0) (a0 + 1) y 0) a0 3 = Int32.ofNat 0 := fun y => by rw [mI_sI_ne (by omega), d0]
  have d2 : ∀ y z, mI (sI (sI (sI M a0 3 0) (a0 + 1) y 0) (a0 + 2) z 1) a0 3 = Int32.ofNat 0 := fun y z => by rw [mI_sI_ne (by omega), d1]
  simp only [d0, d1, d2]
  rw [gd_r (by omega) (by omega), gd_r (by omega) (by omega), gd_r (by omega) (by omega)]
  simp (disch := omega) only [o_clamp]
  have q : ∀ k, k ≠ 3 → mI (sI (sI (sI (sI M a0 3 0) (a0 + 1) 0 0) (a0 + 2) 0 1) (a0 + 3) 0 0) a0 k = mI M a0 k := fun k hk => by
    rw [mI_sI_ne (by omega), mI_sI_ne (by omega), mI_sI_ne (by omega), mI_sI_k hk]
  refine ⟨_, rfl, fr4_t (fr4_t (fr4_t fr4_0 (fr4_s (j := 1) (by decide))) (fr4_s (j := 2) (by decide))) (fr4_s (j := 3) (by decide)), ?_⟩
  refine ⟨by decide, by decide, ?_, ⟨?_, ?_, ?_, trivial⟩, q 5 (by decide), fun _ => q 4 (by decide), q 6 (by decide), q 7 (by decide), q 8 (by decide), q 9 (by decide), q 10 (by decide)⟩
  · rw [mI_sI_ne (by omega), d2]; rfl
  · rw [mI_sI_ne (by omega), mI_sI_ne (by omega)]; exact mI_sI_eq
  · rw [mI_sI_ne (by omega)]; exact mI_sI_eq
  · exact mI_sI_eq
/-- the class's word on one mark and one hall -/
theorem holds_t (t : Nat → Int32) (fv : Int32 → Int32) (a0 a1 a3 L : Nat) (x4 : Int32) (hl : ln a1 = 80) (hL : L ≤ 80) (h2 : 2 ≤ L) (ha1 : a1 < a0 ∨ a0 + 3 < a1) (M : Mem) (ht : ∀ j, j < L → mI M a1 j = t j ∧ bt (t j) (-128) 127) (hf : ∀ M', FR4 M M' a0 → ∀ x, isF x = true → f_X3_fieldOf x a3 x4 M' = some (fv x)) : ∃ M', f_X3_holds a0 a1 (Int32.ofNat L) a3 x4 M = some (b2 (Vn (fun j => t (j + 2)) fv (L - 2) 0 E0), M') ∧ FR4 M M' a0 := by
  unfold f_X3_holds
  obtain ⟨M1, e1, f1, g1⟩ := bg_0 M a0
  rw [e1, Option.bind_some]
  obtain ⟨M2, e2, f2, g2⟩ := bs_t g1
  rw [e2, Option.bind_some]
  have g3 := em_10 (v := 0) (em_5 (v := 0) (x := 0) g2 (fun h => absurd rfl h))
  have f3 : FR4 M (sI (sI M2 a0 5 0) a0 10 0) a0 := fr4_t (fr4_t f1 f2) (fr4_t fr4_0 fr4_0)
  obtain ⟨M', e4, f4⟩ := vR_run t fv a0 a1 a3 L x4 hl hL ha1 M ht hf (L - 2) FU 2 _ _ (by omega) (by rw [FU_eq]; omega) f3 g3
  refine ⟨M', ?_, f4⟩
  rw [show (2 : Int32) = Int32.ofNat 2 from rfl, e4]
  unfold Vn
  rw [Nat.sub_zero, show (2 : Nat) = 0 + 2 from rfl, vR_shift]
  rfl
theorem field_c {p : Nat} (rq : RQ A p S (12 * h)) (rr : RR A p S (12 * h)) (b : BH S (12 * h)) (hm : ¬ S (12 * h + 9) < 0) {x : Int32} (hx : isF x = true) : f_X3_fieldOf x p (Int32.ofNat h) A = some (fvS S h x) := by
  obtain ⟨e1, e2, e3, e9, ew⟩ := rq
  obtain ⟨e4, e5, e6, e7, f0, f1, e8⟩ := rr
  obtain ⟨e10, e11⟩ := ew hm
  have w8 : (if mI A p 8 = 0 then some (0 : Int32) else some (1 : Int32)) = some (S (12 * h + 11)) := by
    rw [e8]
    rcases b01 b.2.2.2.2.2.2.2.2.2.2.2 with q | q
    · rw [q, if_pos rfl]
    · rw [q, if_neg n10]
  have hx' := of_decide_eq_true hx
  unfold f_X3_fieldOf fvS
  rw [e1, e2, e3, e4, e5, e10, e11, w8, c_share e10 e11, Option.bind_some]
  rcases hx' with q | q | q | q | q | q | q | q | q | q <;> subst q <;> rfl
theorem field_m (hh : h < 30) {x : Int32} (hx : isF x = true) (h25 : mI B 284 25 = Int32.ofNat h) : f_X9_fieldOf x B = some (fvS (mI B 285) h x) := by
  have hx' := of_decide_eq_true hx
  unfold f_X9_fieldOf fvS
  rw [h25, g9 hh, g3 hh, g4 hh, g2 hh, g0 hh, g10 hh, m_share hh, g1 hh, g11 hh]
  simp only [Option.bind_some]
  rcases hx' with q | q | q | q | q | q | q | q | q | q <;> subst q <;> rfl
def FrT (M M' : Mem) : Prop := ∀ y, ¬ (19 ≤ y ∧ y ≤ 22) → mI M' y = mI M y
theorem sm_T (f : FrT M M') : Sm M M' := ⟨fun y hy _ => f y (fun q => hy (by unfold scr; omega)), by rw [f 284 (by omega)]⟩
theorem c_name (R : RC M 1 S N K) (W : MW S K) (hh : h < N) (hm : ¬ S (12 * h + 9) < 0) : ∃ M', f_X0_nameOf 1 (Int32.ofNat h) M = some (mkN S K h, M') ∧ FrT M M' := by
  have hN := R.1.1.1
  obtain ⟨k1, k2, k3, k4⟩ := R.2.2.2
  obtain ⟨rq, rr, bh⟩ := hall1 R hh
  have e9 : mI M (1 + 1 + 23 + 2 * h) 9 = 0 := by
    have := rq.2.2.2.1
    rw [if_neg hm] at this
    exact this
  unfold f_X0_nameOf
  rw [gd_r (by omega) (by omega)]
  simp (disch := omega) only [o_clamp]
  rw [e9, if_pos rfl]
  refine up_run (L := fun n x (s : Mem) => L_X0_nameOf_17 n 1 (Int32.ofNat h) x s) K (fun i s => FrT M s ∧ mkF (mkV S h) i = none) (fun o => ∃ M', o = some (mkN S K h, M') ∧ FrT M M') (by omega) ?_ ?_ M ⟨fun _ _ => rfl, rfl⟩
  · rintro n s ⟨hf, hk⟩
    have en : mI s 1 8 = Int32.ofNat K := by rw [hf 1 (by omega)]; exact k2
    simp (disch := omega) only [L_X0_nameOf_17, en, le_t, if_true]
    refine ⟨s, ?_, hf⟩
    unfold mkN
    rw [hk]
  · rintro n i s hi ⟨hf, hk⟩
    have en : mI s 1 8 = Int32.ofNat K := by rw [hf 1 (by omega)]; exact k2
    obtain ⟨L, l1, l2, l3, l4⟩ := k4 i hi
    obtain ⟨L', m1, m2, m3, m4⟩ := W i hi
    have eL : L = L' := by rw [l3] at m1; exact (o_inj (by omega) (by omega)).mp m1
    subst eL
    have l17 : mI s (1 + 17) i = Int32.ofNat L := by rw [hf _ (by omega)]; exact l2
    have ht : ∀ j, j < L → mI s (1 + 6 + 1 + 1 * i) j = S (383 + 81 * i + j) ∧ bt (S (383 + 81 * i + j)) (-128) 127 := fun j hj => by
      rw [hf _ (by omega)]; exact l4 j hj
    have hfl : ∀ M', FR4 s M' (1 + 18) → ∀ x, isF x = true → f_X3_fieldOf x (1 + 1 + 23 + 2 * h) (Int32.ofNat h) M' = some (fvS S h x) := fun M' fm x hx => by
      have g0 : mI M' (1 + 1 + 23 + 2 * h) = mI M (1 + 1 + 23 + 2 * h) := by rw [fm _ (by omega), hf _ (by omega)]
      have g1 : mI M' (1 + 1 + 23 + 2 * h + 1) = mI M (1 + 1 + 23 + 2 * h + 1) := by rw [fm _ (by omega), hf _ (by omega)]
      obtain ⟨a, b', c'⟩ := hall_cong (A' := M') (S' := S) g0 g1 (fun _ _ => rfl) ⟨rq, rr, bh⟩
      exact field_c a b' c' hm hx
    obtain ⟨M', e, fm⟩ := holds_t (fun j => S (383 + 81 * i + j)) (fvS S h) (1 + 18) (1 + 6 + 1 + 1 * i) (1 + 1 + 23 + 2 * h) L (Int32.ofNat h) (ln_mt ⟨i, by omega⟩) l1 m2 (by omega) s ht hfl
    have eV : Vn (fun j => S (383 + 81 * i + (j + 2))) (fvS S h) (L - 2) 0 E0 = mkV S h i := by
      unfold mkV
      rw [l3, o_clamp (by omega)]
      congr 1
      funext j
      congr 1; omega
    have e' : f_X3_holds (1 + 18) (1 + 6 + 1 + 1 * i) (Int32.ofNat L) (1 + 1 + 23 + 2 * h) (Int32.ofNat h) s = some (b2 (mkV S h i), M') := by rw [e, eV]
    have fT : FrT M M' := fun y hy => by rw [fm y (by omega)]; exact hf y hy
    have step : L_X0_nameOf_17 (n + 1) 1 (Int32.ofNat h) (Int32.ofNat i) s = if b2 (mkV S h i) = 0 then L_X0_nameOf_17 n 1 (Int32.ofNat h) (Int32.ofNat (i + 1)) M' else some (mI M' (1 + 6 + 1 + 1 * i) 0, M') := by
      simp (disch := omega) only [L_X0_nameOf_17, en, le_f, if_false, ↓gd_r, o_clamp, l17, e', Option.bind_some, o_succ]
    rw [step]
    simp only [b2_0]
    by_cases q : mkV S h i = false
    · left
      rw [if_pos q]
      refine ⟨M', ⟨fT, ?_⟩, rfl⟩
      rw [mkF_succ, hk]
      dsimp only
      rw [if_neg (by rw [q]; decide)]
    · right
      rw [if_neg q]
      have q' : mkV S h i = true := by simpa using q
      have t1 : mkF (mkV S h) (i + 1) = some i := by
        rw [mkF_succ, hk]
        dsimp only
        rw [if_pos q']
      have t2 := mkF_up (mkV S h) i (K - (i + 1)) (i + 1) t1
      rw [show i + 1 + (K - (i + 1)) = K by omega] at t2
      refine ⟨M', ?_, fT⟩
      unfold mkN
      rw [t2, fT _ (by omega), (l4 0 (by omega)).1]; rfl
/-- the reference's word on one mark and one hall -/
theorem m_one (R : RM A c (mI M 285) K) (W : MW (mI M 285) K) (hm : m < K) (hh : h < 30) : ∃ M', f_grp DEP 0 (bgn M 285 (Int32.ofNat (382 + 81 * m + 3)) (Int32.ofNat ((mI M 285 (382 + 81 * m)).toNatClampNeg - 2)) (Int32.ofNat h)) = some (b2 (mkV (mI M 285) h m), M') ∧ Sm M M' := by
  obtain ⟨k1, k2, k3, k4⟩ := R
  obtain ⟨L, l1, l2, l3, l4⟩ := k4 m hm
  obtain ⟨L', m1, m2, m3, m4⟩ := W m hm
  have eL : L = L' := by rw [l3] at m1; exact (o_inj (by omega) (by omega)).mp m1
  subst eL
  have hV : mkV (mI M 285) h m = Vn (fun k => mI M 285 (385 + 81 * m + k)) (fvS (mI M 285) h) (L - 2) 0 E0 := by
    unfold mkV
    rw [l3, o_clamp (by omega)]; rfl
  rw [hV, l3, o_clamp (by omega)]
  obtain ⟨b22, b23, b25⟩ := bgn_k (M := M) (a := 285) (x2 := Int32.ofNat (382 + 81 * m + 3)) (x3 := Int32.ofNat (L - 2)) (x4 := Int32.ofNat h)
  have ht := bgn_tx (M := M) (a := 285) (x2 := Int32.ofNat (382 + 81 * m + 3)) (x3 := Int32.ofNat (L - 2)) (x4 := Int32.ofNat h)
  have l285 : ln 285 = 1194 := by decide
  have X : TX (bgn M 285 (Int32.ofNat (382 + 81 * m + 3)) (Int32.ofNat (L - 2)) (Int32.ofNat h)) (fun k => mI M 285 (385 + 81 * m + k)) (L - 2) (382 + 81 * m + 3) := by
    refine ⟨by rw [ht]; decide, b22, b23, by omega, by rw [ht, l285]; omega, by rw [ht, l285]; omega, fun j hj => ?_⟩
    rw [ht, bgn_ne (by decide), show 382 + 81 * m + 3 + j = 385 + 81 * m + j by omega]
    have := (l4 (j + 2) (by omega)).2
    rw [show 383 + 81 * m + (j + 2) = 385 + 81 * m + j by omega] at this
    exact ⟨rfl, this⟩
  have F : FV (bgn M 285 (Int32.ofNat (382 + 81 * m + 3)) (Int32.ofNat (L - 2)) (Int32.ofNat h)) (fvS (mI M 285) h) := by
    intro p dd w x hx
    unfold B_X9_atom_155
    rw [pst_21, pst_s21, pst_k (by decide) (by decide) (by decide), b25, if_pos (show (0 : Int32) ≤ Int32.ofNat h from (o_le (i := 0) (by omega) (by omega)).mpr (by omega)), field_m hh hx (by rw [pst_k (by decide) (by decide) (by decide)]; exact b25), pst_ne (by decide), bgn_ne (by decide), Option.bind_some]
  obtain ⟨v, j, d', w, e, j1, j2, r⟩ := or_main X F (p := 0) (by omega)
  rw [bgn_pst] at e
  refine ⟨pst (bgn M 285 (Int32.ofNat (382 + 81 * m + 3)) (Int32.ofNat (L - 2)) (Int32.ofNat h)) (Int32.ofNat j) d' w, ?_, bgn_sm _ _ _⟩
  rw [e]
  rcases r with ⟨rfl, r⟩ | ⟨rfl, rd, r38, r124, r1, r2⟩
  · rw [m4] at r; cases r
  · rw [m4] at r1
    obtain ⟨e', an, al, v1, v2, v3⟩ := r2 r1.symm [] rfl
    have hj : j = L - 2 := by
      rw [RT_0 j2 r38 r124] at r1
      by_cases q : j = L - 2
      · exact q
      · rw [if_neg q] at r1; cases r1
    have : Vn (fun k => mI M 285 (385 + 81 * m + k)) (fvS (mI M 285) h) (L - 2) 0 E0 = v := by
      refine v1.trans ?_
      rw [hj]
      unfold Vn
      rw [Nat.sub_self]
      unfold vR vE
      rw [v2, v3]; rfl
    rw [this]
theorem m_name (R : RC M 1 (mI M 285) N K) (W : MW (mI M 285) K) (hh : h < 30) : ∃ M', f_X9_markOf (Int32.ofNat h) M = some (mkN (mI M 285) K h, M') ∧ Sm M M' := by
  obtain ⟨k1, k2, k3, k4⟩ := R.2.2.2
  refine up_run (L := fun n x (s : Mem) => L_X9_markOf_2 n (Int32.ofNat h) x s) K (fun i s => Sm M s ∧ mkF (mkV (mI M 285) h) i = none) (fun o => ∃ M', o = some (mkN (mI M 285) K h, M') ∧ Sm M M') (by omega) ?_ ?_ M ⟨sm_r M, rfl⟩
  · rintro n s ⟨hf, hk⟩
    have en : mI s 285 1193 = Int32.ofNat K := by rw [sm_285 hf]; exact k3
    simp (disch := omega) only [L_X9_markOf_2, en, le_t, if_true]
    refine ⟨s, ?_, hf⟩
    unfold mkN
    rw [hk]
  · rintro n i s hi ⟨hf, hk⟩
    have m5 := sm_285 hf
    have en : mI s 285 1193 = Int32.ofNat K := by rw [m5]; exact k3
    obtain ⟨L, l1, l2, l3, l4⟩ := k4 i hi
    obtain ⟨L', m1, m2, m3, m4⟩ := W i hi
    have eL : L = L' := by rw [l3] at m1; exact (o_inj (by omega) (by omega)).mp m1
    subst eL
    have k81 : (382 : Int32) + (81 : Int32) * Int32.ofNat i = Int32.ofNat (382 + 81 * i) := by
      rw [show (81 : Int32) * Int32.ofNat i = Int32.ofNat (81 * i) from o_mul (i := 81)]
      exact o_add (i := 382)
    have a3 : Int32.ofNat (382 + 81 * i) + 3 = Int32.ofNat (382 + 81 * i + 3) := o_add (j := 3)
    have aL : mI s 285 (382 + 81 * i) - 2 = Int32.ofNat ((mI s 285 (382 + 81 * i)).toNatClampNeg - 2) := by
      rw [m5, l3, o_clamp (by omega)]
      exact o_sub (b := 2) m2 (by omega)
    obtain ⟨M', e, s2⟩ := m_one (M := s) (A := M) (c := 1) (K := K) (by rw [m5]; exact R.2.2.2) (by rw [m5]; exact W) hi hh
    have sM : Sm M M' := sm_t hf s2
    rw [m5] at e
    have step : L_X9_markOf_2 (n + 1) (Int32.ofNat h) (Int32.ofNat i) s = if b2 (mkV (mI M 285) h i) = 0 then L_X9_markOf_2 n (Int32.ofNat h) (Int32.ofNat (i + 1)) M' else some (mI M' 285 (382 + 81 * i + 1), M') := by
      rw [m5] at aL
      simp (disch := omega) only [L_X9_markOf_2, B_X9_markOf_55, en, le_f, if_false, k81, ↓gd_r, o_clamp, a3, m5, aL]
      rw [bgn_t (Or.inr rfl), Option.bind_some, e, Option.bind_some]
      dsimp only
      rw [o_succ, o_succ, gd_r (by omega) (by omega), o_clamp (by omega)]
    rw [step]
    simp only [b2_0]
    by_cases q : mkV (mI M 285) h i = false
    · left
      rw [if_pos q]
      refine ⟨M', ⟨sM, ?_⟩, rfl⟩
      rw [mkF_succ, hk]
      dsimp only
      rw [if_neg (by rw [q]; decide)]
    · right
      rw [if_neg q]
      have q' : mkV (mI M 285) h i = true := by simpa using q
      have t1 : mkF (mkV (mI M 285) h) (i + 1) = some i := by
        rw [mkF_succ, hk]
        dsimp only
        rw [if_pos q']
      have t2 := mkF_up (mkV (mI M 285) h) i (K - (i + 1)) (i + 1) t1
      rw [show i + 1 + (K - (i + 1)) = K by omega] at t2
      refine ⟨M', ?_, sM⟩
      unfold mkN
      rw [t2, sm_285 sM]
      dsimp only
      rw [show 382 + 81 * i + 1 = 383 + 81 * i by omega]
theorem op_marked (I : Inv M) (x1 : Int32) : ∃ r M1 M2, f_X8_marked x1 M = some (r, M1) ∧ f_X9_marked x1 M1 = some (r, M2) ∧ Inv M2 := by
  obtain ⟨N, K, R, W⟩ := I.1
  have hN := R.1.1.1
  unfold f_X8_marked
  rcases isH R x1 with ⟨a, b⟩ | ⟨h, hh, rfl, a, b⟩
  · rw [a, if_pos rfl]
    exact ⟨_, M, M, rfl, by unfold f_X9_marked; rw [b, if_pos rfl], I⟩
  have h30 : h < 30 := by omega
  rw [a, if_neg n10]
  by_cases hm : mI M 285 (12 * h + 9) < 0
  · obtain ⟨⟨e1, e2, e3, e9, ew⟩, -, -⟩ := hall1 R hh
    have e9' : mI M (1 + 1 + 23 + 2 * h) 9 = 1 := by rw [if_pos hm] at e9; exact e9
    have : f_X0_nameOf 1 (Int32.ofNat h) M = some (-4, M) := by
      unfold f_X0_nameOf
      rw [gd_r (by omega) (by omega)]
      simp (disch := omega) only [o_clamp]
      rw [e9', if_neg n10]
    rw [this]
    refine ⟨_, M, M, rfl, ?_, I⟩
    unfold f_X9_marked
    rw [b, if_neg n10, hs h30, Option.bind_some, if_pos hm, if_pos rfl]
  · obtain ⟨M1, e1, f1⟩ := c_name R W hh hm
    have s1 := sm_T f1
    have R1 := rc_sm R s1
    obtain ⟨M2, e2, s2⟩ := m_name R1 (by rw [sm_285 s1]; exact W) h30
    rw [sm_285 s1] at e2
    rw [e1]
    refine ⟨_, M1, M2, rfl, ?_, inv_sm I (sm_t s1 s2)⟩
    unfold f_X9_marked
    rw [(isH_y R1 hh).2, if_neg n10, hs h30, Option.bind_some, sm_285 s1, if_neg hm, if_neg n10, e2]; rfl
def sdS (S : Nat → Int32) (K : Nat) (nm : Int32) (w : Bool) : Nat → Int32 := fdN (fun h a => if S (12 * h + 9) < 0 then a else if mkN S K h = nm then (if w = true then a + S (12 * h + 10) else a + 1) else a) 0
theorem sdS_succ (S : Nat → Int32) (K : Nat) (nm : Int32) (w : Bool) (i : Nat) : sdS S K nm w (i + 1) = if S (12 * i + 9) < 0 then sdS S K nm w i else if mkN S K i = nm then (if w = true then sdS S K nm w i + S (12 * i + 10) else sdS S K nm w i + 1) else sdS S K nm w i := rfl
theorem c_said (R : RC M 1 S N K) (W : MW S K) (nm : Int32) (hn : nm ≠ -4) (w : Bool) : ∃ M', L_X8_said_27 FU nm (b2 w) 0 0 M = some (sdS S K nm w N, M') ∧ FrT M M' := by
  have hN := R.1.1.1
  refine up_run (L := fun n x (s : Int32 × Mem) => L_X8_said_27 n nm (b2 w) s.1 x s.2) N (fun i s => s.1 = sdS S K nm w i ∧ FrT M s.2) (fun o => ∃ M', o = some (sdS S K nm w N, M') ∧ FrT M M') (by omega) ?_ ?_ (0, M) ⟨rfl, fun _ _ => rfl⟩
  · rintro n ⟨a, s⟩ ⟨rfl, hf⟩
    dsimp only at hf
    have en : mI s 1 1 = Int32.ofNat N := by rw [hf 1 (by omega)]; exact R.1.2.1
    simp (disch := omega) only [L_X8_said_27, en, le_t, if_true]
    exact ⟨s, rfl, hf⟩
  · rintro n i ⟨a, s⟩ hi ⟨rfl, hf⟩
    left
    dsimp only at hf
    have en : mI s 1 1 = Int32.ofNat N := by rw [hf 1 (by omega)]; exact R.1.2.1
    have Rs : RC s 1 S N K := rc_cong R (fun y hy => hf y (by omega))
    obtain ⟨⟨e1, e2, e3, e9, ew⟩, -, -⟩ := hall1 Rs hi
    by_cases hm : S (12 * i + 9) < 0
    · have e9' : mI s (1 + 1 + 23 + 2 * i) 9 = 1 := by rw [if_pos hm] at e9; exact e9
      have en4' : f_X0_nameOf 1 (Int32.ofNat i) s = some (-4, s) := by
        unfold f_X0_nameOf
        rw [gd_r (by omega) (by omega)]
        simp (disch := omega) only [o_clamp]
        rw [e9', if_neg n10]
      refine ⟨(sdS S K nm w (i + 1), s), ⟨rfl, hf⟩, ?_⟩
      rw [sdS_succ, if_pos hm]
      simp (disch := omega) only [L_X8_said_27, B_X8_said_76, en, le_f, if_false, en4', Option.bind_some, o_succ]
      rw [if_neg (Ne.symm hn)]
    · obtain ⟨M', e, f'⟩ := c_name Rs W hi hm
      obtain ⟨e10, e11⟩ := ew hm
      have fT : FrT M M' := fun y hy => (f' y hy).trans (hf y hy)
      have e11' : mI M' (2 + 23 + 2 * i) 11 = S (12 * i + 10) := by rw [f' _ (by omega)]; exact e11
      refine ⟨(sdS S K nm w (i + 1), M'), ⟨rfl, fT⟩, ?_⟩
      rw [sdS_succ, if_neg hm]
      simp (disch := omega) only [L_X8_said_27, B_X8_said_76, en, le_f, if_false, e, Option.bind_some, o_succ, ↓gd_r, o_clamp, e11', b2_0]
      by_cases q : mkN S K i = nm
      · rw [if_pos q, if_pos q]
        cases w
        · rw [if_pos rfl, if_neg (by decide)]
        · rw [if_neg (by decide), if_pos rfl]
      · rw [if_neg q, if_neg q]
theorem m_said (R : RC M 1 (mI M 285) N K) (W : MW (mI M 285) K) (nm : Int32) (w : Bool) : ∃ M', L_X9_said_31 FU nm (b2 w) 0 0 M = some (sdS (mI M 285) K nm w N, M') ∧ Sm M M' := by
  have hN := R.1.1.1
  refine up_run (L := fun n x (s : Int32 × Mem) => L_X9_said_31 n nm (b2 w) s.1 x s.2) N (fun i s => s.1 = sdS (mI M 285) K nm w i ∧ Sm M s.2) (fun o => ∃ M', o = some (sdS (mI M 285) K nm w N, M') ∧ Sm M M') (by omega) ?_ ?_ (0, M) ⟨rfl, sm_r M⟩
  · rintro n ⟨a, s⟩ ⟨rfl, hf⟩
    dsimp only at hf
    have en : mI s 285 1192 = Int32.ofNat N := by rw [sm_285 hf]; exact rc_n R
    simp (disch := omega) only [L_X9_said_31, en, le_t, if_true]
    exact ⟨s, rfl, hf⟩
  · rintro n i ⟨a, s⟩ hi ⟨rfl, hf⟩
    left
    dsimp only at hf
    have hi' : i < 30 := by omega
    have m5 := sm_285 hf
    have en : mI s 285 1192 = Int32.ofNat N := by rw [m5]; exact rc_n R
    by_cases hm : mI M 285 (12 * i + 9) < 0
    · refine ⟨(sdS (mI M 285) K nm w (i + 1), s), ⟨rfl, hf⟩, ?_⟩
      rw [sdS_succ, if_pos hm]
      simp (disch := omega) only [L_X9_said_31, en, le_f, if_false, hs hi', m5, Option.bind_some, o_succ, Int32.add_zero, hm, if_true]
    · obtain ⟨M', e, s2⟩ := m_name (rc_sm R hf) (by rw [m5]; exact W) hi'
      rw [m5] at e
      have sM := sm_t hf s2
      have m5' := sm_285 sM
      refine ⟨(sdS (mI M 285) K nm w (i + 1), M'), ⟨rfl, sM⟩, ?_⟩
      rw [sdS_succ, if_neg hm]
      simp (disch := omega) only [L_X9_said_31, en, le_f, if_false, hs hi', m5, Option.bind_some, o_succ, Int32.add_zero, hm, i10, e, g10 hi', m5', b2_0]
      by_cases q : mkN (mI M 285) K i = nm
      · rw [if_pos q, if_pos q]
        cases w
        · rw [if_pos rfl, if_neg (by decide)]
        · rw [if_neg (by decide), if_pos rfl]
      · rw [if_neg q, if_neg q]
theorem op_said (I : Inv M) (x1 x2 : Int32) : ∃ r M1 M2, f_X8_said x1 x2 M = some (r, M1) ∧ f_X9_said x1 x2 M1 = some (r, M2) ∧ Inv M2 := by
  obtain ⟨N, K, R, W⟩ := I.1
  unfold f_X8_said f_X9_said
  rw [in_w x1 65 90 65 90 rfl rfl, in_w x2 0 1 0 1 rfl rfl]
  by_cases q1 : f_X8_within x1 65 90 = 0
  · rw [if_pos q1]
    exact ⟨_, M, M, rfl, by rw [if_pos q1], I⟩
  by_cases q2 : f_X8_within x2 0 1 = 0
  · rw [if_neg q1, if_pos q2]
    exact ⟨_, M, M, rfl, by rw [if_neg q1, if_pos q2], I⟩
  obtain ⟨i, hi, rfl⟩ := wi_o (n := 2) q2 (by decide)
  have hw : ∃ w : Bool, Int32.ofNat i = b2 w := by
    have : i = 0 ∨ i = 1 := by omega
    rcases this with rfl | rfl
    · exact ⟨false, rfl⟩
    · exact ⟨true, rfl⟩
  obtain ⟨w, ew⟩ := hw
  rw [ew] at q2 ⊢
  have n4 : x1 ≠ -4 := fun e => q1 (by rw [e]; decide)
  obtain ⟨M1, e1, f1⟩ := c_said R W x1 n4 w
  have s1 := sm_T f1
  obtain ⟨M2, e2, s2⟩ := m_said (rc_sm R s1) (by rw [sm_285 s1]; exact W) x1 w
  rw [sm_285 s1] at e2
  rw [if_neg q1, if_neg q2, e1]
  exact ⟨_, M1, M2, rfl, by rw [if_neg q1, if_neg q2]; exact e2, inv_sm I (sm_t s1 s2)⟩
end
