/-! MARKS, 4: atoms, products, sums -/
section
variable {B : Mem} {t : Nat → Int32} {L off : Nat} {fv : Int32 → Int32} {p j d : Nat} {c : Bool} {st : SK} {cm lf sm ad pr sc nu x : Int32} {mo : Bool}
theorem vS_F (h : isF x = true) : vS fv (st, cm, lf, sm, ad, pr, sc, nu) x mo = (st, cm, lf, sm, ad, tA pr sc (fv x), sc, nu) := by
  unfold vS; dsimp only; rw [if_pos h]
theorem isF_D (h : isD x = true) : isF x = false := by
  unfold isF
  have n : ∀ y : Int32, isD y = false → x ≠ y := fun y hy => isD_ne h hy
  rw [decide_eq_false_iff_not]
  intro q
  rcases q with q | q | q | q | q | q | q | q | q | q <;> exact n _ (by decide) q
theorem vS_D (h : isD x = true) : vS fv (st, cm, lf, sm, ad, pr, sc, nu) x mo = (if mo = true then (st, cm, lf, sm, ad, pr, sc, nu * 10 + (x - 48)) else (st, cm, lf, sm, ad, tA pr sc (nu * 10 + (x - 48)), sc, 0)) := by
  unfold vS; dsimp only; rw [if_neg (by rw [isF_D h]; decide), if_pos h]
theorem vS_33 : vS fv (st, cm, lf, sm, ad, pr, sc, nu) 33 mo = (vN st, cm, lf, sm, ad, pr, sc, nu) := by
  unfold vS; dsimp only; rw [if_neg (by decide), if_neg (by decide), if_pos rfl]
theorem vS_mul (h : x = 37 ∨ x = 42) : vS fv (st, cm, lf, sm, ad, pr, sc, nu) x mo = (st, cm, lf, sm, ad, pr, x, nu) := by
  unfold vS; dsimp only
  rcases h with h | h <;> subst h
  · rw [if_neg (by decide), if_neg (by decide), if_neg (by decide), if_pos (by decide)]
  · rw [if_neg (by decide), if_neg (by decide), if_neg (by decide), if_pos (by decide)]
theorem vS_pm (h : x = 43 ∨ x = 45) : vS fv (st, cm, lf, sm, ad, pr, sc, nu) x mo = (st, cm, lf, eP sm ad pr, x, 1, 42, nu) := by
  unfold vS; dsimp only
  rcases h with h | h <;> subst h
  · rw [if_neg (by decide), if_neg (by decide), if_neg (by decide), if_neg (by decide), if_pos (by decide)]
  · rw [if_neg (by decide), if_neg (by decide), if_neg (by decide), if_neg (by decide), if_pos (by decide)]
theorem vS_cmp (h : x = 60 ∨ x = 61 ∨ x = 62) : vS fv (st, cm, lf, sm, ad, pr, sc, nu) x mo = (st, x, eP sm ad pr, 0, 43, 1, 42, nu) := by
  unfold vS; dsimp only
  rcases h with h | h | h <;> subst h
  all_goals rw [if_neg (by decide), if_neg (by decide), if_neg (by decide), if_neg (by decide), if_neg (by decide), if_pos (by decide)]
theorem vS_J (e : ES) (h : x = 38 ∨ x = 124 ∨ x = 40 ∨ x = 41) : vS fv e x mo = (tJ (eT e).1 x, (eT e).2) := by
  obtain ⟨st, cm, lf, sm, ad, pr, sc, nu⟩ := e
  unfold vS; dsimp only
  rcases h with h | h | h | h <;> subst h
  all_goals rw [if_neg (by decide), if_neg (by decide), if_neg (by decide), if_neg (by decide), if_neg (by decide), if_neg (by decide)]
/-- a number's further digits -/
theorem num_t (X : TX B t L off) (dd : Int32) (st : SK) (cm lf sm ad pr sc : Int32) : ∀ k n p (x2 : Int32) (g : Nat), p + k = L → k < n → 1 ≤ g → g ≤ 4 → 0 ≤ x2.toInt → x2.toInt < 10 ^ g → ∃ (v : Int32) (j : Nat), L_X9_atom_38 n x2 (Int32.ofNat g) (pst B (Int32.ofNat p) dd 1) = some (v, pst B (Int32.ofNat j) dd 1) ∧ p ≤ j ∧ j ≤ L ∧ (∀ dn c, Rn t L p (4, dn, c, g, x2 == 0) = RA t L j dn c ∧ (RA t L j dn c = none → (if p < L ∧ isD (t p) = true then Vn t fv L p (st, cm, lf, sm, ad, pr, sc, x2) else Vn t fv L p (st, cm, lf, sm, ad, tA pr sc x2, sc, 0)) = Vn t fv L j (st, cm, lf, sm, ad, tA pr sc v, sc, 0))) := by
  intro k
  induction k with
  | zero =>
    intro n p x2 g hk hn hg1 hg h0 h1
    obtain ⟨m, rfl⟩ : ∃ m, n = m + 1 := ⟨n - 1, by omega⟩
    have hp : ¬ p < L := by omega
    have hsg : sg t L p = -1000 := if_neg hp
    refine ⟨x2, p, ?_, by omega, by omega, fun dn c => ⟨R_4 (by omega) (fun q => hp q.1), fun _ => by rw [if_neg (fun q => hp q.1)]⟩⟩
    unfold L_X9_atom_38
    rw [sign_t X dd 1 (by omega), Option.bind_some, hsg, isD_m]
    by_cases q1 : (4 : Int32) ≤ Int32.ofNat g
    · rw [if_pos q1]
    · rw [if_neg q1]
      by_cases q2 : x2 ≤ 0
      · rw [if_pos q2]
      · rw [if_neg q2, if_pos (by decide)]
  | succ k ih =>
    intro n p x2 g hk hn hg1 hg h0 h1
    obtain ⟨m, rfl⟩ : ∃ m, n = m + 1 := ⟨n - 1, by omega⟩
    have hp : p < L := by omega
    have hsg : sg t L p = t p := if_pos hp
    have hL : L ≤ 80 := X.2.2.2.1
    have z : (x2 ≤ 0) = (x2 = 0) := by
      apply propext
      rw [Int32.le_iff_toInt_le, ti_zero]
      constructor
      · intro h; exact Int32.toInt_inj.mp (by rw [ti_zero]; omega)
      · intro h; rw [h, ti_zero]; omega
    have g4 : ((4 : Int32) ≤ Int32.ofNat g) = (4 ≤ g) := by rw [show (4 : Int32) = Int32.ofNat 4 from rfl, o_le (by omega) (by omega)]
    have stop : ¬ (p < L ∧ isD (t p) = true ∧ (x2 == 0) = false ∧ g < 4) → L_X9_atom_38 (m + 1) x2 (Int32.ofNat g) (pst B (Int32.ofNat p) dd 1) = some (x2, pst B (Int32.ofNat p) dd 1) → ∃ (v : Int32) (j : Nat), L_X9_atom_38 (m + 1) x2 (Int32.ofNat g) (pst B (Int32.ofNat p) dd 1) = some (v, pst B (Int32.ofNat j) dd 1) ∧ p ≤ j ∧ j ≤ L ∧ (∀ dn c, Rn t L p (4, dn, c, g, x2 == 0) = RA t L j dn c ∧ (RA t L j dn c = none → (if p < L ∧ isD (t p) = true then Vn t fv L p (st, cm, lf, sm, ad, pr, sc, x2) else Vn t fv L p (st, cm, lf, sm, ad, tA pr sc x2, sc, 0)) = Vn t fv L j (st, cm, lf, sm, ad, tA pr sc v, sc, 0))) := by
      intro hs e
      refine ⟨x2, p, e, by omega, by omega, fun dn c => ⟨R_4 (by omega) hs, fun hn => ?_⟩⟩
      by_cases q : isD (t p) = true
      · rw [RA_dig hp q] at hn; exact absurd hn (by simp)
      · rw [if_neg (fun h => q h.2)]
    by_cases q1 : 4 ≤ g
    · refine stop (by omega) ?_
      unfold L_X9_atom_38
      rw [if_pos (by rw [g4]; exact q1)]
    by_cases q2 : x2 = 0
    · refine stop (by simp [q2]) ?_
      unfold L_X9_atom_38
      rw [if_neg (by rw [g4]; exact q1), if_pos (by rw [z]; exact q2)]
    by_cases q3 : isD (t p) = true
    · have hz : (x2 == 0) = false := by simp [q2]
      have hd : 48 ≤ (t p).toInt ∧ (t p).toInt ≤ 57 := by unfold isD at q3; exact of_decide_eq_true q3
      have hpow : (10 : Int) ^ g ≤ 1000 := by
        have : g = 1 ∨ g = 2 ∨ g = 3 := by omega
        rcases this with h | h | h <;> subst h <;> decide
      have hpow2 : (10 : Int) ^ (g + 1) = 10 ^ g * 10 := Int.pow_succ ..
      have e1 : ((10 : Int32) * x2 + t p - 48).toInt = 10 * x2.toInt + ((t p).toInt - 48) := by
        have a1 : ((10 : Int32) * x2).toInt = 10 * x2.toInt := ti_mul (by show -2147483648 ≤ (10 : Int) * x2.toInt; omega) (by show (10 : Int) * x2.toInt < 2147483648; omega)
        have a2 : ((10 : Int32) * x2 + t p).toInt = 10 * x2.toInt + (t p).toInt := by rw [ti_add (by rw [a1]; omega) (by rw [a1]; omega), a1]
        rw [ti_sub (by rw [a2]; show -2147483648 ≤ _ - (48 : Int); omega) (by rw [a2]; show _ - (48 : Int) < 2147483648; omega), a2]
        show _ - (48 : Int) = _; omega
      obtain ⟨v, j, e, j1, j2, r⟩ := ih m (p + 1) ((10 : Int32) * x2 + t p - 48) (g + 1) (by omega) (by omega) (by omega) (by omega) (by rw [e1]; omega) (by rw [e1, hpow2]; omega)
      have hx0 : 0 < x2.toInt := by
        have : x2.toInt ≠ 0 := fun h => q2 (Int32.toInt_inj.mp (by rw [h, ti_zero]))
        omega
      have hnz : ((10 : Int32) * x2 + t p - 48 == 0) = false := by
        rw [beq_eq_false_iff_ne]
        intro h
        have := congrArg Int32.toInt h
        rw [e1, ti_zero] at this
        omega
      refine ⟨v, j, ?_, by omega, j2, fun dn c => ?_⟩
      · unfold L_X9_atom_38
        rw [if_neg (by rw [g4]; exact q1), if_neg (by rw [z]; exact q2), sign_t X dd 1 (by omega), Option.bind_some, hsg, isD_m, q3, if_neg (by decide), Option.bind_some, pst_21, pst_s21, o_succ, o_succ]
        exact e
      · obtain ⟨r1, r2⟩ := r dn c
        rw [hnz] at r1
        refine ⟨?_, fun hn => ?_⟩
        · rw [hz, ← r1]
          refine Rn_some hp ?_
          show (if isD (t p) = true ∧ false = false ∧ g < 4 then _ else _) = _
          rw [if_pos ⟨q3, rfl, by omega⟩]
        · rw [← r2 hn, if_pos ⟨hp, q3⟩, Vn_step _ hp, vS_D q3]
          have e2 : x2 * 10 + (t p - 48) = (10 : Int32) * x2 + t p - 48 := by
            rw [Int32.mul_comm x2 10, Int32.sub_eq_add_neg, Int32.sub_eq_add_neg, Int32.add_assoc]
          rw [e2]
          by_cases q4 : p + 1 < L ∧ isD (t (p + 1)) = true
          · rw [if_pos q4, if_pos (by rw [decide_eq_true q4.1, q4.2]; rfl)]
          · rw [if_neg q4, if_neg (fun h => q4 (by simpa using h))]
    · refine stop (fun h => q3 h.2.1) ?_
      unfold L_X9_atom_38
      rw [if_neg (by rw [g4]; exact q1), if_neg (by rw [z]; exact q2), sign_t X dd 1 (by omega), Option.bind_some, hsg, isD_m, if_pos (by simpa [b2_0] using q3)]
theorem atom_t (X : TX B t L off) (F : FV B fv) (dd : Int32) (hp : p ≤ L) : ∃ (v : Int32) (j : Nat) (w : Int32), f_X9_atom (pst B (Int32.ofNat p) dd 1) = some (v, pst B (Int32.ofNat j) dd w) ∧ p ≤ j ∧ j ≤ L ∧ ((w = 0 ∧ ∀ dn c, Rn t L p (3, dn, c, 0, false) = some j) ∨ (w = 1 ∧ p < j ∧ ∀ dn c, Rn t L p (3, dn, c, 0, false) = RA t L j dn c ∧ (RA t L j dn c = none → ∀ (st : SK) (cm lf sm ad pr sc : Int32), Vn t fv L p (st, cm, lf, sm, ad, pr, sc, 0) = Vn t fv L j (st, cm, lf, sm, ad, tA pr sc v, sc, 0)))) := by
  unfold f_X9_atom
  rw [sign_t X dd 1 hp, Option.bind_some, pst_27, if_neg (by decide), isD_m]
  simp only [b2_0]
  by_cases q1 : isD (sg t L p) = true
  · obtain ⟨hl, hd⟩ := sg_D q1
    rw [if_neg (by rw [q1]; decide), sg_lt hl, pst_21, pst_s21, o_succ]
    have hd' : 48 ≤ (t p).toInt ∧ (t p).toInt ≤ 57 := by unfold isD at hd; exact of_decide_eq_true hd
    have e1 : (t p - 48).toInt = (t p).toInt - 48 := ti_sub (by show -2147483648 ≤ _ - (48 : Int); omega) (by show _ - (48 : Int) < 2147483648; omega)
    have hL : L ≤ 80 := X.2.2.2.1
    have base : ∀ (st : SK) (cm lf sm ad pr sc : Int32), _ := fun st cm lf sm ad pr sc => num_t (fv := fv) X dd st cm lf sm ad pr sc (L - (p + 1)) FU (p + 1) (t p - 48) 1 (by omega) (by rw [FU_eq]; omega) (by omega) (by omega) (by rw [e1]; omega) (by rw [e1]; show _ < (10 : Int) ^ 1; omega)
    obtain ⟨v, j, e, j1, j2, r⟩ := base [] 0 0 0 0 0 0
    refine ⟨v, j, 1, e, by omega, j2, Or.inr ⟨rfl, by omega, fun dn c => ?_⟩⟩
    have hz : (t p - 48 == 0) = (t p == 48) := by
      rw [Bool.eq_iff_iff, beq_iff_eq, beq_iff_eq]
      constructor
      · intro h
        have := congrArg Int32.toInt h
        rw [e1, ti_zero] at this
        exact Int32.toInt_inj.mp (by show (t p).toInt = (48 : Int); omega)
      · intro h; rw [h]; rfl
    refine ⟨?_, fun hn st cm lf sm ad pr sc => ?_⟩
    · rw [← (r dn c).1, hz]
      refine Rn_some hl ?_
      show agN dn c (t p) = _
      unfold agN; rw [if_pos hd]
    · obtain ⟨v', j', e', j1', j2', r'⟩ := base st cm lf sm ad pr sc
      rw [e] at e'
      injection e' with e'
      injection e' with ev ep
      have ej : j = j' := by
        have := congrArg (fun M => mI M 284 21) ep
        rw [pst_21, pst_21, o_inj (by omega) (by omega)] at this
        exact this
      subst ej
      subst ev
      rw [← (r' dn c).2 hn, Vn_step _ hl, vS_D hd]
      have e2 : (0 : Int32) * 10 + (t p - 48) = t p - 48 := by rw [Int32.zero_mul, Int32.zero_add]
      rw [e2]
      by_cases q4 : p + 1 < L ∧ isD (t (p + 1)) = true
      · rw [if_pos q4, if_pos (by rw [decide_eq_true q4.1, q4.2]; rfl)]
      · rw [if_neg q4, if_neg (fun h => q4 (by simpa using h))]
  · rw [if_pos (by simpa using q1)]
    by_cases q2 : isF (sg t L p) = true
    · obtain ⟨hl, hf⟩ := sg_F q2
      rw [sg_lt hl] at q1 ⊢
      have e : (if t p = 99 then B_X9_atom_155 (t p) (pst B (Int32.ofNat p) dd 1) else if t p = 111 then B_X9_atom_155 (t p) (pst B (Int32.ofNat p) dd 1) else if t p = 108 then B_X9_atom_155 (t p) (pst B (Int32.ofNat p) dd 1) else if t p = 116 then B_X9_atom_155 (t p) (pst B (Int32.ofNat p) dd 1) else if t p = 107 then B_X9_atom_155 (t p) (pst B (Int32.ofNat p) dd 1) else if t p = 100 then B_X9_atom_155 (t p) (pst B (Int32.ofNat p) dd 1) else if t p = 101 then B_X9_atom_155 (t p) (pst B (Int32.ofNat p) dd 1) else if t p = 115 then B_X9_atom_155 (t p) (pst B (Int32.ofNat p) dd 1) else if t p = 119 then B_X9_atom_155 (t p) (pst B (Int32.ofNat p) dd 1) else if t p = 104 then B_X9_atom_155 (t p) (pst B (Int32.ofNat p) dd 1) else some ((0 : Int32), (sI (pst B (Int32.ofNat p) dd 1) 284 27 (0 : Int32)))) = B_X9_atom_155 (t p) (pst B (Int32.ofNat p) dd 1) := by
        have hf' := of_decide_eq_true hf
        repeat (first | (rw [if_pos (by assumption)]) | (split; rfl))
        rename_i n1 n2 n3 n4 n5 n6 n7 n8 n9 n10
        exfalso
        rcases hf' with h | h | h | h | h | h | h | h | h | h <;> contradiction
      rw [e, F _ _ _ _ hf, o_succ]
      refine ⟨fv (t p), p + 1, 1, rfl, by omega, by omega, Or.inr ⟨rfl, by omega, fun dn c => ⟨?_, fun _ st cm lf sm ad pr sc => ?_⟩⟩⟩
      · refine Rn_some hl ?_
        show agN dn c (t p) = _
        unfold agN; rw [if_neg q1, if_pos hf]
      · rw [Vn_step _ hl, vS_F hf]
    · have hf' : ¬ (_ ∨ _) := of_decide_eq_false (show isF (sg t L p) = false by simpa using q2)
      simp only [not_or] at hf'
      obtain ⟨n1, n2, n3, n4, n5, n6, n7, n8, n9, n10⟩ := hf'
      rw [if_neg n1, if_neg n2, if_neg n3, if_neg n4, if_neg n5, if_neg n6, if_neg n7, if_neg n8, if_neg n9, if_neg n10, pst_s27]
      refine ⟨0, p, 0, rfl, by omega, hp, Or.inl ⟨rfl, fun dn c => Rn_none hp (by simp [awh]) (fun hl => ?_)⟩⟩
      rw [sg_lt hl] at q1 q2
      show agN dn c (t p) = none
      unfold agN; rw [if_neg q1, if_neg q2]
/-- what comes of a product: (place, depth) to a place, with what the two machines make of it -/
def PP_ (B : Mem) (t : Nat → Int32) (L : Nat) (fv : Int32 → Int32) (NX : Int32 → Prop) (o : Option (Int32 × Mem)) (p : Nat) (dd : Int32) (r : Nat → Bool → Option Nat) (val : SK → Int32 → Int32 → Nat → Int32 → Prop) : Prop := ∃ (v : Int32) (j : Nat) (w : Int32), o = some (v, pst B (Int32.ofNat j) dd w) ∧ p ≤ j ∧ j ≤ L ∧ ((w = 0 ∧ ∀ dn c, r dn c = some j) ∨ (w = 1 ∧ NX (sg t L j) ∧ ∀ dn c, r dn c = RA t L j dn c ∧ (RA t L j dn c = none → ∀ (st : SK) (cm lf : Int32), val st cm lf j v)))
theorem prodL_t (X : TX B t L off) (F : FV B fv) (dd : Int32) : ∀ k n p (x1 : Int32), p + k = L → k < n → PP_ B t L fv NB (L_X9_product_5 n x1 (pst B (Int32.ofNat p) dd 1)) p dd (fun dn c => RA t L p dn c) (fun st cm lf j v => ∀ sm ad sc, ∃ sc', Vn t fv L p (st, cm, lf, sm, ad, x1, sc, 0) = Vn t fv L j (st, cm, lf, sm, ad, v, sc', 0)) := by
  intro k
  induction k using Nat.strongRecOn with
  | ind k ih =>
    intro n p x1 hk hn
    obtain ⟨m, rfl⟩ : ∃ m, n = m + 1 := ⟨n - 1, by omega⟩
    unfold L_X9_product_5
    rw [pst_27, if_neg (by decide), sign_t X dd 1 (by omega), Option.bind_some]
    have go : ∀ x : Int32, (x = 42 ∨ x = 37) → sg t L p = x → PP_ B t L fv NB (B_X9_product_30 (L_X9_product_5 m) x1 (pst B (Int32.ofNat p) dd 1)) p dd (fun dn c => RA t L p dn c) (fun st cm lf j v => ∀ sm ad sc, ∃ sc', Vn t fv L p (st, cm, lf, sm, ad, x1, sc, 0) = Vn t fv L j (st, cm, lf, sm, ad, v, sc', 0)) := by
      intro x hx hs
      obtain ⟨hl, hx'⟩ := sg_in hs (by rcases hx with h | h <;> rw [h] <;> decide)
      unfold B_X9_product_30
      rw [sign_t X dd 1 (by omega), Option.bind_some, pst_21, pst_s21, o_succ, hs]
      obtain ⟨v, j, w, e, j1, j2, r⟩ := atom_t X F dd (p := p + 1) (by omega)
      rw [e, Option.bind_some]
      dsimp only
      have val : (if x = 42 then L_X9_product_5 m (x1 * v) (pst B (Int32.ofNat j) dd w) else if v = 0 then L_X9_product_5 m 0 (pst B (Int32.ofNat j) dd w) else gd (¬ v = 0) (L_X9_product_5 m (jrem x1 v) (pst B (Int32.ofNat j) dd w))) = L_X9_product_5 m (tA x1 x v) (pst B (Int32.ofNat j) dd w) := by
        unfold tA
        by_cases h1 : x = 42
        · rw [if_pos h1, if_pos h1]
        · rw [if_neg h1, if_neg h1]
          by_cases h2 : v = 0
          · rw [if_pos h2, if_pos h2]
          · rw [if_neg h2, if_neg h2, gd_t h2]
      rw [val]
      have rop : ∀ dn c, RA t L p dn c = Rn t L (p + 1) (3, dn, c, 0, false) := fun dn c => RA_op hl (by rw [hx']; rcases hx with h | h <;> rw [h] <;> decide)
      rcases r with ⟨rfl, r⟩ | ⟨rfl, hpj, r⟩
      · obtain ⟨m', rfl⟩ : ∃ m', m = m' + 1 := ⟨m - 1, by omega⟩
        refine ⟨tA x1 x v, j, 0, ?_, by omega, j2, Or.inl ⟨rfl, fun dn c => (rop dn c).trans (r dn c)⟩⟩
        unfold L_X9_product_5
        rw [pst_27, if_pos rfl]
      · obtain ⟨v', j', w', e', j1', j2', r'⟩ := ih (L - j) (by omega) m j (tA x1 x v) (by omega) (by omega)
        refine ⟨v', j', w', e', by omega, j2', ?_⟩
        rcases r' with ⟨rfl, r'⟩ | ⟨rfl, hx2, r'⟩
        · exact Or.inl ⟨rfl, fun dn c => (rop dn c).trans ((r dn c).1.trans (r' dn c))⟩
        · refine Or.inr ⟨rfl, hx2, fun dn c => ⟨(rop dn c).trans ((r dn c).1.trans (r' dn c).1), fun hn st cm lf sm ad sc => ?_⟩⟩
          have hn' : RA t L j dn c = none := (r' dn c).1.trans hn
          obtain ⟨sc', q⟩ := (r' dn c).2 hn st cm lf sm ad x
          refine ⟨sc', ?_⟩
          rw [← q, ← (r dn c).2 hn' st cm lf sm ad x1 x, Vn_step _ hl, hx', vS_mul (by rcases hx with h | h <;> rw [h] <;> simp)]
    by_cases q1 : sg t L p = 42
    · rw [if_pos q1]; exact go 42 (Or.inl rfl) q1
    · rw [if_neg q1]
      by_cases q2 : sg t L p = 37
      · rw [Option.bind_some, if_pos q2]; exact go 37 (Or.inr rfl) q2
      · rw [Option.bind_some, if_neg q2]
        exact ⟨x1, p, 1, rfl, by omega, by omega, Or.inr ⟨rfl, ⟨q1, q2⟩, fun dn c => ⟨rfl, fun _ st cm lf sm ad sc => ⟨sc, rfl⟩⟩⟩⟩
theorem prod_t (X : TX B t L off) (F : FV B fv) (dd : Int32) (hp : p ≤ L) : PP_ B t L fv NB (f_X9_product (pst B (Int32.ofNat p) dd 1)) p dd (fun dn c => Rn t L p (3, dn, c, 0, false)) (fun st cm lf j v => p < j ∧ ∀ sm ad, ∃ sc', Vn t fv L p (st, cm, lf, sm, ad, 1, 42, 0) = Vn t fv L j (st, cm, lf, sm, ad, v, sc', 0)) := by
  unfold f_X9_product
  obtain ⟨v, j, w, e, j1, j2, r⟩ := atom_t X F dd hp
  rw [e, Option.bind_some]
  rcases r with ⟨rfl, r⟩ | ⟨rfl, hpj, r⟩
  · refine ⟨v, j, 0, ?_, by omega, j2, Or.inl ⟨rfl, r⟩⟩
    rw [FU_eq]; unfold L_X9_product_5; rw [pst_27, if_pos rfl]
  · have hL : L ≤ 80 := X.2.2.2.1
    obtain ⟨v', j', w', e', j1', j2', r'⟩ := prodL_t X F dd (L - j) FU j v (by omega) (by rw [FU_eq]; omega)
    refine ⟨v', j', w', e', by omega, j2', ?_⟩
    rcases r' with ⟨rfl, r'⟩ | ⟨rfl, hx2, r'⟩
    · exact Or.inl ⟨rfl, fun dn c => (r dn c).1.trans (r' dn c)⟩
    · refine Or.inr ⟨rfl, hx2, fun dn c => ⟨(r dn c).1.trans (r' dn c).1, fun hn st cm lf => ⟨by omega, fun sm ad => ?_⟩⟩⟩
      have hn' : RA t L j dn c = none := (r' dn c).1.trans hn
      obtain ⟨sc', q⟩ := (r' dn c).2 hn st cm lf sm ad 42
      refine ⟨sc', ?_⟩
      rw [← q, (r dn c).2 hn' st cm lf sm ad 1 42]
      unfold tA; rw [if_pos rfl, Int32.one_mul]
theorem sumL_t (X : TX B t L off) (F : FV B fv) (dd : Int32) : ∀ k n p (x1 : Int32), p + k = L → k < n → NB (sg t L p) → PP_ B t L fv NC (L_X9_sum__5 n x1 (pst B (Int32.ofNat p) dd 1)) p dd (fun dn c => RA t L p dn c) (fun st cm lf j v => ∀ sm ad pr sc, eP sm ad pr = x1 → ∃ sm' ad' pr' sc', eP sm' ad' pr' = v ∧ Vn t fv L p (st, cm, lf, sm, ad, pr, sc, 0) = Vn t fv L j (st, cm, lf, sm', ad', pr', sc', 0)) := by
  intro k
  induction k using Nat.strongRecOn with
  | ind k ih =>
    intro n p x1 hk hn hnb
    obtain ⟨m, rfl⟩ : ∃ m, n = m + 1 := ⟨n - 1, by omega⟩
    unfold L_X9_sum__5
    rw [pst_27, if_neg (by decide), sign_t X dd 1 (by omega), Option.bind_some]
    have go : ∀ x : Int32, (x = 43 ∨ x = 45) → sg t L p = x → PP_ B t L fv NC (B_X9_sum__30 (L_X9_sum__5 m) x1 (pst B (Int32.ofNat p) dd 1)) p dd (fun dn c => RA t L p dn c) (fun st cm lf j v => ∀ sm ad pr sc, eP sm ad pr = x1 → ∃ sm' ad' pr' sc', eP sm' ad' pr' = v ∧ Vn t fv L p (st, cm, lf, sm, ad, pr, sc, 0) = Vn t fv L j (st, cm, lf, sm', ad', pr', sc', 0)) := by
      intro x hx hs
      obtain ⟨hl, hx'⟩ := sg_in hs (by rcases hx with h | h <;> rw [h] <;> decide)
      unfold B_X9_sum__30
      rw [sign_t X dd 1 (by omega), Option.bind_some, pst_21, pst_s21, o_succ, hs]
      obtain ⟨v, j, w, e, j1, j2, r⟩ := prod_t X F dd (p := p + 1) (by omega)
      rw [e, Option.bind_some]
      dsimp only
      have val : (if x = 43 then L_X9_sum__5 m (x1 + v) (pst B (Int32.ofNat j) dd w) else L_X9_sum__5 m (x1 - v) (pst B (Int32.ofNat j) dd w)) = L_X9_sum__5 m (eP x1 x v) (pst B (Int32.ofNat j) dd w) := by
        unfold eP
        rcases hx with h | h <;> subst h
        · rw [if_pos rfl, if_neg (by decide)]
        · rw [if_neg (by decide), if_pos rfl]
      rw [val]
      have rop : ∀ dn c, RA t L p dn c = Rn t L (p + 1) (3, dn, c, 0, false) := fun dn c => RA_op hl (by rw [hx']; rcases hx with h | h <;> rw [h] <;> decide)
      rcases r with ⟨rfl, r⟩ | ⟨rfl, hpj, r⟩
      · obtain ⟨m', rfl⟩ : ∃ m', m = m' + 1 := ⟨m - 1, by omega⟩
        refine ⟨eP x1 x v, j, 0, ?_, by omega, j2, Or.inl ⟨rfl, fun dn c => (rop dn c).trans (r dn c)⟩⟩
        unfold L_X9_sum__5
        rw [pst_27, if_pos rfl]
      · obtain ⟨v', j', w', e', j1', j2', r'⟩ := ih (L - j) (by omega) m j (eP x1 x v) (by omega) (by omega) hpj
        refine ⟨v', j', w', e', by omega, j2', ?_⟩
        rcases r' with ⟨rfl, r'⟩ | ⟨rfl, hx2, r'⟩
        · exact Or.inl ⟨rfl, fun dn c => (rop dn c).trans ((r dn c).1.trans (r' dn c))⟩
        · refine Or.inr ⟨rfl, hx2, fun dn c => ⟨(rop dn c).trans ((r dn c).1.trans (r' dn c).1), fun hn st cm lf sm ad pr sc he => ?_⟩⟩
          have hn' : RA t L j dn c = none := (r' dn c).1.trans hn
          obtain ⟨-, q0⟩ := (r dn c).2 hn' st cm lf
          obtain ⟨sc1, q1⟩ := q0 x1 x
          obtain ⟨sm', ad', pr', sc', q2, q3⟩ := (r' dn c).2 hn st cm lf x1 x v sc1 rfl
          refine ⟨sm', ad', pr', sc', q2, ?_⟩
          rw [← q3, ← q1, Vn_step _ hl, hx', vS_pm hx, he]
    by_cases q1 : sg t L p = 43
    · rw [if_pos q1]; exact go 43 (Or.inl rfl) q1
    · rw [if_neg q1]
      by_cases q2 : sg t L p = 45
      · rw [Option.bind_some, if_pos q2]; exact go 45 (Or.inr rfl) q2
      · rw [Option.bind_some, if_neg q2]
        exact ⟨x1, p, 1, rfl, by omega, by omega, Or.inr ⟨rfl, ⟨hnb.1, hnb.2, q1, q2⟩, fun dn c => ⟨rfl, fun _ st cm lf sm ad pr sc he => ⟨sm, ad, pr, sc, he, rfl⟩⟩⟩⟩
theorem sum_t (X : TX B t L off) (F : FV B fv) (dd : Int32) (hp : p ≤ L) : PP_ B t L fv NC (f_X9_sum_ (pst B (Int32.ofNat p) dd 1)) p dd (fun dn c => Rn t L p (3, dn, c, 0, false)) (fun st cm lf j v => ∃ sm' ad' pr' sc', eP sm' ad' pr' = v ∧ Vn t fv L p (st, cm, lf, 0, 43, 1, 42, 0) = Vn t fv L j (st, cm, lf, sm', ad', pr', sc', 0)) := by
  unfold f_X9_sum_
  obtain ⟨v, j, w, e, j1, j2, r⟩ := prod_t X F dd hp
  rw [e, Option.bind_some]
  rcases r with ⟨rfl, r⟩ | ⟨rfl, hpj, r⟩
  · refine ⟨v, j, 0, ?_, by omega, j2, Or.inl ⟨rfl, r⟩⟩
    rw [FU_eq]; unfold L_X9_sum__5; rw [pst_27, if_pos rfl]
  · have hL : L ≤ 80 := X.2.2.2.1
    obtain ⟨v', j', w', e', j1', j2', r'⟩ := sumL_t X F dd (L - j) FU j v (by omega) (by rw [FU_eq]; omega) hpj
    refine ⟨v', j', w', e', by omega, j2', ?_⟩
    rcases r' with ⟨rfl, r'⟩ | ⟨rfl, hx2, r'⟩
    · exact Or.inl ⟨rfl, fun dn c => (r dn c).1.trans (r' dn c)⟩
    · refine Or.inr ⟨rfl, hx2, fun dn c => ⟨(r dn c).1.trans (r' dn c).1, fun hn st cm lf => ?_⟩⟩
      have hn' : RA t L j dn c = none := (r' dn c).1.trans hn
      obtain ⟨-, q0⟩ := (r dn c).2 hn' st cm lf
      obtain ⟨sc1, q1⟩ := q0 0 43
      obtain ⟨sm', ad', pr', sc', q2, q3⟩ := (r' dn c).2 hn st cm lf 0 43 v sc1 (by unfold eP; rw [if_neg (by decide), Int32.zero_add])
      exact ⟨sm', ad', pr', sc', q2, by rw [q1, q3]⟩
end
