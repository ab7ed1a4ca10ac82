/-! MARKS, 5: tests, ANDs, ORs -/
abbrev BASE : Int32 × Int32 × Int32 × Int32 × Int32 × Int32 × Int32 := (0, 0, 0, 43, 1, 42, 0)
def TC (B : Mem) (t : Nat → Int32) (L : Nat) (fv : Int32 → Int32) (o : Option (Int32 × Mem)) (p d : Nat) : Prop := ∃ (v : Bool) (j : Nat) (d' w : Int32), o = some (b2 v, pst B (Int32.ofNat j) d' w) ∧ p ≤ j ∧ j ≤ L ∧ ((w = 0 ∧ Rn t L p (2, d, false, 0, false) = some j) ∨ (w = 1 ∧ d' = Int32.ofNat d ∧ Rn t L p (2, d, false, 0, false) = RT t L j d ∧ (RT t L j d = none → ∀ (an al tu : Bool) (r : SK), r.length = d → ∃ e', Vn t fv L p ((an, al, tu) :: r, BASE) = Vn t fv L j e' ∧ eT e' = ((an, al && (v != tu), false) :: r, BASE))))
def AC (B : Mem) (t : Nat → Int32) (L : Nat) (fv : Int32 → Int32) (o : Option (Int32 × Mem)) (p d : Nat) : Prop := ∃ (v : Bool) (j : Nat) (d' w : Int32), o = some (b2 v, pst B (Int32.ofNat j) d' w) ∧ p ≤ j ∧ j ≤ L ∧ ((w = 0 ∧ Rn t L p (2, d, false, 0, false) = some j) ∨ (w = 1 ∧ d' = Int32.ofNat d ∧ sg t L j ≠ 38 ∧ Rn t L p (2, d, false, 0, false) = RT t L j d ∧ (RT t L j d = none → ∀ (an al : Bool) (r : SK), r.length = d → ∃ e', Vn t fv L p ((an, al, false) :: r, BASE) = Vn t fv L j e' ∧ eT e' = ((an, al && v, false) :: r, BASE))))
def OC (B : Mem) (t : Nat → Int32) (L : Nat) (fv : Int32 → Int32) (o : Option (Int32 × Mem)) (p d : Nat) : Prop := ∃ (v : Bool) (j : Nat) (d' w : Int32), o = some (b2 v, pst B (Int32.ofNat j) d' w) ∧ p ≤ j ∧ j ≤ L ∧ ((w = 0 ∧ Rn t L p (2, d, false, 0, false) = some j) ∨ (w = 1 ∧ d' = Int32.ofNat d ∧ sg t L j ≠ 38 ∧ sg t L j ≠ 124 ∧ Rn t L p (2, d, false, 0, false) = RT t L j d ∧ (RT t L j d = none → ∀ (r : SK), r.length = d → ∃ e' an al, Vn t fv L p ((false, true, false) :: r, BASE) = Vn t fv L j e' ∧ eT e' = ((an, al, false) :: r, BASE) ∧ v = (an || al))))
section
variable {B : Mem} {t : Nat → Int32} {L off : Nat} {fv : Int32 → Int32} {p j d p0 : Nat} {rec : Nat → Mem → Option (Int32 × Mem)}
theorem eT_base (st : SK) : eT (st, BASE) = (st, BASE) := by unfold eT; dsimp only; rw [if_pos rfl]
theorem breaks_t (dd w : Int32) : f_X9_breaks (pst B (Int32.ofNat p) dd w) = some (0, pst B (Int32.ofNat p) dd 0) := by
  unfold f_X9_breaks; rw [pst_s27]
theorem test_t (X : TX B t L off) (F : FV B fv) (hp : p ≤ L) (hd : d ≤ 8) (h0 : p < L → d < 8 → OC B t L fv (rec 0 (pst B (Int32.ofNat (p + 1)) (Int32.ofNat (d + 1)) 1)) (p + 1) (d + 1)) (h2 : p < L → TC B t L fv (rec 2 (pst B (Int32.ofNat (p + 1)) (Int32.ofNat d) 1)) (p + 1) d) : TC B t L fv (f_X9_test rec (pst B (Int32.ofNat p) (Int32.ofNat d) 1)) p d := by
  unfold f_X9_test
  rw [pst_27, if_neg (by decide)]
  by_cases q1 : sg t L p = 33
  · obtain ⟨hl, hx⟩ := sg_in q1 (by decide)
    rw [takes_y X _ hp q1, Option.bind_some, if_neg n10]
    obtain ⟨v, j, d', w, e, j1, j2, r⟩ := h2 hl
    rw [e, Option.bind_some]
    have step : Rn t L p (2, d, false, 0, false) = Rn t L (p + 1) (2, d, false, 0, false) := Rn_some hl (by show agB d (t p) = _; unfold agB; rw [if_pos hx])
    refine ⟨!v, j, d', w, ?_, by omega, j2, ?_⟩
    · cases v <;> rfl
    · rw [step]
      rcases r with ⟨rfl, r⟩ | ⟨rfl, rd, r1, r2⟩
      · exact Or.inl ⟨rfl, r⟩
      · refine Or.inr ⟨rfl, rd, r1, fun hn an al tu r hr => ?_⟩
        obtain ⟨e', e1, e2⟩ := r2 hn an al (!tu) r hr
        refine ⟨e', ?_, ?_⟩
        · rw [← e1, Vn_step _ hl, hx, vS_33]; rfl
        · rw [e2]; cases v <;> cases tu <;> rfl
  rw [takes_n X _ hp q1, Option.bind_some, if_pos rfl, sign_t X _ 1 hp, Option.bind_some]
  by_cases q2 : sg t L p = 40
  · obtain ⟨hl, hx⟩ := sg_in q2 (by decide)
    have d8 : (Int32.ofNat d = 8) = (d = 8) := propext (o_inj (j := 8) (by omega) (by omega))
    rw [if_pos q2, pst_24]
    simp only [d8]
    by_cases q3 : d = 8
    · rw [if_pos q3, breaks_t, Option.bind_some]
      refine ⟨false, p, Int32.ofNat d, 0, rfl, by omega, hp, Or.inl ⟨rfl, Rn_none hp (by simp [awh]) (fun _ => ?_)⟩⟩
      show agB d (t p) = none
      unfold agB; rw [hx, if_neg (by decide), if_pos rfl, if_neg (by omega)]
    · rw [if_neg q3, pst_21, pst_s21, pst_24, pst_s24, o_succ, o_succ]
      obtain ⟨v, j, d', w, e, j1, j2, r⟩ := h0 hl (by omega)
      rw [e, Option.bind_some]
      have step : Rn t L p (2, d, false, 0, false) = Rn t L (p + 1) (2, d + 1, false, 0, false) := Rn_some hl (by show agB d (t p) = _; unfold agB; rw [hx, if_neg (by decide), if_pos rfl, if_pos (by omega)])
      rcases r with ⟨rfl, r⟩ | ⟨rfl, rd, r38, r124, r1, r2⟩
      · dsimp only
        rw [takes_0, Option.bind_some, if_pos rfl, breaks_t, Option.bind_some]
        exact ⟨false, j, d', 0, rfl, by omega, j2, Or.inl ⟨rfl, by rw [step, r]⟩⟩
      · dsimp only
        by_cases q4 : sg t L j = 41
        · obtain ⟨hl', hx'⟩ := sg_in q4 (by decide)
          rw [takes_y X _ j2 q4, Option.bind_some, if_neg n10]
          dsimp only
          rw [pst_24, pst_s24, rd]
          have ed : Int32.ofNat (d + 1) - 1 = Int32.ofNat d := by
            apply Int32.toInt_inj.mp
            have z1 : (1 : Int32).toInt = 1 := rfl
            have z2 := o_toInt (i := d + 1) (by omega)
            rw [ti_sub (by rw [z2, z1]; omega) (by rw [z2, z1]; omega), z2, z1, o_toInt (by omega)]
            omega
          rw [ed]
          refine ⟨v, j + 1, Int32.ofNat d, 1, rfl, by omega, by omega, Or.inr ⟨rfl, rfl, ?_, fun hn an al tu r hr => ?_⟩⟩
          · rw [step, r1, RT_close hl' hx']
          · have hn' : RT t L j (d + 1) = none := by rw [RT_close hl' hx']; exact hn
            obtain ⟨e', an', al', e1, e2, e3⟩ := r2 hn' ((an, al, tu) :: r) (by simp [hr])
            refine ⟨((an, al && (v != tu), false) :: r, BASE), ?_, eT_base _⟩
            have s1 : Vn t fv L p ((an, al, tu) :: r, BASE) = Vn t fv L (p + 1) ((false, true, false) :: (an, al, tu) :: r, BASE) := by
              rw [Vn_step _ hl, hx, vS_J _ (by simp), eT_base]
              have : tJ ((an, al, tu) :: r) 40 = (false, true, false) :: (an, al, tu) :: r := by
                unfold tJ; rw [if_neg (by decide), if_pos ⟨rfl, by simp [hr]; omega⟩]
              rw [this]
            rw [s1, e1, Vn_step _ hl', hx', vS_J _ (by simp), e2]
            have : tJ ((an', al', false) :: (an, al, tu) :: r) 41 = (an, al && (v != tu), false) :: r := by
              unfold tJ; rw [if_neg (by decide), if_neg (fun h => absurd h.1 (by decide)), if_pos rfl, e3]; rfl
            rw [this]
        · rw [takes_n X _ j2 q4, Option.bind_some, if_pos rfl, breaks_t, Option.bind_some]
          exact ⟨false, j, d', 0, rfl, by omega, j2, Or.inl ⟨rfl, by rw [step, r1, RT_no j2 r38 r124 q4]⟩⟩
  rw [if_neg q2]
  have step : Rn t L p (2, d, false, 0, false) = Rn t L p (3, d, false, 0, false) := by
    refine Rn_cong _ _ hp (by simp [awh]) (fun hl => ?_)
    rw [sg_lt hl] at q1 q2
    show agB d (t p) = agN d false (t p)
    unfold agB; rw [if_neg q1, if_neg q2]
  obtain ⟨v1, j, w, e, j1, j2, r⟩ := sum_t X F (Int32.ofNat d) hp
  dsimp only at r
  rw [e, Option.bind_some]
  dsimp only
  rw [sign_t X _ w j2, Option.bind_some, pst_27]
  have brk : ∀ w', Rn t L p (2, d, false, 0, false) = some j → TC B t L fv (B_X9_test_140 rec (pst B (Int32.ofNat j) (Int32.ofNat d) w')) p d := by
    intro w' h
    unfold B_X9_test_140
    rw [breaks_t, Option.bind_some]
    exact ⟨false, j, Int32.ofNat d, 0, rfl, j1, j2, Or.inl ⟨rfl, h⟩⟩
  rcases r with ⟨rfl, r⟩ | ⟨rfl, hnc, r⟩
  · rw [if_pos rfl]
    exact brk 0 (by rw [step, r])
  · rw [if_neg (by decide)]
    have go : ∀ x : Int32, (x = 60 ∨ x = 61 ∨ x = 62) → sg t L j = x → TC B t L fv (B_X9_test_145 rec v1 x (pst B (Int32.ofNat j) (Int32.ofNat d) 1)) p d := by
      intro x hx hs
      obtain ⟨hl, hx'⟩ := sg_in hs (by rcases hx with h | h | h <;> rw [h] <;> decide)
      unfold B_X9_test_145
      rw [pst_21, pst_s21, o_succ]
      obtain ⟨v2, k, w2, e2, k1, k2, r2⟩ := sum_t X F (Int32.ofNat d) (p := j + 1) (by omega)
      dsimp only at r2
      rw [e2, Option.bind_some]
      dsimp only
      have val : (if x = 60 then (if v2 ≤ v1 then some ((0 : Int32), pst B (Int32.ofNat k) (Int32.ofNat d) w2) else some ((1 : Int32), pst B (Int32.ofNat k) (Int32.ofNat d) w2)) else if x = 62 then (if v1 ≤ v2 then some ((0 : Int32), pst B (Int32.ofNat k) (Int32.ofNat d) w2) else some ((1 : Int32), pst B (Int32.ofNat k) (Int32.ofNat d) w2)) else (if v1 = v2 then some ((1 : Int32), pst B (Int32.ofNat k) (Int32.ofNat d) w2) else some ((0 : Int32), pst B (Int32.ofNat k) (Int32.ofNat d) w2))) = some (b2 (cpv x v1 v2), pst B (Int32.ofNat k) (Int32.ofNat d) w2) := by
        unfold cpv
        by_cases g1 : x = 60
        · rw [if_pos g1, if_pos g1]
          by_cases g2 : v2 ≤ v1
          · rw [if_pos g2, show decide (v1 < v2) = false from decide_eq_false (by rw [Int32.le_iff_toInt_le] at g2; rw [Int32.lt_iff_toInt_lt]; omega)]; rfl
          · rw [if_neg g2, show decide (v1 < v2) = true from decide_eq_true (by rw [Int32.le_iff_toInt_le] at g2; rw [Int32.lt_iff_toInt_lt]; omega)]; rfl
        rw [if_neg g1, if_neg g1]
        by_cases g3 : x = 62
        · rw [if_pos g3, if_pos g3]
          by_cases g2 : v1 ≤ v2
          · rw [if_pos g2, show decide (v2 < v1) = false from decide_eq_false (by rw [Int32.le_iff_toInt_le] at g2; rw [Int32.lt_iff_toInt_lt]; omega)]; rfl
          · rw [if_neg g2, show decide (v2 < v1) = true from decide_eq_true (by rw [Int32.le_iff_toInt_le] at g2; rw [Int32.lt_iff_toInt_lt]; omega)]; rfl
        rw [if_neg g3, if_neg g3]
        by_cases g2 : v1 = v2
        · rw [if_pos g2, decide_eq_true g2]; rfl
        · rw [if_neg g2, decide_eq_false g2]; rfl
      rw [val]
      have s2 : Rn t L p (2, d, false, 0, false) = Rn t L (j + 1) (3, d, true, 0, false) := by
        rw [step, (r d false).1, RA_cmp hl (by rw [hx']; exact hx)]
      refine ⟨_, k, Int32.ofNat d, w2, rfl, by omega, k2, ?_⟩
      rcases r2 with ⟨rfl, r2⟩ | ⟨rfl, hnc2, r2⟩
      · exact Or.inl ⟨rfl, by rw [s2, r2]⟩
      · have s3 := RA_T (d := d) k2 hnc2
        refine Or.inr ⟨rfl, rfl, by rw [s2, (r2 d true).1, s3], fun hn an al tu r' hr => ?_⟩
        have n2 : RA t L k d true = none := by rw [s3]; exact hn
        have n1 : RA t L j d false = none := by
          rw [RA_cmp hl (by rw [hx']; exact hx), (r2 d true).1]; exact n2
        obtain ⟨sm1, ad1, pr1, sc1, a1, a2⟩ := (r d false).2 n1 ((an, al, tu) :: r') 0 0
        obtain ⟨sm2, ad2, pr2, sc2, b1, b2'⟩ := (r2 d true).2 n2 ((an, al, tu) :: r') x v1
        refine ⟨((an, al, tu) :: r', x, v1, sm2, ad2, pr2, sc2, 0), ?_, ?_⟩
        · rw [← b2', a2, Vn_step _ hl, hx', vS_cmp hx, a1]
        · unfold eT; dsimp only
          rw [if_neg (by rcases hx with h | h | h <;> rw [h] <;> decide), b1]; rfl
    by_cases c1 : sg t L j = 60
    · rw [if_pos c1, c1]; exact go 60 (by simp) c1
    by_cases c2 : sg t L j = 62
    · rw [if_neg c1, if_pos c2, c2]; exact go 62 (by simp) c2
    by_cases c3 : sg t L j = 61
    · rw [if_neg c1, if_neg c2, if_pos c3, c3]; exact go 61 (by simp) c3
    rw [if_neg c1, if_neg c2, if_neg c3]
    exact brk 1 (by rw [step, (r d false).1, RA_no j2 hnc (fun h => by rcases h with h | h | h; exact c1 h; exact c3 h; exact c2 h)])
theorem gd_b2 {α : Type} {x : Option α} (v : Bool) : gd (b2 v = 0 ∨ b2 v = 1) x = x := gd_t (by cases v <;> decide)
theorem andL_t (X : TX B t L off) (h2 : ∀ p, p ≤ L → p0 ≤ p → TC B t L fv (rec 2 (pst B (Int32.ofNat p) (Int32.ofNat d) 1)) p d) : ∀ k n p (v : Bool), p0 ≤ p → p + k = L → k < n → ∃ (v' : Bool) (j : Nat) (d' w : Int32), L_X9_and_5 rec n (b2 v) (pst B (Int32.ofNat p) (Int32.ofNat d) 1) = some (b2 v', pst B (Int32.ofNat j) d' w) ∧ p ≤ j ∧ j ≤ L ∧ ((w = 0 ∧ RT t L p d = some j) ∨ (w = 1 ∧ d' = Int32.ofNat d ∧ sg t L j ≠ 38 ∧ RT t L p d = RT t L j d ∧ (RT t L j d = none → ∀ (e : ES) (an al : Bool) (r : SK), r.length = d → eT e = ((an, al && v, false) :: r, BASE) → ∃ e', Vn t fv L p e = Vn t fv L j e' ∧ eT e' = ((an, al && v', false) :: r, BASE)))) := by
  intro k
  induction k using Nat.strongRecOn with
  | ind k ih =>
    intro n p v hp0 hk hn
    obtain ⟨m, rfl⟩ : ∃ m, n = m + 1 := ⟨n - 1, by omega⟩
    unfold L_X9_and_5 B_X9_and_31
    by_cases q1 : sg t L p = 38
    · obtain ⟨hl, hx⟩ := sg_in q1 (by decide)
      rw [takes_y X _ (by omega) q1, Option.bind_some, if_neg n10]
      obtain ⟨v1, j, d', w, e, j1, j2, r⟩ := h2 (p + 1) (by omega) (by omega)
      rw [e, Option.bind_some]
      dsimp only
      have val : (if b2 v = 0 then L_X9_and_5 rec m 0 (pst B (Int32.ofNat j) d' w) else if b2 v1 = 0 then L_X9_and_5 rec m 0 (pst B (Int32.ofNat j) d' w) else L_X9_and_5 rec m 1 (pst B (Int32.ofNat j) d' w)) = L_X9_and_5 rec m (b2 (v && v1)) (pst B (Int32.ofNat j) d' w) := by
        cases v <;> cases v1 <;> rfl
      rw [val]
      have step : RT t L p d = Rn t L (p + 1) (2, d, false, 0, false) := RT_join hl (Or.inl hx)
      rcases r with ⟨rfl, r⟩ | ⟨rfl, rd, r1, r2⟩
      · obtain ⟨m', rfl⟩ : ∃ m', m = m' + 1 := ⟨m - 1, by omega⟩
        refine ⟨v && v1, j, d', 0, ?_, by omega, j2, Or.inl ⟨rfl, by rw [step, r]⟩⟩
        unfold L_X9_and_5
        rw [takes_0, Option.bind_some, if_pos rfl, gd_b2]
      · rw [rd]
        obtain ⟨v', j', d'', w', e', j1', j2', r'⟩ := ih (L - j) (by omega) m j (v && v1) (by omega) (by omega) (by omega)
        refine ⟨v', j', d'', w', e', by omega, j2', ?_⟩
        rcases r' with ⟨rfl, r'⟩ | ⟨rfl, rd', r38, r1', r2'⟩
        · exact Or.inl ⟨rfl, by rw [step, r1, r']⟩
        · refine Or.inr ⟨rfl, rd', r38, by rw [step, r1, r1'], fun hn ee an al rr hr he => ?_⟩
          have hn1 : RT t L j d = none := by rw [r1']; exact hn
          obtain ⟨e2, f1, f2⟩ := r2 hn1 an (al && v) false rr hr
          obtain ⟨e3, g1, g2⟩ := r2' hn e2 an al rr hr (by rw [f2]; cases al <;> cases v <;> cases v1 <;> rfl)
          refine ⟨e3, ?_, g2⟩
          rw [← g1, ← f1, Vn_step _ hl, hx, vS_J _ (by simp), he]
          rfl
    · rw [takes_n X _ (by omega) q1, Option.bind_some, if_pos rfl, gd_b2]
      exact ⟨v, p, Int32.ofNat d, 1, rfl, by omega, by omega, Or.inr ⟨rfl, rfl, q1, rfl, fun _ e an al r _ he => ⟨e, rfl, he⟩⟩⟩
theorem and_t (X : TX B t L off) (hp : p ≤ L) (h2 : ∀ p', p' ≤ L → p ≤ p' → TC B t L fv (rec 2 (pst B (Int32.ofNat p') (Int32.ofNat d) 1)) p' d) : AC B t L fv (f_X9_and rec (pst B (Int32.ofNat p) (Int32.ofNat d) 1)) p d := by
  unfold f_X9_and
  obtain ⟨v, j, d', w, e, j1, j2, r⟩ := h2 p hp (by omega)
  rw [e, Option.bind_some]
  dsimp only
  rcases r with ⟨rfl, r⟩ | ⟨rfl, rd, r1, r2⟩
  · refine ⟨v, j, d', 0, ?_, j1, j2, Or.inl ⟨rfl, r⟩⟩
    rw [FU_eq]; unfold L_X9_and_5
    rw [takes_0, Option.bind_some, if_pos rfl, gd_b2]
  · rw [rd]
    have hL : L ≤ 80 := X.2.2.2.1
    obtain ⟨v', j', d'', w', e', j1', j2', r'⟩ := andL_t (p0 := p) X h2 (L - j) FU j v j1 (by omega) (by rw [FU_eq]; omega)
    refine ⟨v', j', d'', w', e', by omega, j2', ?_⟩
    rcases r' with ⟨rfl, r'⟩ | ⟨rfl, rd', r38, r1', r2'⟩
    · exact Or.inl ⟨rfl, by rw [r1, r']⟩
    · refine Or.inr ⟨rfl, rd', r38, by rw [r1, r1'], fun hn an al rr hr => ?_⟩
      have hn1 : RT t L j d = none := by rw [r1']; exact hn
      obtain ⟨e2, f1, f2⟩ := r2 hn1 an al false rr hr
      obtain ⟨e3, g1, g2⟩ := r2' hn e2 an al rr hr (by rw [f2]; cases v <;> rfl)
      exact ⟨e3, by rw [f1, g1], g2⟩
theorem orL_t (X : TX B t L off) (h1 : ∀ p, p ≤ L → p0 ≤ p → AC B t L fv (rec 1 (pst B (Int32.ofNat p) (Int32.ofNat d) 1)) p d) : ∀ k n p (v : Bool), p0 ≤ p → p + k = L → k < n → sg t L p ≠ 38 → ∃ (v' : Bool) (j : Nat) (d' w : Int32), L_X9_or_5 rec n (b2 v) (pst B (Int32.ofNat p) (Int32.ofNat d) 1) = some (b2 v', pst B (Int32.ofNat j) d' w) ∧ p ≤ j ∧ j ≤ L ∧ ((w = 0 ∧ RT t L p d = some j) ∨ (w = 1 ∧ d' = Int32.ofNat d ∧ sg t L j ≠ 38 ∧ sg t L j ≠ 124 ∧ RT t L p d = RT t L j d ∧ (RT t L j d = none → ∀ (e : ES) (an al : Bool) (r : SK), r.length = d → eT e = ((an, al, false) :: r, BASE) → v = (an || al) → ∃ e' an' al', Vn t fv L p e = Vn t fv L j e' ∧ eT e' = ((an', al', false) :: r, BASE) ∧ v' = (an' || al')))) := by
  intro k
  induction k using Nat.strongRecOn with
  | ind k ih =>
    intro n p v hp0 hk hn h38
    obtain ⟨m, rfl⟩ : ∃ m, n = m + 1 := ⟨n - 1, by omega⟩
    unfold L_X9_or_5 B_X9_or_27
    by_cases q1 : sg t L p = 124
    · obtain ⟨hl, hx⟩ := sg_in q1 (by decide)
      rw [takes_y X _ (by omega) q1, Option.bind_some, if_neg n10]
      obtain ⟨v1, j, d', w, e, j1, j2, r⟩ := h1 (p + 1) (by omega) (by omega)
      rw [e, Option.bind_some]
      dsimp only
      have val : (if b2 v = 0 then (if b2 v1 = 0 then L_X9_or_5 rec m 0 (pst B (Int32.ofNat j) d' w) else L_X9_or_5 rec m 1 (pst B (Int32.ofNat j) d' w)) else L_X9_or_5 rec m 1 (pst B (Int32.ofNat j) d' w)) = L_X9_or_5 rec m (b2 (v || v1)) (pst B (Int32.ofNat j) d' w) := by
        cases v <;> cases v1 <;> rfl
      rw [val]
      have step : RT t L p d = Rn t L (p + 1) (2, d, false, 0, false) := RT_join hl (Or.inr hx)
      rcases r with ⟨rfl, r⟩ | ⟨rfl, rd, r38, r1, r2⟩
      · obtain ⟨m', rfl⟩ : ∃ m', m = m' + 1 := ⟨m - 1, by omega⟩
        refine ⟨v || v1, j, d', 0, ?_, by omega, j2, Or.inl ⟨rfl, by rw [step, r]⟩⟩
        unfold L_X9_or_5
        rw [takes_0, Option.bind_some, if_pos rfl, gd_b2]
      · rw [rd]
        obtain ⟨v', j', d'', w', e', j1', j2', r'⟩ := ih (L - j) (by omega) m j (v || v1) (by omega) (by omega) (by omega) r38
        refine ⟨v', j', d'', w', e', by omega, j2', ?_⟩
        rcases r' with ⟨rfl, r'⟩ | ⟨rfl, rd', s38, s124, r1', r2'⟩
        · exact Or.inl ⟨rfl, by rw [step, r1, r']⟩
        · refine Or.inr ⟨rfl, rd', s38, s124, by rw [step, r1, r1'], fun hn ee an al rr hr he hv => ?_⟩
          have hn1 : RT t L j d = none := by rw [r1']; exact hn
          obtain ⟨e2, f1, f2⟩ := r2 hn1 (an || al) true rr hr
          obtain ⟨e3, an', al', g1, g2, g3⟩ := r2' hn e2 (an || al) (true && v1) rr hr f2 (by rw [hv]; cases v1 <;> rfl)
          refine ⟨e3, an', al', ?_, g2, g3⟩
          rw [← g1, ← f1, Vn_step _ hl, hx, vS_J _ (by simp), he]
          rfl
    · rw [takes_n X _ (by omega) q1, Option.bind_some, if_pos rfl, gd_b2]
      exact ⟨v, p, Int32.ofNat d, 1, rfl, by omega, by omega, Or.inr ⟨rfl, rfl, h38, q1, rfl, fun _ e an al r _ he hv => ⟨e, an, al, rfl, he, hv⟩⟩⟩
theorem or_t (X : TX B t L off) (hp : p ≤ L) (h1 : ∀ p', p' ≤ L → p ≤ p' → AC B t L fv (rec 1 (pst B (Int32.ofNat p') (Int32.ofNat d) 1)) p' d) : OC B t L fv (f_X9_or rec (pst B (Int32.ofNat p) (Int32.ofNat d) 1)) p d := by
  unfold f_X9_or
  obtain ⟨v, j, d', w, e, j1, j2, r⟩ := h1 p hp (by omega)
  rw [e, Option.bind_some]
  dsimp only
  rcases r with ⟨rfl, r⟩ | ⟨rfl, rd, r38, r1, r2⟩
  · refine ⟨v, j, d', 0, ?_, j1, j2, Or.inl ⟨rfl, r⟩⟩
    rw [FU_eq]; unfold L_X9_or_5
    rw [takes_0, Option.bind_some, if_pos rfl, gd_b2]
  · rw [rd]
    have hL : L ≤ 80 := X.2.2.2.1
    obtain ⟨v', j', d'', w', e', j1', j2', r'⟩ := orL_t (p0 := p) X h1 (L - j) FU j v j1 (by omega) (by rw [FU_eq]; omega) r38
    refine ⟨v', j', d'', w', e', by omega, j2', ?_⟩
    rcases r' with ⟨rfl, r'⟩ | ⟨rfl, rd', s38, s124, r1', r2'⟩
    · exact Or.inl ⟨rfl, by rw [r1, r']⟩
    · refine Or.inr ⟨rfl, rd', s38, s124, by rw [r1, r1'], fun hn rr hr => ?_⟩
      have hn1 : RT t L j d = none := by rw [r1']; exact hn
      obtain ⟨e2, f1, f2⟩ := r2 hn1 false true rr hr
      obtain ⟨e3, an', al', g1, g2, g3⟩ := r2' hn e2 false (true && v) rr hr f2 (by cases v <;> rfl)
      exact ⟨e3, an', al', by rw [f1, g1], g2, g3⟩
theorem grp_t (X : TX B t L off) (F : FV B fv) : ∀ D : Nat, (∀ p d, p ≤ L → d ≤ 8 → 3 * (8 - d) + (L - p) + 1 ≤ D → TC B t L fv (f_grp D 2 (pst B (Int32.ofNat p) (Int32.ofNat d) 1)) p d) ∧ (∀ p d, p ≤ L → d ≤ 8 → 3 * (8 - d) + (L - p) + 2 ≤ D → AC B t L fv (f_grp D 1 (pst B (Int32.ofNat p) (Int32.ofNat d) 1)) p d) ∧ (∀ p d, p ≤ L → d ≤ 8 → 3 * (8 - d) + (L - p) + 3 ≤ D → OC B t L fv (f_grp D 0 (pst B (Int32.ofNat p) (Int32.ofNat d) 1)) p d)
  | 0 => ⟨fun p d _ _ h => absurd h (by omega), fun p d _ _ h => absurd h (by omega), fun p d _ _ h => absurd h (by omega)⟩
  | D + 1 => by
    obtain ⟨g2, g1, g0⟩ := grp_t X F D
    refine ⟨fun p d hp hd h => ?_, fun p d hp hd h => ?_, fun p d hp hd h => ?_⟩
    · rw [show f_grp (D + 1) 2 (pst B (Int32.ofNat p) (Int32.ofNat d) 1) = f_X9_test (f_grp D) (pst B (Int32.ofNat p) (Int32.ofNat d) 1) by unfold f_grp; rw [if_neg (by decide), if_neg (by decide)]]
      exact test_t X F hp hd (fun hl hd' => g0 (p + 1) (d + 1) (by omega) (by omega) (by omega)) (fun hl => g2 (p + 1) d (by omega) hd (by omega))
    · show AC B t L fv (f_X9_and (f_grp D) _) p d
      exact and_t X hp (fun p' hp' hpp => g2 p' d hp' hd (by omega))
    · show OC B t L fv (f_X9_or (f_grp D) _) p d
      exact or_t X hp (fun p' hp' hpp => g1 p' d hp' hd (by omega))
theorem or_main (X : TX B t L off) (F : FV B fv) (hp : p ≤ L) : OC B t L fv (f_grp DEP 0 (pst B (Int32.ofNat p) (Int32.ofNat 0) 1)) p 0 := by
  have hL : L ≤ 80 := X.2.2.2.1
  exact (grp_t X F DEP).2.2 p 0 hp (by omega) (by unfold DEP; omega)
end
