/-! MARKS, 2: whether a mark holds, as a machine of its own; the class's keeps to it -/
abbrev SK : Type := List (Bool × Bool × Bool)
abbrev ES : Type := SK × Int32 × Int32 × Int32 × Int32 × Int32 × Int32 × Int32
def tA (pr sc v : Int32) : Int32 := if sc = 42 then pr * v else if v = 0 then 0 else jrem pr v
def eP (sm ad pr : Int32) : Int32 := if ad = 45 then sm - pr else sm + pr
def cpv (cm lf sm : Int32) : Bool := if cm = 60 then decide (lf < sm) else if cm = 62 then decide (sm < lf) else decide (lf = sm)
def jn (st : SK) (b : Bool) : SK := match st with
  | [] => []
  | (an, al, tu) :: r => (an, al && (b != tu), false) :: r
def eT (e : ES) : ES := match e with
  | (st, cm, lf, sm, ad, pr, sc, nu) => if cm = 0 then (st, cm, lf, sm, ad, pr, sc, nu) else (jn st (cpv cm lf (eP sm ad pr)), 0, 0, 0, 43, 1, 42, nu)
def tJ (st : SK) (x : Int32) : SK := if x = 124 then (match st with
    | [] => []
    | (an, al, tu) :: r => (an || al, true, tu) :: r)
  else if x = 40 ∧ st.length < 9 then (false, true, false) :: st
  else if x = 41 then (match st with
    | (a1, l1, _) :: p :: r => jn (p :: r) (a1 || l1)
    | s => s)
  else st
def vN (st : SK) : SK := match st with
  | [] => []
  | (an, al, tu) :: r => (an, al, !tu) :: r
def vS (fv : Int32 → Int32) (e : ES) (x : Int32) (more : Bool) : ES := match e with
  | (st, cm, lf, sm, ad, pr, sc, nu) =>
    if isF x = true then (st, cm, lf, sm, ad, tA pr sc (fv x), sc, nu)
    else if isD x = true then (if more = true then (st, cm, lf, sm, ad, pr, sc, nu * 10 + (x - 48)) else (st, cm, lf, sm, ad, tA pr sc (nu * 10 + (x - 48)), sc, 0))
    else if x = 33 then (vN st, cm, lf, sm, ad, pr, sc, nu)
    else if x = 37 ∨ x = 42 then (st, cm, lf, sm, ad, pr, x, nu)
    else if x = 43 ∨ x = 45 then (st, cm, lf, eP sm ad pr, x, 1, 42, nu)
    else if x = 60 ∨ x = 61 ∨ x = 62 then (st, x, eP sm ad pr, 0, 43, 1, 42, nu)
    else (tJ (eT (st, cm, lf, sm, ad, pr, sc, nu)).1 x, (eT (st, cm, lf, sm, ad, pr, sc, nu)).2)
def vE (e : ES) : Bool := match (eT e).1.getLast? with
  | none => false
  | some q => q.1 || q.2.1
def vR (t : Nat → Int32) (fv : Int32 → Int32) : Nat → Nat → ES → Bool
  | 0, _, e => vE e
  | k + 1, i, e => vR t fv k (i + 1) (vS fv e (t i) (decide (0 < k) && isD (t (i + 1))))
def EMs (M : Mem) (a0 : Nat) : SK → Prop
  | [] => True
  | (an, al, tu) :: r => mI M (a0 + 1) r.length = b2 an ∧ mI M (a0 + 2) r.length = b2 al ∧ mI M (a0 + 3) r.length = b2 tu ∧ EMs M a0 r
def EM (M : Mem) (a0 : Nat) (e : ES) : Prop := match e with
  | (st, cm, lf, sm, ad, pr, sc, nu) => 1 ≤ st.length ∧ st.length ≤ 9 ∧ mI M a0 3 = Int32.ofNat (st.length - 1) ∧ EMs M a0 st ∧ mI M a0 5 = cm ∧ (cm ≠ 0 → mI M a0 4 = lf) ∧ mI M a0 6 = sm ∧ mI M a0 7 = ad ∧ mI M a0 8 = pr ∧ mI M a0 9 = sc ∧ mI M a0 10 = nu
def FR4 (M M' : Mem) (a0 : Nat) : Prop := ∀ y, y < a0 ∨ a0 + 3 < y → mI M' y = mI M y
def EO (o : Option Mem) (M : Mem) (a0 : Nat) (e : ES) : Prop := ∃ M', o = some M' ∧ FR4 M M' a0 ∧ EM M' a0 e
section
variable {M M' : Mem} {a0 : Nat} {st r : SK} {cm lf sm ad pr sc nu x v : Int32} {an al tu b : Bool}
theorem fr4_r (M : Mem) (a0 : Nat) : FR4 M M a0 := fun _ _ => rfl
theorem fr4_t {M1 M2 : Mem} (h : FR4 M M1 a0) (g : FR4 M1 M2 a0) : FR4 M M2 a0 := fun y hy => (g y hy).trans (h y hy)
theorem fr4_s {k j : Nat} (hj : j ≤ 3) : FR4 M (sI M (a0 + j) k v) a0 := fun y hy => mI_sI_ne (by omega)
theorem fr4_0 {k : Nat} : FR4 M (sI M a0 k v) a0 := fun y hy => mI_sI_ne (by omega)
theorem eo_b {o : Option Mem} {f : Mem → Option Mem} {e e' : ES} (h : EO o M a0 e) (g : ∀ M1, EM M1 a0 e → EO (f M1) M1 a0 e') : EO (o.bind f) M a0 e' := by
  obtain ⟨M1, h1, h2, h3⟩ := h
  obtain ⟨M2, g1, g2, g3⟩ := g M1 h3
  exact ⟨M2, by rw [h1]; exact g1, fr4_t h2 g2, g3⟩
theorem ems_lt : ∀ (st : SK), (∀ k, k < st.length → mI M' (a0 + 1) k = mI M (a0 + 1) k ∧ mI M' (a0 + 2) k = mI M (a0 + 2) k ∧ mI M' (a0 + 3) k = mI M (a0 + 3) k) → EMs M a0 st → EMs M' a0 st
  | [], _, _ => trivial
  | (an, al, tu) :: r, h, g => by
    obtain ⟨g1, g2, g3, g4⟩ := g
    obtain ⟨h1, h2, h3⟩ := h r.length (by simp)
    exact ⟨h1.trans g1, h2.trans g2, h3.trans g3, ems_lt r (fun k hk => h k (by simp; omega)) g4⟩
theorem ems_last : ∀ (st : SK), 1 ≤ st.length → EMs M a0 st → ∃ q : Bool × Bool × Bool, st.getLast? = some q ∧ mI M (a0 + 1) 0 = b2 q.1 ∧ mI M (a0 + 2) 0 = b2 q.2.1
  | [], h, _ => absurd h (by decide)
  | [(an, al, tu)], _, ⟨g1, g2, _, _⟩ => ⟨(an, al, tu), rfl, g1, g2⟩
  | t :: p :: r, _, ⟨_, _, _, g⟩ => by
    obtain ⟨q, h1, h2, h3⟩ := ems_last (p :: r) (by simp) g
    exact ⟨q, by rw [List.getLast?_cons_cons]; exact h1, h2, h3⟩
theorem ems_0 {k : Nat} (g : EMs M a0 st) : EMs (sI M a0 k v) a0 st := ems_lt st (fun j _ => ⟨by rw [mI_sI_ne (by omega)], by rw [mI_sI_ne (by omega)], by rw [mI_sI_ne (by omega)]⟩) g
theorem em_4 (h : EM M a0 (st, cm, lf, sm, ad, pr, sc, nu)) (hc : cm = 0) : EM (sI M a0 4 v) a0 (st, cm, lf, sm, ad, pr, sc, nu) := by
  obtain ⟨h1, h2, h3, h4, h5, h6, h7, h8, h9, h10, h11⟩ := h
  refine ⟨h1, h2, ?_, ems_0 h4, ?_, fun h => absurd hc h, ?_, ?_, ?_, ?_, ?_⟩ <;> rw [mI_sI_k (by decide)] <;> assumption
theorem em_5 (h : EM M a0 (st, cm, lf, sm, ad, pr, sc, nu)) (hl : v ≠ 0 → mI M a0 4 = x) : EM (sI M a0 5 v) a0 (st, v, x, sm, ad, pr, sc, nu) := by
  obtain ⟨h1, h2, h3, h4, h5, h6, h7, h8, h9, h10, h11⟩ := h
  refine ⟨h1, h2, ?_, ems_0 h4, mI_sI_eq, fun h => ?_, ?_, ?_, ?_, ?_, ?_⟩ <;> rw [mI_sI_k (by decide)] <;> first | assumption | exact hl h
theorem em_6 (h : EM M a0 (st, cm, lf, sm, ad, pr, sc, nu)) : EM (sI M a0 6 v) a0 (st, cm, lf, v, ad, pr, sc, nu) := by
  obtain ⟨h1, h2, h3, h4, h5, h6, h7, h8, h9, h10, h11⟩ := h
  refine ⟨h1, h2, ?_, ems_0 h4, ?_, fun h => ?_, mI_sI_eq, ?_, ?_, ?_, ?_⟩ <;> rw [mI_sI_k (by decide)] <;> first | assumption | exact h6 h
theorem em_7 (h : EM M a0 (st, cm, lf, sm, ad, pr, sc, nu)) : EM (sI M a0 7 v) a0 (st, cm, lf, sm, v, pr, sc, nu) := by
  obtain ⟨h1, h2, h3, h4, h5, h6, h7, h8, h9, h10, h11⟩ := h
  refine ⟨h1, h2, ?_, ems_0 h4, ?_, fun h => ?_, ?_, mI_sI_eq, ?_, ?_, ?_⟩ <;> rw [mI_sI_k (by decide)] <;> first | assumption | exact h6 h
theorem em_8 (h : EM M a0 (st, cm, lf, sm, ad, pr, sc, nu)) : EM (sI M a0 8 v) a0 (st, cm, lf, sm, ad, v, sc, nu) := by
  obtain ⟨h1, h2, h3, h4, h5, h6, h7, h8, h9, h10, h11⟩ := h
  refine ⟨h1, h2, ?_, ems_0 h4, ?_, fun h => ?_, ?_, ?_, mI_sI_eq, ?_, ?_⟩ <;> rw [mI_sI_k (by decide)] <;> first | assumption | exact h6 h
theorem em_9 (h : EM M a0 (st, cm, lf, sm, ad, pr, sc, nu)) : EM (sI M a0 9 v) a0 (st, cm, lf, sm, ad, pr, v, nu) := by
  obtain ⟨h1, h2, h3, h4, h5, h6, h7, h8, h9, h10, h11⟩ := h
  refine ⟨h1, h2, ?_, ems_0 h4, ?_, fun h => ?_, ?_, ?_, ?_, mI_sI_eq, ?_⟩ <;> rw [mI_sI_k (by decide)] <;> first | assumption | exact h6 h
theorem em_10 (h : EM M a0 (st, cm, lf, sm, ad, pr, sc, nu)) : EM (sI M a0 10 v) a0 (st, cm, lf, sm, ad, pr, sc, v) := by
  obtain ⟨h1, h2, h3, h4, h5, h6, h7, h8, h9, h10, h11⟩ := h
  refine ⟨h1, h2, ?_, ems_0 h4, ?_, fun h => ?_, ?_, ?_, ?_, ?_, mI_sI_eq⟩ <;> rw [mI_sI_k (by decide)] <;> first | assumption | exact h6 h
theorem bp_t (h : EM M a0 (st, cm, lf, sm, ad, pr, sc, nu)) : EO (f_X3_beginProduct a0 M) M a0 (st, cm, lf, sm, ad, 1, 42, nu) :=
  ⟨_, rfl, fr4_t fr4_0 fr4_0, em_9 (em_8 h)⟩
theorem bs_t (h : EM M a0 (st, cm, lf, sm, ad, pr, sc, nu)) : EO (f_X3_beginSum a0 M) M a0 (st, cm, lf, 0, 43, 1, 42, nu) := by
  unfold f_X3_beginSum
  rw [bind_id]
  obtain ⟨M', e, f, g⟩ := bp_t (em_7 (v := 43) (em_6 (v := 0) h))
  exact ⟨M', e, fr4_t (fr4_t fr4_0 fr4_0) f, g⟩
theorem ep_t (h : EM M a0 (st, cm, lf, sm, ad, pr, sc, nu)) : EO (f_X3_endProduct a0 M) M a0 (st, cm, lf, eP sm ad pr, ad, 1, 42, nu) := by
  unfold f_X3_endProduct eP
  rw [bind_id, bind_id]
  have h' := h
  obtain ⟨h1, h2, h3, h4, h5, h6, h7, h8, h9, h10, h11⟩ := h'
  rw [h7, h8, h9]
  by_cases e1 : ad = 45
  · rw [if_pos e1, if_pos e1]
    obtain ⟨M', e, f, g⟩ := bp_t (em_6 (v := sm - pr) h)
    exact ⟨M', e, fr4_t fr4_0 f, g⟩
  · rw [if_neg e1, if_neg e1]
    obtain ⟨M', e, f, g⟩ := bp_t (em_6 (v := sm + pr) h)
    exact ⟨M', e, fr4_t fr4_0 f, g⟩
theorem ta_t (h : EM M a0 (st, cm, lf, sm, ad, pr, sc, nu)) : EO (f_X3_takeAtom a0 v M) M a0 (st, cm, lf, sm, ad, tA pr sc v, sc, nu) := by
  unfold f_X3_takeAtom tA
  have h' := h
  obtain ⟨h1, h2, h3, h4, h5, h6, h7, h8, h9, h10, h11⟩ := h'
  rw [h9, h10]
  by_cases e1 : sc = 42
  · rw [if_pos e1, if_pos e1]; exact ⟨_, rfl, fr4_0, em_8 h⟩
  rw [if_neg e1, if_neg e1]
  by_cases e2 : v = 0
  · rw [if_pos e2, if_pos e2]; exact ⟨_, rfl, fr4_0, em_8 h⟩
  · rw [if_neg e2, if_neg e2, gd_t e2]; exact ⟨_, rfl, fr4_0, em_8 h⟩
theorem td_t {l : Bool} (h : EM M a0 (st, cm, lf, sm, ad, pr, sc, nu)) : EO (f_X3_takeDigit a0 x (b2 (!l)) M) M a0 (if l = true then (st, cm, lf, sm, ad, pr, sc, nu * 10 + x) else (st, cm, lf, sm, ad, tA pr sc (nu * 10 + x), sc, 0)) := by
  unfold f_X3_takeDigit
  have h11 : mI M a0 10 = nu := h.2.2.2.2.2.2.2.2.2.2
  rw [mI_sI_eq, h11]
  simp only [b2_0]
  cases l
  · rw [if_neg (by decide), if_neg (by decide)]
    refine eo_b (e := (st, cm, lf, sm, ad, tA pr sc (nu * 10 + x), sc, nu * 10 + x)) ?_ (fun M1 h1 => ⟨_, rfl, fr4_0, em_10 h1⟩)
    obtain ⟨M', e, f, g⟩ := ta_t (v := nu * 10 + x) (em_10 (v := nu * 10 + x) h)
    exact ⟨M', e, fr4_t fr4_0 f, g⟩
  · rw [if_pos (by decide), if_pos rfl]
    exact ⟨_, rfl, fr4_0, em_10 h⟩
theorem dep_in (h1 : 1 ≤ st.length) (h2 : st.length ≤ 9) : inR (Int32.ofNat (st.length - 1)) 9 := (o_inR (by omega)).mpr (by omega)
/-- the top of the stack put anew -/
theorem em_top {M' : Mem} (h : EM M a0 ((an, al, tu) :: r, cm, lf, sm, ad, pr, sc, nu)) {an' al' tu' : Bool} (h0 : mI M' a0 = mI M a0) (hk : ∀ k, k ≠ r.length → mI M' (a0 + 1) k = mI M (a0 + 1) k ∧ mI M' (a0 + 2) k = mI M (a0 + 2) k ∧ mI M' (a0 + 3) k = mI M (a0 + 3) k) (h1' : mI M' (a0 + 1) r.length = b2 an') (h2' : mI M' (a0 + 2) r.length = b2 al') (h3' : mI M' (a0 + 3) r.length = b2 tu') : EM M' a0 ((an', al', tu') :: r, cm, lf, sm, ad, pr, sc, nu) := by
  obtain ⟨h1, h2, h3, ⟨-, -, -, h4⟩, h5, h6, h7, h8, h9, h10, h11⟩ := h
  refine ⟨h1, h2, ?_, ⟨h1', h2', h3', ems_lt r (fun k hk' => hk k (by omega)) h4⟩, ?_, ?_, ?_, ?_, ?_, ?_, ?_⟩ <;> rw [h0] <;> assumption
theorem jn_t (h : EM M a0 (st, cm, lf, sm, ad, pr, sc, nu)) : EO (f_X3_join a0 (b2 b) M) M a0 (jn st b, cm, lf, sm, ad, pr, sc, nu) := by
  have h' := h
  obtain ⟨h1, h2, h3, h4, -⟩ := h
  cases st with
  | nil => exact absurd h1 (by decide)
  | cons t r =>
    obtain ⟨an, al, tu⟩ := t
    obtain ⟨g1, g2, g3, g4⟩ := h4
    have hr : (((an, al, tu) :: r : SK)).length - 1 = r.length := by simp
    have hlr : r.length < 9 := by simp at h2; omega
    unfold f_X3_join jn
    have d1 : ∀ v, mI (sI M (a0 + 2) r.length v) a0 3 = Int32.ofNat r.length := fun v => by rw [mI_sI_ne (by omega), h3, hr]
    rw [h3, hr, gd_r (by omega) (by omega), o_clamp (by omega), g2, g3]
    simp only [d1]
    have key : ∀ (v : Int32) (al' : Bool), v = b2 al' → EO (gd (inR (Int32.ofNat r.length) 9) (some (sI (sI M (a0 + 2) r.length v) (a0 + 3) (Int32.ofNat r.length).toNatClampNeg 0))) M a0 ((an, al', false) :: r, cm, lf, sm, ad, pr, sc, nu) := by
      intro v al' hv
      rw [gd_r (by omega) (by omega), o_clamp (by omega)]
      refine ⟨_, rfl, fr4_t (fr4_s (j := 2) (by decide)) (fr4_s (j := 3) (by decide)), em_top h' ?_ ?_ ?_ ?_ ?_⟩
      · rw [mI_sI_ne (by omega), mI_sI_ne (by omega)]
      · intro k hk
        refine ⟨?_, ?_, ?_⟩
        · rw [mI_sI_ne (by omega), mI_sI_ne (by omega)]
        · rw [mI_sI_ne (by omega), mI_sI_k hk]
        · rw [mI_sI_k hk, mI_sI_ne (by omega)]
      · rw [mI_sI_ne (by omega), mI_sI_ne (by omega), g1]
      · rw [mI_sI_ne (by omega), mI_sI_eq, hv]
      · rw [mI_sI_eq]; rfl
    cases al
    · rw [if_pos (show b2 false = 0 from rfl)]; exact key 0 (false && (b != tu)) rfl
    · rw [if_neg (by decide)]
      by_cases hb : b = tu
      · subst hb; rw [if_pos rfl]; exact key 0 (true && (b != b)) (by simp [b2])
      · rw [if_neg (by cases b <;> cases tu <;> first | (exact absurd rfl hb) | decide)]
        exact key 1 (true && (b != tu)) (by cases b <;> cases tu <;> first | (exact absurd rfl hb) | rfl)
theorem cp_t (h : EM M a0 (st, cm, lf, sm, ad, pr, sc, nu)) (hc : cm ≠ 0) : f_X3_compared a0 M = b2 (cpv cm lf sm) := by
  obtain ⟨h1, h2, h3, h4, h5, h6, h7, h8, h9, h10, h11⟩ := h
  unfold f_X3_compared cpv
  rw [h5, h6 hc, h7]
  by_cases e1 : cm = 60
  · rw [if_pos e1, if_pos e1]
    by_cases e2 : sm ≤ lf
    · rw [if_pos e2]
      rw [show decide (lf < sm) = false from decide_eq_false (by rw [Int32.le_iff_toInt_le] at e2; rw [Int32.lt_iff_toInt_lt]; omega)]; rfl
    · rw [if_neg e2, show decide (lf < sm) = true from decide_eq_true (by rw [Int32.le_iff_toInt_le] at e2; rw [Int32.lt_iff_toInt_lt]; omega)]; rfl
  rw [if_neg e1, if_neg e1]
  by_cases e3 : cm = 62
  · rw [if_pos e3, if_pos e3]
    by_cases e2 : lf ≤ sm
    · rw [if_pos e2]
      rw [show decide (sm < lf) = false from decide_eq_false (by rw [Int32.le_iff_toInt_le] at e2; rw [Int32.lt_iff_toInt_lt]; omega)]; rfl
    · rw [if_neg e2, show decide (sm < lf) = true from decide_eq_true (by rw [Int32.le_iff_toInt_le] at e2; rw [Int32.lt_iff_toInt_lt]; omega)]; rfl
  · rw [if_neg e3, if_neg e3]
    by_cases e2 : lf = sm
    · rw [if_pos e2, decide_eq_true e2]; rfl
    · rw [if_neg e2, decide_eq_false e2]; rfl
theorem et_t (h : EM M a0 (st, cm, lf, sm, ad, pr, sc, nu)) : EO (f_X3_endTest a0 M) M a0 (eT (st, cm, lf, sm, ad, pr, sc, nu)) := by
  unfold f_X3_endTest eT
  have h5 : mI M a0 5 = cm := h.2.2.2.2.1
  rw [h5]
  by_cases hc : cm = 0
  · rw [if_pos hc]; dsimp only; rw [if_pos hc]; exact ⟨M, rfl, fr4_r _ _, h⟩
  · rw [if_neg hc]; dsimp only; rw [if_neg hc]
    refine eo_b (ep_t h) (fun M1 g1 => ?_)
    rw [cp_t g1 hc]
    refine eo_b (jn_t g1) (fun M2 g2 => ?_)
    rw [bind_id]
    obtain ⟨M', e, f, g⟩ := bs_t (em_5 (v := 0) (x := 0) g2 (fun h => absurd rfl h))
    exact ⟨M', e, fr4_t fr4_0 f, g⟩
theorem tj_push (h : EM M a0 (st, cm, lf, sm, ad, pr, sc, nu)) (hl : st.length < 9) : EO (f_X3_beginGroup a0 (sI M a0 3 (mI M a0 3 + 1))) M a0 ((false, true, false) :: st, cm, lf, sm, ad, pr, sc, nu) := by
  obtain ⟨h1, h2, h3, h4, h5, h6, h7, h8, h9, h10, h11⟩ := h
  unfold f_X3_beginGroup
  have e0 : mI M a0 3 + 1 = Int32.ofNat st.length := by rw [h3, o_succ]; congr 1; omega
  rw [e0]
  have d0 : mI (sI M a0 3 (Int32.ofNat st.length)) a0 3 = Int32.ofNat st.length := mI_sI_eq
  have d1 : ∀ y, mI (sI (sI M a0 3 (Int32.ofNat st.length)) (a0 + 1) y 0) a0 3 = Int32.ofNat st.length := fun y => by rw [mI_sI_ne (by omega), d0]
  have d2 : ∀ y z, mI (sI (sI (sI M a0 3 (Int32.ofNat st.length)) (a0 + 1) y 0) (a0 + 2) z 1) a0 3 = Int32.ofNat st.length := fun y z => by rw [mI_sI_ne (by omega), d1]
  simp only [d0, d1, d2]
  rw [gd_r (by omega) (by omega), gd_r (by omega) (by omega), gd_r (by omega) (by omega)]
  simp (disch := omega) only [o_clamp]
  have q : ∀ k, k ≠ 3 → mI (sI (sI (sI (sI M a0 3 (Int32.ofNat st.length)) (a0 + 1) st.length 0) (a0 + 2) st.length 1) (a0 + 3) st.length 0) a0 k = mI M a0 k := fun k hk => by
    rw [mI_sI_ne (by omega), mI_sI_ne (by omega), mI_sI_ne (by omega), mI_sI_k hk]
  refine ⟨_, rfl, fr4_t (fr4_t (fr4_t fr4_0 (fr4_s (j := 1) (by decide))) (fr4_s (j := 2) (by decide))) (fr4_s (j := 3) (by decide)), ?_⟩
  refine ⟨by simp, by simp; omega, ?_, ⟨?_, ?_, ?_, ems_lt st (fun k hk => ⟨?_, ?_, ?_⟩) h4⟩, ?_, fun hc => ?_, ?_, ?_, ?_, ?_, ?_⟩
  · rw [mI_sI_ne (by omega), d2]; congr 1
  · rw [mI_sI_ne (by omega), mI_sI_ne (by omega), mI_sI_eq]; rfl
  · rw [mI_sI_ne (by omega), mI_sI_eq]; rfl
  · rw [mI_sI_eq]; rfl
  · rw [mI_sI_ne (by omega), mI_sI_ne (by omega), mI_sI_k (by omega), mI_sI_ne (by omega)]
  · rw [mI_sI_ne (by omega), mI_sI_k (by omega), mI_sI_ne (by omega), mI_sI_ne (by omega)]
  · rw [mI_sI_k (by omega), mI_sI_ne (by omega), mI_sI_ne (by omega), mI_sI_ne (by omega)]
  · rw [q 5 (by decide), h5]
  · rw [q 4 (by decide), h6 hc]
  · rw [q 6 (by decide), h7]
  · rw [q 7 (by decide), h8]
  · rw [q 8 (by decide), h9]
  · rw [q 9 (by decide), h10]
  · rw [q 10 (by decide), h11]
theorem tj_pop {p : Bool × Bool × Bool} {a1 l1 t1 : Bool} (h : EM M a0 ((a1, l1, t1) :: p :: r, cm, lf, sm, ad, pr, sc, nu)) : EM (sI M a0 3 (mI M a0 3 - 1)) a0 (p :: r, cm, lf, sm, ad, pr, sc, nu) := by
  obtain ⟨h1, h2, h3, ⟨-, -, -, h4⟩, h5, h6, h7, h8, h9, h10, h11⟩ := h
  have hl : r.length + 2 ≤ 9 := by simpa using h2
  refine ⟨by simp, by simp; omega, ?_, ems_0 h4, ?_, fun h => ?_, ?_, ?_, ?_, ?_, ?_⟩
  · rw [mI_sI_eq, h3]
    have z1 : (1 : Int32).toInt = 1 := rfl
    have z2 := o_toInt (i := r.length + 1) (by omega)
    show Int32.ofNat (r.length + 1) - 1 = Int32.ofNat r.length
    apply Int32.toInt_inj.mp
    rw [ti_sub (by rw [z2, z1]; omega) (by rw [z2, z1]; omega), z2, z1, o_toInt (by omega)]
    omega
  all_goals rw [mI_sI_k (by decide)]
  all_goals first | assumption | exact h6 h
theorem tj_89 (h : EM M a0 (st, cm, lf, sm, ad, pr, sc, nu)) (hx : x ≠ 124) (hp : ¬ (x = 40 ∧ st.length < 9)) : EO (B_X3_takeJoint_89 a0 x M) M a0 (tJ st x, cm, lf, sm, ad, pr, sc, nu) := by
  have h' := h
  obtain ⟨h1, h2, h3, h4, h5, h6, h7, h8, h9, h10, h11⟩ := h'
  unfold B_X3_takeJoint_89 tJ
  rw [if_neg hx, if_neg hp]
  by_cases e1 : x = 41
  · have d0 : (Int32.ofNat (st.length - 1) ≤ 0) = (st.length - 1 ≤ 0) := propext (o_le (j := 0) (by omega) (by omega))
    rw [if_pos e1, if_pos e1, h3]
    simp only [d0]
    match st, h, h1, h2, h3, h4 with
    | [], _, h1, _, _, _ => exact absurd h1 (by decide)
    | [t], h, _, _, _, _ => rw [if_pos (by simp)]; exact ⟨M, rfl, fr4_r _ _, h⟩
    | (a1, l1, t1) :: p :: r, h, h1, h2, h3, ⟨g1, g2, g3, g4⟩ =>
      have hl : r.length + 2 ≤ 9 := by simpa using h2
      rw [if_neg (by simp)]
      have hh := tj_pop h
      have e3 : mI (sI M a0 3 (mI M a0 3 - 1)) a0 3 = Int32.ofNat r.length := hh.2.2.1
      rw [h3] at hh e3
      have e4 : Int32.ofNat r.length + 1 = Int32.ofNat (p :: r).length := by rw [o_succ]; simp
      have hpr : (p :: r).length < 9 := by simp; omega
      rw [e3, e4, gd_r (by omega) hpr, o_clamp (by omega), mI_sI_ne (by omega), mI_sI_ne (by omega), g1, g2]
      simp only [b2_0, bind_id]
      have fin : ∀ b : Bool, EO (f_X3_join a0 (b2 b) (sI M a0 3 (Int32.ofNat (((a1, l1, t1) :: p :: r : SK).length - 1) - 1))) M a0 (jn (p :: r) b, cm, lf, sm, ad, pr, sc, nu) := by
        intro b
        obtain ⟨M', e, f, g⟩ := jn_t (b := b) hh
        exact ⟨M', e, fr4_t fr4_0 f, g⟩
      cases a1
      · rw [if_pos rfl]
        cases l1
        · rw [if_pos rfl]; exact fin false
        · rw [if_neg (by decide)]; exact fin true
      · rw [if_neg (by decide)]; exact fin true
  · rw [if_neg e1, if_neg e1]; exact ⟨M, rfl, fr4_r _ _, h⟩
theorem tj_t (h : EM M a0 (st, cm, lf, sm, ad, pr, sc, nu)) : EO (f_X3_takeJoint a0 x M) M a0 (tJ st x, cm, lf, sm, ad, pr, sc, nu) := by
  have h' := h
  obtain ⟨h1, h2, h3, h4, h5, h6, h7, h8, h9, h10, h11⟩ := h'
  unfold f_X3_takeJoint
  by_cases e1 : x = 124
  · rw [if_pos e1]
    unfold tJ
    rw [if_pos e1]
    cases st with
    | nil => exact absurd h1 (by decide)
    | cons t r =>
      obtain ⟨an, al, tu⟩ := t
      obtain ⟨g1, g2, g3, g4⟩ := h4
      have hr : (((an, al, tu) :: r : SK)).length - 1 = r.length := by simp
      have hlr : r.length < 9 := by simp at h2; omega
      have d1 : ∀ v, mI (sI M (a0 + 1) r.length v) a0 3 = Int32.ofNat r.length := fun v => by rw [mI_sI_ne (by omega), h3, hr]
      rw [h3, hr, gd_r (by omega) (by omega), o_clamp (by omega), g1, g2]
      simp only [d1]
      have key : ∀ (v : Int32) (an' : Bool), v = b2 an' → EO (gd (inR (Int32.ofNat r.length) 9) (some (sI (sI M (a0 + 1) r.length v) (a0 + 2) (Int32.ofNat r.length).toNatClampNeg 1))) M a0 ((an', true, tu) :: r, cm, lf, sm, ad, pr, sc, nu) := by
        intro v an' hv
        rw [gd_r (by omega) (by omega), o_clamp (by omega)]
        refine ⟨_, rfl, fr4_t (fr4_s (j := 1) (by decide)) (fr4_s (j := 2) (by decide)), em_top h ?_ ?_ ?_ ?_ ?_⟩
        · rw [mI_sI_ne (by omega), mI_sI_ne (by omega)]
        · intro k hk
          refine ⟨?_, ?_, ?_⟩
          · rw [mI_sI_ne (by omega), mI_sI_k hk]
          · rw [mI_sI_k hk, mI_sI_ne (by omega)]
          · rw [mI_sI_ne (by omega), mI_sI_ne (by omega)]
        · rw [mI_sI_ne (by omega), mI_sI_eq, hv]
        · rw [mI_sI_eq]; rfl
        · rw [mI_sI_ne (by omega), mI_sI_ne (by omega), g3]
      simp only [b2_0]
      cases an
      · rw [if_pos rfl]
        cases al
        · rw [if_pos rfl]; exact key 0 (false || false) rfl
        · rw [if_neg (by decide)]; exact key 1 (false || true) rfl
      · rw [if_neg (by decide)]; exact key 1 (true || al) rfl
  · rw [if_neg e1]
    by_cases e2 : x = 40
    · have d0 : (8 ≤ Int32.ofNat (st.length - 1)) = (8 ≤ st.length - 1) := propext (o_le (i := 8) (by omega) (by omega))
      rw [if_pos e2, h3]
      simp only [d0]
      by_cases e3 : st.length < 9
      · rw [if_neg (by omega), bind_id]
        unfold tJ
        rw [if_neg e1, if_pos ⟨e2, e3⟩, ← h3]
        exact tj_push h e3
      · rw [if_pos (by omega)]; exact tj_89 h e1 (fun q => e3 q.2)
    · rw [if_neg e2]; exact tj_89 h e1 (fun q => e2 q.1)
theorem ej_t (h : EM M a0 (st, cm, lf, sm, ad, pr, sc, nu)) : EO ((f_X3_endTest a0 M).bind fun q => f_X3_takeJoint a0 x q) M a0 (tJ (eT (st, cm, lf, sm, ad, pr, sc, nu)).1 x, (eT (st, cm, lf, sm, ad, pr, sc, nu)).2) := by
  refine eo_b (et_t h) (fun M1 g => ?_)
  generalize eT (st, cm, lf, sm, ad, pr, sc, nu) = e at g ⊢
  obtain ⟨st', cm', lf', sm', ad', pr', sc', nu'⟩ := e
  exact tj_t g
theorem ts_t (h : EM M a0 (st, cm, lf, sm, ad, pr, sc, nu)) : EO (f_X3_takeSign a0 x M) M a0 (if x = 33 then (vN st, cm, lf, sm, ad, pr, sc, nu)
    else if x = 37 ∨ x = 42 then (st, cm, lf, sm, ad, pr, x, nu)
    else if x = 43 ∨ x = 45 then (st, cm, lf, eP sm ad pr, x, 1, 42, nu)
    else if x = 60 ∨ x = 61 ∨ x = 62 then (st, x, eP sm ad pr, 0, 43, 1, 42, nu)
    else (tJ (eT (st, cm, lf, sm, ad, pr, sc, nu)).1 x, (eT (st, cm, lf, sm, ad, pr, sc, nu)).2)) := by
  unfold f_X3_takeSign
  simp only [bind_id]
  have pm : EO ((f_X3_endProduct a0 M).bind fun q => some (sI q a0 7 x)) M a0 (st, cm, lf, eP sm ad pr, x, 1, 42, nu) := eo_b (ep_t h) (fun M1 g => ⟨_, rfl, fr4_0, em_7 g⟩)
  have cmp : x ≠ 0 → EO ((f_X3_endProduct a0 M).bind fun q => f_X3_beginSum a0 (sI (sI q a0 4 (mI q a0 6)) a0 5 x)) M a0 (st, x, eP sm ad pr, 0, 43, 1, 42, nu) := fun hx0 => by
    refine eo_b (ep_t h) (fun M1 g => ?_)
    have g6 : mI M1 a0 6 = eP sm ad pr := g.2.2.2.2.2.2.1
    have g' : EM (sI (sI M1 a0 4 (mI M1 a0 6)) a0 5 x) a0 (st, x, eP sm ad pr, eP sm ad pr, ad, 1, 42, nu) := by
      obtain ⟨h1, h2, h3, h4, h5, h6, h7, h8, h9, h10, h11⟩ := g
      refine ⟨h1, h2, ?_, ems_0 (ems_0 h4), mI_sI_eq, fun _ => ?_, ?_, ?_, ?_, ?_, ?_⟩
      all_goals first | (rw [mI_sI_k (by decide), mI_sI_eq]; exact g6) | (rw [mI_sI_k (by decide), mI_sI_k (by decide)]; assumption)
    obtain ⟨M', e, f, g2⟩ := bs_t g'
    exact ⟨M', e, fr4_t (fr4_t fr4_0 fr4_0) f, g2⟩
  by_cases e1 : x = 33
  · rw [if_pos e1, if_pos e1]
    have h' := h
    obtain ⟨h1, h2, h3, h4, h5, h6, h7, h8, h9, h10, h11⟩ := h'
    cases st with
    | nil => exact absurd h1 (by decide)
    | cons t r =>
      obtain ⟨an, al, tu⟩ := t
      obtain ⟨g1, g2, g3, g4⟩ := h4
      have hr : (((an, al, tu) :: r : SK)).length - 1 = r.length := by simp
      have hlr : r.length < 9 := by simp at h2; omega
      rw [h3, hr, gd_r (by omega) (by omega), o_clamp (by omega), g3]
      simp only [b2_0]
      have key : ∀ (v : Int32), v = b2 (!tu) → EO (some (sI M (a0 + 3) r.length v)) M a0 ((an, al, !tu) :: r, cm, lf, sm, ad, pr, sc, nu) := by
        intro v hv
        refine ⟨_, rfl, fr4_s (j := 3) (by decide), em_top h ?_ ?_ ?_ ?_ ?_⟩
        · rw [mI_sI_ne (by omega)]
        · intro k hk
          refine ⟨?_, ?_, ?_⟩
          · rw [mI_sI_ne (by omega)]
          · rw [mI_sI_ne (by omega)]
          · rw [mI_sI_k hk]
        · rw [mI_sI_ne (by omega), g1]
        · rw [mI_sI_ne (by omega), g2]
        · rw [mI_sI_eq, hv]
      cases tu
      · rw [if_pos rfl]; exact key 1 rfl
      · rw [if_neg (by decide)]; exact key 0 rfl
  rw [if_neg e1, if_neg e1]
  by_cases e2 : x = 37
  · subst e2; simp only [show ((37 : Int32) = 34) = False by decide, show ((37 : Int32) = 35) = False by decide, show ((37 : Int32) = 36) = False by decide, if_false, if_true, true_or]
    exact ⟨_, rfl, fr4_0, em_9 h⟩
  by_cases e3 : x = 42
  · subst e3
    simp (decide := true) only [if_false, if_true, or_true]
    exact ⟨_, rfl, fr4_0, em_9 h⟩
  by_cases e4 : x = 43
  · subst e4
    simp (decide := true) only [if_false, if_true, true_or]
    exact pm
  by_cases e5 : x = 45
  · subst e5
    simp (decide := true) only [if_false, if_true, or_true]
    exact pm
  by_cases e6 : x = 60
  · subst e6
    simp (decide := true) only [if_false, if_true, true_or]
    exact cmp (by decide)
  by_cases e7 : x = 61
  · subst e7
    simp (decide := true) only [if_false, if_true, true_or, or_true]
    exact cmp (by decide)
  by_cases e8 : x = 62
  · subst e8
    simp (decide := true) only [if_false, if_true, or_true]
    exact cmp (by decide)
  simp only [e2, e3, e4, e5, e6, e7, e8, if_false, ite_self, or_self]
  exact ej_t h
end
/-- the class's run over a text, byte by byte -/
theorem vR_run (t : Nat → Int32) (fv : Int32 → Int32) (a0 a1 a3 L : Nat) (x4 : Int32) (hl : ln a1 = 80) (hL : L ≤ 80) (ha1 : a1 < a0 ∨ a0 + 3 < a1) (M0' : Mem) (ht : ∀ j, j < L → mI M0' a1 j = t j ∧ bt (t j) (-128) 127) (hf : ∀ M', FR4 M0' M' a0 → ∀ x, isF x = true → f_X3_fieldOf x a3 x4 M' = some (fv x)) : ∀ k n i (M : Mem) (e : ES), i + k = L → k < n → FR4 M0' M a0 → EM M a0 e → ∃ M', L_X3_holds_26 n a0 a1 (Int32.ofNat L) a3 x4 (Int32.ofNat i) M = some (b2 (vR t fv k i e), M') ∧ FR4 M0' M' a0 := by
  intro k
  induction k with
  | zero =>
    intro n i M e hi hn hf0 he
    obtain ⟨m, rfl⟩ : ∃ m, n = m + 1 := ⟨n - 1, by omega⟩
    have ei : i = L := by omega
    subst ei
    unfold L_X3_holds_26 B_X3_holds_150 B_X3_holds_172 vR vE
    rw [if_pos (by rw [le_t (by omega)]; trivial)]
    obtain ⟨st, cm, lf, sm, ad, pr, sc, nu⟩ := e
    obtain ⟨M1, e1, f1, g1⟩ := et_t he
    rw [e1, Option.bind_some]
    generalize eT (st, cm, lf, sm, ad, pr, sc, nu) = e' at g1 ⊢
    obtain ⟨st', cm', lf', sm', ad', pr', sc', nu'⟩ := e'
    obtain ⟨h1, h2, h3, h4, -⟩ := g1
    obtain ⟨q, hq, q1, q2⟩ := ems_last st' h1 h4
    dsimp only
    rw [hq, q1, q2]
    simp only [b2_0]
    refine ⟨M1, ?_, fr4_t hf0 f1⟩
    obtain ⟨qa, qb, qc⟩ := q
    cases qa <;> cases qb <;> rfl
  | succ k ih =>
    intro n i M e hi hn hf0 he
    obtain ⟨m, rfl⟩ : ∃ m, n = m + 1 := ⟨n - 1, by omega⟩
    unfold L_X3_holds_26 B_X3_holds_109 B_X3_holds_144
    rw [if_neg (by rw [le_f (by omega) (by omega)]; exact id), if_neg (by rw [hl, le_f (by omega) (by omega)]; exact id), gd_r (by omega) (by omega)]
    simp (disch := omega) only [hl, ↓gd_r, o_clamp]
    obtain ⟨et, bt'⟩ := ht i (by omega)
    rw [hf0 a1 ha1, et, isF_c bt', Option.bind_some]
    simp only [b2_0]
    obtain ⟨st, cm, lf, sm, ad, pr, sc, nu⟩ := e
    unfold vR vS
    by_cases q1 : isF (t i) = true
    · rw [if_neg (by rw [q1]; decide), hf M hf0 (t i) q1, Option.bind_some]
      obtain ⟨M1, e1, f1, g1⟩ := ta_t (v := fv (t i)) he
      rw [e1, Option.bind_some, o_succ]
      dsimp only
      rw [if_pos q1]
      exact ih m (i + 1) M1 _ (by omega) (by omega) (fr4_t hf0 f1) g1
    rw [if_pos (by simpa using q1), isD_c]
    simp only [b2_0]
    by_cases q2 : isD (t i) = true
    · rw [if_neg (by rw [q2]; decide)]
      skip
      rw [if_neg q1, if_pos q2]
      have key : ∀ l : Bool, ∃ M', ((f_X3_takeDigit a0 (t i - 48) (b2 (!l)) M).bind fun q => L_X3_holds_26 m a0 a1 (Int32.ofNat L) a3 x4 (Int32.ofNat i + 1) q) = some (b2 (vR t fv k (i + 1) (if l = true then (st, cm, lf, sm, ad, pr, sc, nu * 10 + (t i - 48)) else (st, cm, lf, sm, ad, tA pr sc (nu * 10 + (t i - 48)), sc, 0))), M') ∧ FR4 M0' M' a0 := by
        intro l
        obtain ⟨M1, e1, f1, g1⟩ := td_t (x := t i - 48) (l := l) he
        rw [e1, Option.bind_some, o_succ]
        exact ih m (i + 1) M1 _ (by omega) (by omega) (fr4_t hf0 f1) g1
      have o1 : Int32.ofNat i + 1 = Int32.ofNat (i + 1) := o_succ i
      by_cases q3 : 0 < k
      · rw [o1, if_neg (by rw [le_f (by omega) (by omega)]; exact id), if_neg (by rw [le_f (by omega) (by omega)]; exact id), gd_r (by omega) (by omega), o_clamp (by omega), isD_c, (ht (i + 1) (by omega)).1]
        simp only [b2_0]
        rw [show decide (0 < k) = true from decide_eq_true q3, Bool.true_and]
        by_cases q4 : isD (t (i + 1)) = true
        · rw [if_neg (by rw [q4]; decide), if_neg (by decide), q4]; rw [o1] at key; exact key true
        · rw [if_pos (by simpa using q4), if_pos trivial, show isD (t (i + 1)) = false by simpa using q4]; rw [o1] at key; exact key false
      · rw [o1, if_pos (by rw [show L = i + 1 by omega, le_t (by omega)]; trivial), if_pos trivial, show decide (0 < k) = false from decide_eq_false q3, Bool.false_and]
        rw [o1] at key
        exact key false
    · rw [if_pos (by simpa using q2)]
      skip
      rw [if_neg q1, if_neg q2]
      obtain ⟨M1, e1, f1, g1⟩ := ts_t (x := t i) he
      rw [e1, Option.bind_some, o_succ]
      exact ih m (i + 1) M1 _ (by omega) (by omega) (fr4_t hf0 f1) g1
