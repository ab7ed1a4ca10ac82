/-! MARKS, 1: the grammar as a machine of its own; the class's grammar keeps to it -/
def isD (x : Int32) : Bool := decide (48 ≤ x.toInt ∧ x.toInt ≤ 57)
def isF (x : Int32) : Bool := decide (x = 99 ∨ x = 111 ∨ x = 108 ∨ x = 116 ∨ x = 107 ∨ x = 100 ∨ x = 101 ∨ x = 115 ∨ x = 119 ∨ x = 104)
theorem byte_ex {x : Int32} (h : bt x (-128) 127) : ∃ i : Fin 256, x = Int32.ofNat i.val - 128 := by
  unfold bt at h
  refine ⟨⟨(x.toInt + 128).toNat, by omega⟩, ?_⟩
  have z : (128 : Int32).toInt = 128 := rfl
  have e : (Int32.ofNat (x.toInt + 128).toNat).toInt = ((x.toInt + 128).toNat : Int) := o_toInt (by omega)
  apply Int32.toInt_inj.mp
  rw [ti_sub (by rw [e, z]; omega) (by rw [e, z]; omega), e, z]
  omega
theorem isF_all : ∀ i : Fin 256, f_X2_isField (Int32.ofNat i.val - 128) = some (b2 (isF (Int32.ofNat i.val - 128))) := by decide +kernel
theorem isF_c {x : Int32} (h : bt x (-128) 127) : f_X2_isField x = some (b2 (isF x)) := by
  obtain ⟨i, rfl⟩ := byte_ex h
  exact isF_all i
theorem isD_c (x : Int32) : f_X2_isDigit x = b2 (isD x) := by
  unfold f_X2_isDigit isD b2
  simp only [Int32.lt_iff_toInt_lt]
  have z : (48 : Int32).toInt = 48 := rfl
  have z' : (57 : Int32).toInt = 57 := rfl
  rw [z, z']
  by_cases h1 : x.toInt < 48
  · rw [if_pos h1]; simp; omega
  · rw [if_neg h1]
    by_cases h2 : 57 < x.toInt
    · rw [if_pos h2]; simp; omega
    · rw [if_neg h2]; simp; omega
theorem isD_m (x : Int32) : f_X9_isDigit x = b2 (isD x) := isD_c x
abbrev AS : Type := Nat × Nat × Bool × Nat × Bool
def agT (d : Nat) (x : Int32) : Option AS := if x = 38 ∨ x = 124 then some (2, d, false, 0, false) else if x = 41 ∧ 0 < d then some (6, d - 1, false, 0, false) else none
def agN (d : Nat) (c : Bool) (x : Int32) : Option AS := if isD x = true then some (4, d, c, 1, x == 48) else if isF x = true then some (5, d, c, 0, false) else none
def agF (d : Nat) (c : Bool) (x : Int32) : Option AS := if x = 37 ∨ x = 42 ∨ x = 43 ∨ x = 45 then some (3, d, c, 0, false) else if x = 60 ∨ x = 61 ∨ x = 62 then (if c = true then none else some (3, d, true, 0, false)) else if c = true then agT d x else none
def agB (d : Nat) (x : Int32) : Option AS := if x = 33 then some (2, d, false, 0, false) else if x = 40 then (if d < 8 then some (2, d + 1, false, 0, false) else none) else agN d false x
def ag (a : AS) (x : Int32) : Option AS :=
  if a.1 = 0 then (if 65 ≤ x ∧ x ≤ 90 then some (1, a.2.1, false, 0, false) else none)
  else if a.1 = 1 then (if x = 58 then some (2, a.2.1, false, 0, false) else none)
  else if a.1 = 2 then agB a.2.1 x
  else if a.1 = 3 then agN a.2.1 a.2.2.1 x
  else if a.1 = 4 then (if isD x = true ∧ a.2.2.2.2 = false ∧ a.2.2.2.1 < 4 then some (4, a.2.1, a.2.2.1, a.2.2.2.1 + 1, false) else agF a.2.1 a.2.2.1 x)
  else if a.1 = 5 then agF a.2.1 a.2.2.1 x
  else agT a.2.1 x
def awh (a : AS) : Bool := decide (a.2.1 = 0 ∧ ((a.2.2.1 = true ∧ (a.1 = 4 ∨ a.1 = 5)) ∨ a.1 = 6))
def aR (t : Nat → Int32) : Nat → Nat → AS → Option Nat
  | 0, i, a => if awh a = true then none else some i
  | k + 1, i, a => match ag a (t i) with
    | none => some i
    | some a' => aR t k (i + 1) a'
def MS (M : Mem) (a : AS) : Prop := a.1 ≤ 6 ∧ a.2.1 ≤ 8 ∧ mI M 259 0 = Int32.ofNat a.1 ∧ mI M 259 1 = Int32.ofNat a.2.1 ∧ ((a.1 = 3 ∨ a.1 = 4 ∨ a.1 = 5) → mI M 259 2 = b2 a.2.2.1) ∧ (a.1 = 4 → mI M 259 3 = Int32.ofNat a.2.2.2.1 ∧ mI M 259 4 = b2 a.2.2.2.2 ∧ a.2.2.2.1 ≤ 4)
def GO (o : Option (Int32 × Mem)) (M : Mem) (a : Option AS) : Prop := ∃ b M', o = some (b, M') ∧ (∀ y, y ≠ 259 → mI M' y = mI M y) ∧ (a = none ∧ b = 0 ∨ ∃ a', a = some a' ∧ b = 1 ∧ MS M' a')
section
variable {M : Mem} {x : Int32} {d g : Nat} {c z : Bool}
theorem ms_mk {s : Nat} (h6 : s ≤ 6) (hd : d ≤ 8) (h0 : mI M 259 0 = Int32.ofNat s) (h1 : mI M 259 1 = Int32.ofNat d) (h2 : (s = 3 ∨ s = 4 ∨ s = 5) → mI M 259 2 = b2 c) (h3 : s = 4 → mI M 259 3 = Int32.ofNat g ∧ mI M 259 4 = b2 z ∧ g ≤ 4) : MS M (s, d, c, g, z) := ⟨h6, hd, h0, h1, h2, h3⟩
theorem go_no : GO (some (0, M)) M none := ⟨0, M, rfl, fun _ _ => rfl, Or.inl ⟨rfl, rfl⟩⟩
theorem go_mono {M1 M0 : Mem} {o : Option (Int32 × Mem)} {a : Option AS} (h : ∀ y, y ≠ 259 → mI M1 y = mI M0 y) (g : GO o M1 a) : GO o M0 a := by
  obtain ⟨b, M', e, f, r⟩ := g
  exact ⟨b, M', e, fun y hy => (f y hy).trans (h y hy), r⟩
theorem go_q {o : Option (Int32 × Mem)} {a : Option AS} (g : GO o M a) : GO (o.bind fun q => some (q.1, q.2)) M a := by
  obtain ⟨b, M', e, f, r⟩ := g
  exact ⟨b, M', by rw [e]; rfl, f, r⟩
theorem go_qb {o : Option (Int32 × Mem)} {a : Option AS} (g : GO o M a) : GO (o.bind fun q => if q.1 = 0 then some ((0 : Int32), q.2) else some ((1 : Int32), q.2)) M a := by
  obtain ⟨b, M', e, f, r⟩ := g
  refine ⟨b, M', ?_, f, r⟩
  rw [e, Option.bind_some]
  rcases r with ⟨-, rfl⟩ | ⟨a', -, rfl, -⟩
  · rfl
  · rfl
theorem ft_t (hd : d ≤ 8) (h1 : mI M 259 1 = Int32.ofNat d) : GO (f_X2_followsTest x M) M (agT d x) := by
  unfold f_X2_followsTest agT B_X2_followsTest_12 f_X2_become
  by_cases e1 : x = 38
  · rw [if_pos e1, if_pos (Or.inl e1)]
    refine ⟨1, sI M 259 0 2, rfl, fun y hy => mI_sI_ne hy, Or.inr ⟨_, rfl, rfl, ms_mk (by decide) hd mI_sI_eq ?_ (fun h => absurd h (by decide)) (fun h => absurd h (by decide))⟩⟩
    rw [mI_sI_k (by decide)]; exact h1
  rw [if_neg e1]
  by_cases e2 : x = 124
  · rw [if_pos e2, if_pos (Or.inr e2)]
    refine ⟨1, sI M 259 0 2, rfl, fun y hy => mI_sI_ne hy, Or.inr ⟨_, rfl, rfl, ms_mk (by decide) hd mI_sI_eq ?_ (fun h => absurd h (by decide)) (fun h => absurd h (by decide))⟩⟩
    rw [mI_sI_k (by decide)]; exact h1
  rw [if_neg e2, if_neg (show ¬ (x = 38 ∨ x = 124) from fun h => h.elim e1 e2)]
  by_cases e3 : x = 41
  · rw [if_pos e3, h1]
    have z0 : (0 : Int32) = Int32.ofNat 0 := rfl
    by_cases e4 : 0 < d
    · rw [if_neg (by rw [z0, o_le (by omega) (by omega)]; omega), if_pos ⟨e3, e4⟩]
      refine ⟨1, sI (sI M 259 1 (Int32.ofNat d - 1)) 259 0 6, rfl, fun y hy => (mI_sI_ne hy).trans (mI_sI_ne hy), Or.inr ⟨_, rfl, rfl, ms_mk (by decide) (by omega) mI_sI_eq ?_ (fun h => absurd h (by decide)) (fun h => absurd h (by decide))⟩⟩
      rw [mI_sI_k (by decide), mI_sI_eq]
      show Int32.ofNat d - 1 = Int32.ofNat (d - 1)
      apply Int32.toInt_inj.mp
      have z1 : (1 : Int32).toInt = 1 := rfl
      have z2 := o_toInt (i := d) (by omega)
      rw [ti_sub (by rw [z2, z1]; omega) (by rw [z2, z1]; omega), z2, z1, o_toInt (by omega)]
      omega
    · rw [if_pos (by rw [z0, o_le (by omega) (by omega)]; omega), if_neg (fun h => e4 h.2)]
      exact go_no
  · rw [if_neg e3, if_neg (fun h => e3 h.1)]
    exact go_no
theorem ba_t (hx : bt x (-128) 127) (hd : d ≤ 8) (h1 : mI M 259 1 = Int32.ofNat d) (h2 : mI M 259 2 = b2 c) : GO (f_X2_beginsAtom x M) M (agN d c x) := by
  unfold f_X2_beginsAtom agN f_X2_become
  rw [isD_c, isF_c hx]
  simp only [b2_0, Option.bind_some]
  by_cases e1 : isD x = true
  · rw [if_pos e1, if_neg (by rw [e1]; decide)]
    by_cases e2 : x = 48
    · rw [if_pos e2]
      refine ⟨1, sI (sI (sI M 259 3 1) 259 4 1) 259 0 4, rfl, fun y hy => ((mI_sI_ne hy).trans (mI_sI_ne hy)).trans (mI_sI_ne hy), Or.inr ⟨_, rfl, rfl, ms_mk (by decide) hd mI_sI_eq ?_ (fun _ => ?_) (fun _ => ⟨?_, ?_, by decide⟩)⟩⟩
      · rw [mI_sI_k (by decide), mI_sI_k (by decide), mI_sI_k (by decide)]; exact h1
      · rw [mI_sI_k (by decide), mI_sI_k (by decide), mI_sI_k (by decide)]; exact h2
      · rw [mI_sI_k (by decide), mI_sI_k (by decide), mI_sI_eq]; rfl
      · rw [mI_sI_k (by decide), mI_sI_eq, e2]; rfl
    · rw [if_neg e2]
      refine ⟨1, sI (sI (sI M 259 3 1) 259 4 0) 259 0 4, rfl, fun y hy => ((mI_sI_ne hy).trans (mI_sI_ne hy)).trans (mI_sI_ne hy), Or.inr ⟨_, rfl, rfl, ms_mk (by decide) hd mI_sI_eq ?_ (fun _ => ?_) (fun _ => ⟨?_, ?_, by decide⟩)⟩⟩
      · rw [mI_sI_k (by decide), mI_sI_k (by decide), mI_sI_k (by decide)]; exact h1
      · rw [mI_sI_k (by decide), mI_sI_k (by decide), mI_sI_k (by decide)]; exact h2
      · rw [mI_sI_k (by decide), mI_sI_k (by decide), mI_sI_eq]; rfl
      · rw [mI_sI_k (by decide), mI_sI_eq]
        have : (x == 48) = false := by simp [e2]
        show 0 = b2 (x == 48)
        rw [this]; rfl
  · rw [if_neg e1, if_pos (by simpa using e1)]
    by_cases e3 : isF x = true
    · rw [if_pos e3, if_neg (by rw [e3]; decide)]
      refine ⟨1, sI M 259 0 5, rfl, fun y hy => mI_sI_ne hy, Or.inr ⟨_, rfl, rfl, ms_mk (by decide) hd mI_sI_eq ?_ (fun _ => ?_) (fun h => absurd h (by decide))⟩⟩
      · rw [mI_sI_k (by decide)]; exact h1
      · rw [mI_sI_k (by decide)]; exact h2
    · rw [if_neg e3, if_pos (by simpa using e3)]
      exact go_no
theorem fa_3 (hd : d ≤ 8) (h1 : mI M 259 1 = Int32.ofNat d) (h2 : mI M 259 2 = b2 c) : GO (some (1, sI M 259 0 3)) M (some (3, d, c, 0, false)) := by
  refine ⟨1, sI M 259 0 3, rfl, fun y hy => mI_sI_ne hy, Or.inr ⟨_, rfl, rfl, ms_mk (by decide) hd mI_sI_eq ?_ (fun _ => ?_) (fun h => absurd h (by decide))⟩⟩
  · rw [mI_sI_k (by decide)]; exact h1
  · rw [mI_sI_k (by decide)]; exact h2
theorem fa_c (hd : d ≤ 8) (h1 : mI M 259 1 = Int32.ofNat d) (h2 : mI M 259 2 = b2 c) : GO (if mI M 259 2 = 0 then (f_X2_become (3 : Int32) (sI M 259 2 (1 : Int32))).bind fun q25 => some (q25.1, q25.2) else some ((0 : Int32), M)) M (if c = true then none else some (3, d, true, 0, false)) := by
  rw [h2]
  simp only [b2_0]
  by_cases hc : c = true
  · rw [if_pos hc, if_neg (by rw [hc]; decide)]; exact go_no
  · rw [if_neg hc, if_pos (by simpa using hc)]
    refine go_mono (M1 := sI M 259 2 1) (fun y hy => mI_sI_ne hy) (fa_3 (c := true) hd ?_ mI_sI_eq)
    rw [mI_sI_k (by decide)]; exact h1
theorem fa_t (hd : d ≤ 8) (h1 : mI M 259 1 = Int32.ofNat d) (h2 : mI M 259 2 = b2 c) : GO (f_X2_followsAtom x M) M (agF d c x) := by
  unfold f_X2_followsAtom agF
  by_cases e1 : x = 37
  · rw [if_pos e1, if_pos (Or.inl e1)]; exact fa_3 hd h1 h2
  by_cases e2 : x = 42
  · rw [if_neg e1, if_pos e2, if_pos (Or.inr (Or.inl e2))]; exact fa_3 hd h1 h2
  by_cases e3 : x = 43
  · rw [if_neg e1, if_neg e2, if_pos e3, if_pos (Or.inr (Or.inr (Or.inl e3)))]; exact fa_3 hd h1 h2
  by_cases e4 : x = 45
  · rw [if_neg e1, if_neg e2, if_neg e3, if_pos e4, if_pos (Or.inr (Or.inr (Or.inr e4)))]; exact fa_3 hd h1 h2
  rw [if_neg e1, if_neg e2, if_neg e3, if_neg e4, if_neg (show ¬ (x = 37 ∨ x = 42 ∨ x = 43 ∨ x = 45) from fun h => by rcases h with h | h | h | h <;> contradiction)]
  by_cases e5 : x = 60
  · rw [if_pos e5, if_pos (Or.inl e5)]; exact fa_c hd h1 h2
  by_cases e6 : x = 61
  · rw [if_neg e5, if_pos e6, if_pos (Or.inr (Or.inl e6))]; exact fa_c hd h1 h2
  by_cases e7 : x = 62
  · rw [if_neg e5, if_neg e6, if_pos e7, if_pos (Or.inr (Or.inr e7))]; exact fa_c hd h1 h2
  rw [if_neg e5, if_neg e6, if_neg e7, if_neg (show ¬ (x = 60 ∨ x = 61 ∨ x = 62) from fun h => by rcases h with h | h | h <;> contradiction), h2]
  simp only [b2_0]
  by_cases hc : c = true
  · rw [if_pos hc, if_neg (by rw [hc]; decide)]; exact go_qb (ft_t hd h1)
  · rw [if_neg hc, if_pos (by simpa using hc)]; exact go_no
theorem bt_t (hx : bt x (-128) 127) (hd : d ≤ 8) (h0 : mI M 259 0 = 2) (h1 : mI M 259 1 = Int32.ofNat d) : GO (f_X2_beginsTest x M) M (agB d x) := by
  unfold f_X2_beginsTest agB
  by_cases e1 : x = 33
  · rw [if_pos e1, if_pos e1]
    exact ⟨1, M, rfl, fun _ _ => rfl, Or.inr ⟨_, rfl, rfl, ms_mk (by decide) hd h0 h1 (fun h => absurd h (by decide)) (fun h => absurd h (by decide))⟩⟩
  rw [if_neg e1, if_neg e1]
  by_cases e2 : x = 40
  · rw [if_pos e2, if_pos e2, mI_sI_eq, h1, o_succ, show (8 : Int32) = Int32.ofNat 8 from rfl]
    by_cases e3 : d < 8
    · rw [if_neg (by rw [o_lt (by omega) (by omega)]; omega), if_pos e3]
      refine ⟨1, sI M 259 1 (Int32.ofNat (d + 1)), rfl, fun y hy => mI_sI_ne hy, Or.inr ⟨_, rfl, rfl, ms_mk (by decide) (by omega) ?_ mI_sI_eq (fun h => absurd h (by decide)) (fun h => absurd h (by decide))⟩⟩
      rw [mI_sI_k (by decide)]; exact h0
    · rw [if_pos (by rw [o_lt (by omega) (by omega)]; omega), if_neg e3]
      exact ⟨0, sI M 259 1 (Int32.ofNat (d + 1)), rfl, fun y hy => mI_sI_ne hy, Or.inl ⟨rfl, rfl⟩⟩
  · rw [if_neg e2, if_neg e2]
    refine go_q (go_mono (M1 := sI M 259 2 0) (fun y hy => mI_sI_ne hy) (ba_t (c := false) hx hd ?_ mI_sI_eq))
    rw [mI_sI_k (by decide)]; exact h1
theorem ag_0 : ag (0, d, c, g, z) x = (if 65 ≤ x ∧ x ≤ 90 then some (1, d, false, 0, false) else none) := rfl
theorem ag_1 : ag (1, d, c, g, z) x = (if x = 58 then some (2, d, false, 0, false) else none) := rfl
theorem ag_2 : ag (2, d, c, g, z) x = agB d x := rfl
theorem ag_3 : ag (3, d, c, g, z) x = agN d c x := rfl
theorem ag_4 : ag (4, d, c, g, z) x = (if isD x = true ∧ z = false ∧ g < 4 then some (4, d, c, g + 1, false) else agF d c x) := rfl
theorem ag_5 : ag (5, d, c, g, z) x = agF d c x := rfl
theorem ag_6 : ag (6, d, c, g, z) x = agT d x := rfl
theorem go_t {a : AS} (hx : bt x (-128) 127) (h : MS M a) : GO (f_X2_goesOn x M) M (ag a x) := by
  obtain ⟨s, d, c, g, z⟩ := a
  obtain ⟨hs, hd, h0, h1, h2, h3⟩ := h
  dsimp only at hs hd h0 h1 h2 h3
  unfold f_X2_goesOn f_X2_become
  have hcase : s = 0 ∨ s = 1 ∨ s = 2 ∨ s = 3 ∨ s = 4 ∨ s = 5 ∨ s = 6 := by omega
  rcases hcase with rfl | rfl | rfl | rfl | rfl | rfl | rfl
  · rw [h0, if_pos (by decide), ag_0]
    by_cases e1 : x < 65
    · rw [if_pos e1, if_neg (by rw [Int32.lt_iff_toInt_lt] at e1; rw [Int32.le_iff_toInt_le]; omega)]; exact go_no
    rw [if_neg e1]
    by_cases e2 : 90 < x
    · rw [if_pos e2, if_neg (by rw [Int32.lt_iff_toInt_lt] at e2; rw [Int32.le_iff_toInt_le, Int32.le_iff_toInt_le]; omega)]; exact go_no
    rw [if_neg e2, if_pos (by rw [Int32.lt_iff_toInt_lt] at e1 e2; rw [Int32.le_iff_toInt_le, Int32.le_iff_toInt_le]; omega)]
    refine ⟨1, sI M 259 0 1, rfl, fun y hy => mI_sI_ne hy, Or.inr ⟨_, rfl, rfl, ms_mk (by decide) hd mI_sI_eq ?_ (fun h => absurd h (by decide)) (fun h => absurd h (by decide))⟩⟩
    rw [mI_sI_k (by decide)]; exact h1
  · rw [h0, if_neg (by decide), if_pos (by decide), ag_1]
    by_cases e1 : x = 58
    · rw [if_pos e1, if_pos e1]
      refine ⟨1, sI M 259 0 2, rfl, fun y hy => mI_sI_ne hy, Or.inr ⟨_, rfl, rfl, ms_mk (by decide) hd mI_sI_eq ?_ (fun h => absurd h (by decide)) (fun h => absurd h (by decide))⟩⟩
      rw [mI_sI_k (by decide)]; exact h1
    · rw [if_neg e1, if_neg e1]; exact go_no
  · rw [h0, if_neg (by decide), if_neg (by decide), if_pos (by decide), ag_2]
    exact go_q (bt_t hx hd h0 h1)
  · rw [h0, if_neg (by decide), if_neg (by decide), if_neg (by decide), if_pos (by decide), ag_3]
    exact go_q (ba_t hx hd h1 (h2 (Or.inl rfl)))
  · rw [h0, if_neg (by decide), if_neg (by decide), if_neg (by decide), if_neg (by decide), if_pos (by decide), ag_4]
    obtain ⟨h3, h4, h5⟩ := h3 rfl
    have h2' := h2 (Or.inr (Or.inl rfl))
    unfold f_X2_addsDigit
    have g4 : (Int32.ofNat g < 4) = (g < 4) := propext (o_lt (j := 4) (by omega) (by omega))
    rw [isD_c, h3, h4]
    simp only [b2_0, g4]
    by_cases e1 : isD x = true
    · rw [if_neg (by rw [e1]; decide)]
      by_cases e2 : z = false
      · rw [if_pos e2]
        by_cases e3 : g < 4
        · rw [if_pos e3, if_pos ⟨e1, e2, e3⟩, Option.bind_some]
          dsimp only
          rw [if_neg (by decide), o_succ]
          refine ⟨1, sI M 259 3 (Int32.ofNat (g + 1)), rfl, fun y hy => mI_sI_ne hy, Or.inr ⟨_, rfl, rfl, ms_mk (by decide) hd ?_ ?_ (fun _ => ?_) (fun _ => ⟨mI_sI_eq, ?_, by omega⟩)⟩⟩
          · rw [mI_sI_k (by decide)]; exact h0
          · rw [mI_sI_k (by decide)]; exact h1
          · rw [mI_sI_k (by decide)]; exact h2'
          · rw [mI_sI_k (by decide), h4, e2]
        · rw [if_neg e3, if_neg (fun h => e3 h.2.2), Option.bind_some, if_pos rfl]; exact go_qb (fa_t hd h1 h2')
      · rw [if_neg e2, if_neg (fun h => e2 h.2.1), Option.bind_some, if_pos rfl]; exact go_qb (fa_t hd h1 h2')
    · rw [if_pos (by simpa using e1), if_neg (fun h => e1 h.1), Option.bind_some, if_pos rfl]; exact go_qb (fa_t hd h1 h2')
  · rw [h0, if_neg (by decide), if_neg (by decide), if_neg (by decide), if_neg (by decide), if_neg (by decide), if_pos (by decide), ag_5]
    exact go_q (fa_t hd h1 (h2 (Or.inr (Or.inr rfl))))
  · rw [h0, if_neg (by decide), if_neg (by decide), if_neg (by decide), if_neg (by decide), if_neg (by decide), if_neg (by decide), ag_6]
    exact go_q (ft_t hd h1)
theorem wh_t {a : AS} (h : MS M a) : f_X2_isWhole M = b2 (awh a) := by
  obtain ⟨s, d, c, g, z⟩ := a
  obtain ⟨hs, hd, h0, h1, h2, h3⟩ := h
  dsimp only at hs hd h0 h1 h2 h3
  have hd0 : (mI M 259 1 = 0) = (d = 0) := by
    rw [h1, show (0 : Int32) = Int32.ofNat 0 from rfl, o_inj (by omega) (by omega)]
  have hcase : s = 0 ∨ s = 1 ∨ s = 2 ∨ s = 3 ∨ s = 4 ∨ s = 5 ∨ s = 6 := by omega
  unfold f_X2_isWhole B_X2_isWhole_27 B_X2_isWhole_23 B_X2_isWhole_49 awh
  simp only [hd0]
  rcases hcase with rfl | rfl | rfl | rfl | rfl | rfl | rfl
  · simp [h0, b2]
  · simp [h0, b2]
  · simp [h0, b2]
  · simp [h0, b2]
  · have h2' := h2 (Or.inr (Or.inl rfl))
    cases c <;> simp [h0, h2', b2]
  · have h2' := h2 (Or.inr (Or.inr rfl))
    cases c <;> simp [h0, h2', b2]
  · simp [h0, b2]
end
/-- the fault of a text in the row a1: none, it is whole -/
def fr (o : Option Nat) : Int32 := match o with
  | none => -1
  | some i => Int32.ofNat i
theorem aR_run (t : Nat → Int32) (a1 L : Nat) (hl : ln a1 = 80) (hL : L ≤ 80) (h259 : a1 ≠ 259) : ∀ k n i (M : Mem) (a : AS), i + k = L → k < n → MS M a → (∀ j, j < L → mI M a1 j = t j ∧ bt (t j) (-128) 127) → ∃ M', L_X2_faultOf_12 n a1 (Int32.ofNat L) (Int32.ofNat i) M = some (fr (aR t k i a), M') ∧ ∀ y, y ≠ 259 → mI M' y = mI M y := by
  intro k
  induction k with
  | zero =>
    intro n i M a hi hn hm ht
    obtain ⟨m, rfl⟩ : ∃ m, n = m + 1 := ⟨n - 1, by omega⟩
    have e : i = L := by omega
    subst e
    unfold L_X2_faultOf_12 B_X2_faultOf_41
    rw [if_pos (by rw [le_t (by omega)]; trivial), wh_t hm]
    simp only [b2_0]
    unfold aR
    by_cases hw : awh a = true
    · rw [if_neg (by rw [hw]; decide), if_pos hw]; exact ⟨M, rfl, fun _ _ => rfl⟩
    · rw [if_pos (by simpa using hw), if_neg hw]; exact ⟨M, rfl, fun _ _ => rfl⟩
  | succ k ih =>
    intro n i M a hi hn hm ht
    obtain ⟨m, rfl⟩ : ∃ m, n = m + 1 := ⟨n - 1, by omega⟩
    unfold L_X2_faultOf_12
    rw [if_neg (by rw [le_f (by omega) (by omega)]; exact id), hl, if_neg (by rw [le_f (by omega) (by omega)]; exact id), gd_r (by omega) (by omega), o_clamp (by omega)]
    obtain ⟨et, bt'⟩ := ht i (by omega)
    rw [et]
    obtain ⟨b, M1, e, f, r⟩ := go_t bt' hm
    rw [e, Option.bind_some]
    unfold aR
    rcases r with ⟨ea, rfl⟩ | ⟨a', ea, rfl, hm'⟩
    · rw [ea]; exact ⟨M1, rfl, f⟩
    · rw [ea]
      obtain ⟨M', e', f'⟩ := ih m (i + 1) M1 a' (by omega) (by omega) hm' (fun j hj => by rw [f a1 h259]; exact ht j hj)
      refine ⟨M', ?_, fun y hy => (f' y hy).trans (f y hy)⟩
      dsimp only
      rw [if_neg (by decide), o_succ]; exact e'
theorem faultOf_c (t : Nat → Int32) (a1 L : Nat) (hl : ln a1 = 80) (hL : L ≤ 80) (h259 : a1 ≠ 259) (M : Mem) (ht : ∀ j, j < L → mI M a1 j = t j ∧ bt (t j) (-128) 127) : ∃ M', f_X2_faultOf a1 (Int32.ofNat L) M = some (fr (aR t L 0 (0, 0, false, 0, false)), M') ∧ ∀ y, y ≠ 259 → mI M' y = mI M y := by
  obtain ⟨M', e, f⟩ := aR_run t a1 L hl hL h259 L FU 0 (sI (sI M 259 0 0) 259 1 0) (0, 0, false, 0, false) (by omega) (by rw [FU_eq]; omega) (ms_mk (by decide) (by decide) (by rw [mI_sI_k (by decide), mI_sI_eq]; rfl) mI_sI_eq (fun h => absurd h (by decide)) (fun h => absurd h (by decide))) (fun j hj => by rw [mI_sI_ne h259, mI_sI_ne h259]; exact ht j hj)
  exact ⟨M', e, fun y hy => (f y hy).trans ((mI_sI_ne hy).trans (mI_sI_ne hy))⟩
