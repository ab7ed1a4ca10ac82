/-! MARKS, 3: the reference's reading, place by place, against both machines -/
def prw (r : Nat → Int32) (p d w : Int32) : Nat → Int32 := fun k => if k = 21 then p else if k = 24 then d else if k = 27 then w else r k
def pst (B : Mem) (p d w : Int32) : Mem := sR B 284 (prw (mI B 284) p d w)
def sg (t : Nat → Int32) (L p : Nat) : Int32 := if p < L then t p else -1000
def Rn (t : Nat → Int32) (L i : Nat) (a : AS) : Option Nat := aR t (L - i) i a
def RA (t : Nat → Int32) (L j d : Nat) (c : Bool) : Option Nat := Rn t L j (5, d, c, 0, false)
def RT (t : Nat → Int32) (L j d : Nat) : Option Nat := Rn t L j (6, d, false, 0, false)
def Vn (t : Nat → Int32) (fv : Int32 → Int32) (L i : Nat) (e : ES) : Bool := vR t fv (L - i) i e
section
variable {B : Mem} {p d w v : Int32} {y : Nat}
theorem pst_21 : mI (pst B p d w) 284 21 = p := by unfold pst; rw [mI_sR_eq]; rfl
theorem pst_24 : mI (pst B p d w) 284 24 = d := by unfold pst; rw [mI_sR_eq]; rfl
theorem pst_27 : mI (pst B p d w) 284 27 = w := by unfold pst; rw [mI_sR_eq]; rfl
theorem pst_k {k : Nat} (h1 : k ≠ 21) (h2 : k ≠ 24) (h3 : k ≠ 27) : mI (pst B p d w) 284 k = mI B 284 k := by unfold pst; rw [mI_sR_eq]; unfold prw; rw [if_neg h1, if_neg h2, if_neg h3]
theorem pst_ne (h : y ≠ 284) : mI (pst B p d w) y = mI B y := mI_sR_ne _ _ h
theorem pst_tx : tx (pst B p d w) = tx B := rfl
theorem pst_s21 : sI (pst B p d w) 284 21 v = pst B v d w := by
  rw [sI_sR]; unfold pst; rw [sR_sR, mI_sR_eq]; congr 1; funext k; unfold zu prw
  by_cases h : k = 21 <;> simp [h]
theorem pst_s24 : sI (pst B p d w) 284 24 v = pst B p v w := by
  rw [sI_sR]; unfold pst; rw [sR_sR, mI_sR_eq]; congr 1; funext k; unfold zu prw
  by_cases h : k = 24
  · simp [h]
  · simp [h]
theorem pst_s27 : sI (pst B p d w) 284 27 v = pst B p d v := by
  rw [sI_sR]; unfold pst; rw [sR_sR, mI_sR_eq]; congr 1; funext k; unfold zu prw
  by_cases h : k = 27
  · simp [h]
  · simp [h]
end
def TX (B : Mem) (t : Nat → Int32) (L off : Nat) : Prop := tx B ≠ 284 ∧ mI B 284 22 = Int32.ofNat off ∧ mI B 284 23 = Int32.ofNat L ∧ L ≤ 80 ∧ off + L ≤ ln (tx B) ∧ ln (tx B) ≤ 1194 ∧ ∀ j, j < L → mI B (tx B) (off + j) = t j ∧ bt (t j) (-128) 127
def FV (B : Mem) (fv : Int32 → Int32) : Prop := ∀ (p d w x : Int32), isF x = true → B_X9_atom_155 x (pst B p d w) = some (fv x, pst B (p + 1) d w)
def NB (x : Int32) : Prop := x ≠ 42 ∧ x ≠ 37
def NC (x : Int32) : Prop := x ≠ 42 ∧ x ≠ 37 ∧ x ≠ 43 ∧ x ≠ 45
section
variable {B : Mem} {t : Nat → Int32} {L off : Nat} {fv : Int32 → Int32} {p j d : Nat} {c : Bool}
theorem Rn_end (a : AS) : Rn t L L a = if awh a = true then none else some L := by unfold Rn; rw [Nat.sub_self]; rfl
theorem Rn_step (a : AS) (h : j < L) : Rn t L j a = match ag a (t j) with
    | none => some j
    | some a' => Rn t L (j + 1) a' := by
  unfold Rn
  rw [show L - j = (L - (j + 1)) + 1 by omega]
  rfl
theorem Rn_cong (a b : AS) (hj : j ≤ L) (hw : awh a = awh b) (hs : j < L → ag a (t j) = ag b (t j)) : Rn t L j a = Rn t L j b := by
  by_cases h : j < L
  · rw [Rn_step a h, Rn_step b h, hs h]
  · have e : j = L := by omega
    subst e; rw [Rn_end, Rn_end, hw]
theorem Rn_some {a a' : AS} (h : j < L) (e : ag a (t j) = some a') : Rn t L j a = Rn t L (j + 1) a' := by rw [Rn_step a h, e]
theorem Rn_none {a : AS} (hj : j ≤ L) (hw : awh a = false) (e : j < L → ag a (t j) = none) : Rn t L j a = some j := by
  by_cases h : j < L
  · rw [Rn_step a h, e h]
  · have e : j = L := by omega
    subst e; rw [Rn_end, hw]; rfl
theorem R_4 {g : Nat} {z : Bool} (hj : j ≤ L) (h : ¬ (j < L ∧ isD (t j) = true ∧ z = false ∧ g < 4)) : Rn t L j (4, d, c, g, z) = RA t L j d c := by
  refine Rn_cong _ _ hj ?_ (fun hl => ?_)
  · simp [awh]
  · show (if isD (t j) = true ∧ z = false ∧ g < 4 then _ else agF d c (t j)) = agF d c (t j)
    rw [if_neg (fun q => h ⟨hl, q⟩)]
theorem sg_lt (h : j < L) : sg t L j = t j := if_pos h
theorem RA_T (hj : j ≤ L) (h : NC (sg t L j)) : RA t L j d true = RT t L j d := by
  refine Rn_cong _ _ hj (by simp [awh]) (fun hl => ?_)
  rw [sg_lt hl] at h
  show agF d true (t j) = agT d (t j)
  unfold agF
  rw [if_neg (fun q => by rcases q with q | q | q | q; exact h.2.1 q; exact h.1 q; exact h.2.2.1 q; exact h.2.2.2 q)]
  by_cases q : t j = 60 ∨ t j = 61 ∨ t j = 62
  · rw [if_pos q, if_pos rfl]
    rcases q with q | q | q <;> rw [q] <;> simp [agT]
  · rw [if_neg q, if_pos rfl]
theorem RA_op (h : j < L) (q : t j = 37 ∨ t j = 42 ∨ t j = 43 ∨ t j = 45) : RA t L j d c = Rn t L (j + 1) (3, d, c, 0, false) := by
  refine Rn_some h ?_
  show agF d c (t j) = _
  unfold agF; rw [if_pos q]
theorem RA_cmp (h : j < L) (q : t j = 60 ∨ t j = 61 ∨ t j = 62) : RA t L j d false = Rn t L (j + 1) (3, d, true, 0, false) := by
  refine Rn_some h ?_
  show agF d false (t j) = _
  unfold agF
  rw [if_neg (by rcases q with q | q | q <;> rw [q] <;> decide), if_pos q, if_neg (by decide)]
theorem RA_no (hj : j ≤ L) (h : NC (sg t L j)) (h' : ¬ (sg t L j = 60 ∨ sg t L j = 61 ∨ sg t L j = 62)) : RA t L j d false = some j := by
  refine Rn_none hj (by simp [awh]) (fun hl => ?_)
  rw [sg_lt hl] at h h'
  show agF d false (t j) = none
  unfold agF
  rw [if_neg (fun q => by rcases q with q | q | q | q; exact h.2.1 q; exact h.1 q; exact h.2.2.1 q; exact h.2.2.2 q), if_neg h', if_neg (by decide)]
theorem isD_ne {x y : Int32} (h : isD x = true) (hy : isD y = false) : x ≠ y := fun e => by rw [e, hy] at h; exact absurd h (by decide)
theorem agF_dig {x : Int32} (q : isD x = true) : agF d c x = none := by
  have n : ∀ y : Int32, isD y = false → x ≠ y := fun y hy => isD_ne q hy
  have a1 : ¬ (x = 37 ∨ x = 42 ∨ x = 43 ∨ x = 45) := fun h => by
    rcases h with h | h | h | h
    · exact n 37 (by decide) h
    · exact n 42 (by decide) h
    · exact n 43 (by decide) h
    · exact n 45 (by decide) h
  have a2 : ¬ (x = 60 ∨ x = 61 ∨ x = 62) := fun h => by
    rcases h with h | h | h
    · exact n 60 (by decide) h
    · exact n 61 (by decide) h
    · exact n 62 (by decide) h
  have a3 : ¬ (x = 38 ∨ x = 124) := fun h => by
    rcases h with h | h
    · exact n 38 (by decide) h
    · exact n 124 (by decide) h
  have a4 : ¬ (x = 41 ∧ 0 < d) := fun h => n 41 (by decide) h.1
  unfold agF agT
  rw [if_neg a1, if_neg a2, if_neg a3, if_neg a4]
  cases c <;> rfl
theorem RA_dig (h : j < L) (q : isD (t j) = true) : RA t L j d c = some j :=
  (Rn_step (a := (5, d, c, 0, false)) h).trans (by rw [show ag (5, d, c, 0, false) (t j) = none from agF_dig q])
theorem RT_join (h : j < L) (q : t j = 38 ∨ t j = 124) : RT t L j d = Rn t L (j + 1) (2, d, false, 0, false) := by
  refine Rn_some h ?_
  show agT d (t j) = _
  unfold agT; rw [if_pos q]
theorem RT_close (h : j < L) (q : t j = 41) : RT t L j (d + 1) = RT t L (j + 1) d := by
  refine Rn_some h ?_
  show agT (d + 1) (t j) = _
  unfold agT; rw [if_neg (by rw [q]; decide), if_pos ⟨q, by omega⟩]; rfl
theorem RT_no (hj : j ≤ L) (h1 : sg t L j ≠ 38) (h2 : sg t L j ≠ 124) (h3 : sg t L j ≠ 41) : RT t L j (d + 1) = some j := by
  refine Rn_none hj (by simp [awh]) (fun hl => ?_)
  rw [sg_lt hl] at h1 h2 h3
  show agT (d + 1) (t j) = none
  unfold agT; rw [if_neg (fun q => q.elim h1 h2), if_neg (fun q => h3 q.1)]
theorem RT_0 (hj : j ≤ L) (h1 : sg t L j ≠ 38) (h2 : sg t L j ≠ 124) : RT t L j 0 = if j = L then none else some j := by
  by_cases e : j = L
  · subst e; rw [if_pos rfl]; exact Rn_end _
  · rw [if_neg e]
    have hl : j < L := by omega
    rw [sg_lt hl] at h1 h2
    show Rn t L j (6, 0, false, 0, false) = some j
    rw [Rn_step _ hl]
    show (match agT 0 (t j) with | none => some j | some a' => Rn t L (j + 1) a') = some j
    unfold agT; rw [if_neg (fun q => q.elim h1 h2), if_neg (fun q => absurd q.2 (by decide))]
theorem sign_t (X : TX B t L off) (dd w : Int32) (hp : p ≤ L) : f_X9_sign (pst B (Int32.ofNat p) dd w) = some (sg t L p) := by
  obtain ⟨x0, x1, x2, x3, x4, x5, x6⟩ := X
  unfold f_X9_sign sg
  rw [pst_21, pst_k (by decide) (by decide) (by decide), pst_k (by decide) (by decide) (by decide), x1, x2, pst_tx, pst_ne x0]
  simp only [o_le (i := L) (j := p) (by omega) (by omega)]
  by_cases h : p < L
  · rw [if_neg (by omega), if_pos h, o_add, gd_r (by omega) (by omega), o_clamp (by omega), (x6 p h).1]
  · rw [if_pos (by omega), if_neg h]
theorem takes_0 (x dd : Int32) : f_X9_takes x (pst B (Int32.ofNat p) dd 0) = some (0, pst B (Int32.ofNat p) dd 0) := by
  unfold f_X9_takes; rw [pst_27, if_pos rfl]
theorem takes_y (X : TX B t L off) {x : Int32} (dd : Int32) (hp : p ≤ L) (h : sg t L p = x) : f_X9_takes x (pst B (Int32.ofNat p) dd 1) = some (1, pst B (Int32.ofNat (p + 1)) dd 1) := by
  unfold f_X9_takes; rw [pst_27, if_neg (by decide), sign_t X dd 1 hp, Option.bind_some, if_pos h, pst_21, pst_s21, o_succ]
theorem takes_n (X : TX B t L off) {x : Int32} (dd : Int32) (hp : p ≤ L) (h : sg t L p ≠ x) : f_X9_takes x (pst B (Int32.ofNat p) dd 1) = some (0, pst B (Int32.ofNat p) dd 1) := by
  unfold f_X9_takes; rw [pst_27, if_neg (by decide), sign_t X dd 1 hp, Option.bind_some, if_neg h]
theorem sg_in {x : Int32} (h : sg t L p = x) (hx : x ≠ -1000) : p < L ∧ t p = x := by
  unfold sg at h
  by_cases q : p < L
  · rw [if_pos q] at h; exact ⟨q, h⟩
  · rw [if_neg q] at h; exact absurd h.symm hx
theorem sg_D (h : isD (sg t L p) = true) : p < L ∧ isD (t p) = true := by
  unfold sg at h
  by_cases q : p < L
  · rw [if_pos q] at h; exact ⟨q, h⟩
  · rw [if_neg q] at h; exact absurd h (by decide)
theorem sg_F (h : isF (sg t L p) = true) : p < L ∧ isF (t p) = true := by
  unfold sg at h
  by_cases q : p < L
  · rw [if_pos q] at h; exact ⟨q, h⟩
  · rw [if_neg q] at h; exact absurd h (by decide)
theorem Vn_step (e : ES) (h : j < L) : Vn t fv L j e = Vn t fv L (j + 1) (vS fv e (t j) (decide (j + 1 < L) && isD (t (j + 1)))) := by
  unfold Vn
  rw [show L - j = (L - (j + 1)) + 1 by omega]
  show vR t fv (L - (j + 1)) (j + 1) (vS fv e (t j) (decide (0 < L - (j + 1)) && isD (t (j + 1)))) = _
  rw [show decide (0 < L - (j + 1)) = decide (j + 1 < L) from decide_eq_decide.mpr (by omega)]
end
