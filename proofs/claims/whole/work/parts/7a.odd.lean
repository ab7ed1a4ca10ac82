/-! HONEST LANDS; LAND, ODD -/
def nx (z : Int32) : Int32 := z * 1103515245 + 12345
def hh_ (S : Nat → Int32) (x z : Int32) : Int32 := f_X9_held ((x + jrem ((z &&& 2147483647) / 65536) (2 * S 363 + 1)) - S 363) 100
def sd (z : Int32) : Nat → Int32 := fdN (fun _ s => nx (nx s)) z
def hc_ (S : Nat → Int32) (z : Int32) (h : Nat) : Int32 := (S (12 * h) * hh_ S (S (361 + (S (12 * h + 1)).toNatClampNeg)) (nx (sd z h))) / 100
def ho_ (S : Nat → Int32) (z : Int32) (h : Nat) : Int32 := (hc_ S z h * hh_ S (S (364 + (S (12 * h + 2)).toNatClampNeg)) (nx (nx (sd z h)))) / 100
def hsum (S : Nat → Int32) (z : Int32) : Nat → Int32 := fdN (fun h a => a + hc_ S z h) 0
theorem sd_succ (z : Int32) (i : Nat) : sd z (i + 1) = nx (nx (sd z i)) := rfl
section
variable {A A' B M M' : Mem} {c N K h k : Nat} {S S' : Nat → Int32} {z : Int32}
theorem hh_b (S : Nat → Int32) (x z : Int32) : ∃ n : Nat, hh_ S x z = Int32.ofNat n ∧ n ≤ 100 := by
  have b := held_b ((x + jrem ((z &&& 2147483647) / 65536) (2 * S 363 + 1)) - S 363) 100 (by decide)
  unfold hh_
  unfold bt at b
  rw [show (100 : Int32).toInt = 100 from rfl] at b
  exact ⟨_, of_toInt b.1, by omega⟩
theorem honest_b (b : BH S (12 * h)) (z : Int32) : ∃ x y l : Nat, hc_ S z h = Int32.ofNat x ∧ ho_ S z h = Int32.ofNat y ∧ S (12 * h) = Int32.ofNat l ∧ y ≤ x ∧ x ≤ l ∧ l ≤ 999 := by
  obtain ⟨l, el, l1, l2, l3⟩ := nat_of b.1 (by omega) (m := 999) (by omega)
  obtain ⟨n, en, n1⟩ := hh_b S (S (361 + (S (12 * h + 1)).toNatClampNeg)) (nx (sd z h))
  obtain ⟨m, em, m1⟩ := hh_b S (S (364 + (S (12 * h + 2)).toNatClampNeg)) (nx (nx (sd z h)))
  have h1 : l * n ≤ l * 100 := Nat.mul_le_mul_left l n1
  have h2 : l * n / 100 ≤ l := Nat.div_le_of_le_mul (by omega)
  have h3 : (l * n / 100) * m ≤ (l * n / 100) * 100 := Nat.mul_le_mul_left _ m1
  have h4 : (l * n / 100) * m / 100 ≤ l * n / 100 := Nat.div_le_of_le_mul (by omega)
  have e1 : hc_ S z h = Int32.ofNat (l * n / 100) := by
    unfold hc_
    rw [el, en, o_mul, show (100 : Int32) = Int32.ofNat 100 from rfl, o_div (by omega) (by omega)]
  have e2 : ho_ S z h = Int32.ofNat (l * n / 100 * m / 100) := by
    unfold ho_
    rw [e1, em, o_mul, show (100 : Int32) = Int32.ofNat 100 from rfl, o_div (by omega) (by omega)]
  exact ⟨_, _, l, e1, e2, el, h4, h2, l1⟩
theorem spread_t (R : BQ S N) : ¬ (2 * S 363 + 1) = 0 := by
  obtain ⟨s, es, s1, s2, s3⟩ := nat_of (R.2.2.2 3 (by omega)) (by omega) (m := 30) (by simp)
  have es' : S 363 = Int32.ofNat s := es
  rw [es', show (2 : Int32) = Int32.ofNat 2 from rfl, o_mul, o_succ]
  intro e
  have := (o_inj (j := 0) (by omega) (by omega)).mp e
  omega
theorem held_eq (x r s : Int32) : f_X8_heldTo (x + (r - s)) 0 100 = f_X9_held ((x + r) - s) 100 := by
  rw [held_e _ _ (by decide)]
  congr 1
  grind
def FrC (A A' : Mem) (c : Nat) : Prop := ∀ y, ¬ (c + 24 ≤ y ∧ y ≤ c + 83) → mI A' y = mI A y
/-- the class's honest land, country c -/
theorem c_honest (R : CQ A c S N) (z : Int32) : ∃ A', f_X0_becomeHonest c z A = some (hsum S z N, A') ∧ FrC A A' c ∧ (∀ h, h < N → (∀ j, j ≠ 6 → j ≠ 7 → mI A' (c + 1 + 23 + 2 * h) j = mI A (c + 1 + 23 + 2 * h) j) ∧ mI A' (c + 1 + 23 + 2 * h) 6 = hc_ S z h ∧ mI A' (c + 1 + 23 + 2 * h) 7 = ho_ S z h ∧ mI A' (c + 1 + 23 + 2 * h + 1) = mI A (c + 1 + 23 + 2 * h + 1)) := by
  have hN := cq_N R
  have sp := spread_t R.1
  refine up_run (L := fun n x (s : Int32 × Int32 × Mem) => L_X0_becomeHonest_7 n c s.1 s.2.1 x s.2.2) N (fun i s => s.1 = sd z i ∧ s.2.1 = hsum S z i ∧ FrC A s.2.2 c ∧ (∀ h, h < N → (i ≤ h → mI s.2.2 (c + 1 + 23 + 2 * h) = mI A (c + 1 + 23 + 2 * h)) ∧ (∀ j, j ≠ 6 → j ≠ 7 → mI s.2.2 (c + 1 + 23 + 2 * h) j = mI A (c + 1 + 23 + 2 * h) j) ∧ (h < i → mI s.2.2 (c + 1 + 23 + 2 * h) 6 = hc_ S z h ∧ mI s.2.2 (c + 1 + 23 + 2 * h) 7 = ho_ S z h) ∧ mI s.2.2 (c + 1 + 23 + 2 * h + 1) = mI A (c + 1 + 23 + 2 * h + 1))) (fun o => ∃ A', o = some (hsum S z N, A') ∧ FrC A A' c ∧ (∀ h, h < N → (∀ j, j ≠ 6 → j ≠ 7 → mI A' (c + 1 + 23 + 2 * h) j = mI A (c + 1 + 23 + 2 * h) j) ∧ mI A' (c + 1 + 23 + 2 * h) 6 = hc_ S z h ∧ mI A' (c + 1 + 23 + 2 * h) 7 = ho_ S z h ∧ mI A' (c + 1 + 23 + 2 * h + 1) = mI A (c + 1 + 23 + 2 * h + 1))) (by omega) ?_ ?_ (z, 0, A) ⟨rfl, rfl, fun _ _ => rfl, fun h hh => ⟨fun _ => rfl, fun _ _ _ => rfl, fun q => absurd q (by omega), rfl⟩⟩
  · rintro n ⟨s1, s2, s⟩ ⟨h1, h2, hf, hc⟩
    dsimp only at h1 h2 hf hc
    have en : mI s c 1 = Int32.ofNat N := by rw [hf c (by omega)]; exact R.2.1
    simp (disch := omega) only [L_X0_becomeHonest_7, en, le_t, if_true]
    exact ⟨s, by rw [h2], hf, fun h hh => ⟨(hc h hh).2.1, ((hc h hh).2.2.1 hh).1, ((hc h hh).2.2.1 hh).2, (hc h hh).2.2.2⟩⟩
  · rintro n i ⟨s1, s2, s⟩ hi ⟨h1, h2, hf, hc⟩
    dsimp only at h1 h2 hf hc
    left
    subst h1 h2
    have en : mI s c 1 = Int32.ofNat N := by rw [hf c (by omega)]; exact R.2.1
    obtain ⟨e1, e2, e3, e9, ew⟩ := R.2.2.1 i hi
    have fp := (hc i hi).1 (Nat.le_refl _)
    have bh := R.1.2.2.1 i hi
    obtain ⟨t, et, t1, t2, t3⟩ := nat_of bh.2.1 (by omega) (m := 1) (by omega)
    obtain ⟨kn, ek, k1, k2, k3⟩ := nat_of bh.2.2.1 (by omega) (m := 5) (by omega)
    have g1 : mI s (c + 1 + 23 + 2 * i) 1 = S (12 * i) := by rw [fp]; exact e1
    have g2 : mI s (c + 1 + 23 + 2 * i) 2 = Int32.ofNat t := by rw [fp, e2]; exact et
    have g3 : mI s (c + 1 + 23 + 2 * i) 3 = Int32.ofNat kn := by rw [fp, e3]; exact ek
    have lw : ∀ k, k < 10 → mI s (c + 2) k = S (360 + k) := fun k hk => by rw [hf _ (by omega)]; exact R.2.2.2 k hk
    have l3 : mI s (c + 2) 3 = S 363 := lw 3 (by omega)
    have lt := lw (1 + t) (by omega)
    have lk' := lw (4 + kn) (by omega)
    have a1 : (1 : Int32) + Int32.ofNat t = Int32.ofNat (1 + t) := o_add (i := 1)
    have a4 : (4 : Int32) + Int32.ofNat kn = Int32.ofNat (4 + kn) := o_add (i := 4)
    have hcv : hc_ S z i = (S (12 * i) * hh_ S (S (360 + (1 + t))) (nx (sd z i))) / 100 := by
      unfold hc_
      rw [et, o_clamp (by omega), show 361 + t = 360 + (1 + t) by omega]
    have hov : ho_ S z i = (hc_ S z i * hh_ S (S (360 + (4 + kn))) (nx (nx (sd z i)))) / 100 := by
      unfold ho_
      rw [ek, o_clamp (by omega), show 364 + kn = 360 + (4 + kn) by omega]
    refine ⟨(sd z (i + 1), hsum S z (i + 1), sI (sI s (c + 1 + 23 + 2 * i) 6 (hc_ S z i)) (c + 1 + 23 + 2 * i) 7 (ho_ S z i)), ⟨rfl, rfl, fun y hy => ?_, fun h hh => ?_⟩, ?_⟩
    · dsimp only; rw [mI_sI_ne (by omega), mI_sI_ne (by omega)]; exact hf y hy
    · dsimp only
      obtain ⟨c1, c2, c3, c4⟩ := hc h hh
      by_cases e : h = i
      · subst e
        refine ⟨fun q => absurd q (by omega), fun j j1 j2 => by rw [mI_sI_k j2, mI_sI_k j1]; exact c2 j j1 j2, fun _ => ⟨by rw [mI_sI_k (by decide), mI_sI_eq], mI_sI_eq⟩, by rw [mI_sI_ne (by omega), mI_sI_ne (by omega)]; exact c4⟩
      · refine ⟨fun q => by rw [mI_sI_ne (by omega), mI_sI_ne (by omega)]; exact c1 (by omega), fun j j1 j2 => by rw [mI_sI_ne (by omega), mI_sI_ne (by omega)]; exact c2 j j1 j2, fun q => by rw [mI_sI_ne (by omega), mI_sI_ne (by omega)]; exact c3 (by omega), by rw [mI_sI_ne (by omega), mI_sI_ne (by omega)]; exact c4⟩
    · have dr : ∀ (w : Int32) (M1 : Mem), mI M1 (c + 2) 3 = S 363 → f_X0_drawn c w M1 = some (jrem ((w &&& 2147483647) / 65536) (2 * S 363 + 1) - S 363) := fun w M1 hM => by
        unfold f_X0_drawn
        rw [hM, gd_t sp]
      have dr1 := dr (f_X0_nextSeed (sd z i)) s l3
      have dr2 : ∀ v w, f_X0_drawn c (f_X0_nextSeed w) (sI s (c + 1 + 23 + 2 * i) 6 v) = some (jrem ((f_X0_nextSeed w &&& 2147483647) / 65536) (2 * S 363 + 1) - S 363) := fun v w => dr _ _ (by rw [mI_sI_ne (by omega)]; exact l3)
      simp (disch := omega) only [L_X0_becomeHonest_7, en, le_f, if_false, ↓gd_r, o_clamp, g1, g2, g3, a1, a4, dr1, dr2, Option.bind_some, mI_sI_ne, mI_sI_k, mI_sI_eq, lt, lk', held_eq, o_succ]
      rw [sd_succ, show hsum S z (i + 1) = hsum S z i + hc_ S z i from rfl, hov, hcv]
      rfl
def FrK (B M : Mem) : Prop := (∀ y, y ≠ 284 → y ≠ 296 → y ≠ 297 → mI M y = mI B y) ∧ ∀ j, j ≠ 16 → mI M 284 j = mI B 284 j
theorem m_makes (R : BQ (mI B 285) N) (z : Int32) : ∃ M', f_X9_makes z B = some M' ∧ FrK B M' ∧ ∀ h, h < N → mI M' 296 h = hc_ (mI B 285) z h ∧ mI M' 297 h = ho_ (mI B 285) z h := by
  have hN := R.1
  have sp := spread_t R
  refine up_run (L := fun n x (s : Mem) => L_X9_makes_7 n x s) N (fun i s => FrK B s ∧ mI s 284 16 = sd z i ∧ ∀ h, h < i → mI s 296 h = hc_ (mI B 285) z h ∧ mI s 297 h = ho_ (mI B 285) z h) (fun o => ∃ M', o = some M' ∧ FrK B M' ∧ ∀ h, h < N → mI M' 296 h = hc_ (mI B 285) z h ∧ mI M' 297 h = ho_ (mI B 285) z h) (by omega) ?_ ?_ _ ⟨⟨fun y y1 _ _ => mI_sI_ne y1, fun j hj => mI_sI_k hj⟩, mI_sI_eq, fun h hh => absurd hh (by omega)⟩
  · rintro n s ⟨hf, hz, hc⟩
    have m5 : mI s 285 = mI B 285 := hf.1 285 (by decide) (by decide) (by decide)
    have en : mI s 285 1192 = Int32.ofNat N := by rw [m5]; exact R.2.1
    simp (disch := omega) only [L_X9_makes_7, en, le_t, if_true]
    exact ⟨s, rfl, hf, hc⟩
  · rintro n i s hi ⟨hf, hz, hc⟩
    left
    have h30 : i < 30 := by omega
    have m5 : mI s 285 = mI B 285 := hf.1 285 (by decide) (by decide) (by decide)
    have en : mI s 285 1192 = Int32.ofNat N := by rw [m5]; exact R.2.1
    have bh := R.2.2.1 i hi
    obtain ⟨t, et, t1, t2, t3⟩ := nat_of bh.2.1 (by omega) (m := 1) (by omega)
    obtain ⟨kn, ek, k1, k2, k3⟩ := nat_of bh.2.2.1 (by omega) (m := 5) (by omega)
    have hd : ∀ (x : Int32) (M1 : Mem), mI M1 285 = mI B 285 → f_X9_hundredths x M1 = some (hh_ (mI B 285) x (nx (mI M1 284 16)), sI M1 284 16 (nx (mI M1 284 16))) := fun x M1 hM => by
      unfold f_X9_hundredths
      rw [mI_sI_ne (by decide), hM, mI_sI_eq, gd_t sp]
      rfl
    have b1 : (361 : Int32) + Int32.ofNat t = Int32.ofNat (361 + t) := o_add (i := 361)
    have b4 : (364 : Int32) + Int32.ofNat kn = Int32.ofNat (364 + kn) := o_add (i := 364)
    have g2' : ∀ v w, f_X9_get (Int32.ofNat i) 2 (sI (sI s 284 16 v) 296 i w) = some (Int32.ofNat kn) := fun v w => by
      rw [g2 h30, mI_sI_ne (by decide), mI_sI_ne (by decide), m5, ek]
    have hd1 := fun x => hd x s m5
    have hd2 := fun x v w => hd x (sI (sI s 284 16 v) 296 i w) (by rw [mI_sI_ne (by decide), mI_sI_ne (by decide), m5])
    refine ⟨sI (sI (sI (sI s 284 16 (nx (sd z i))) 296 i (hc_ (mI B 285) z i)) 284 16 (nx (nx (sd z i)))) 297 i (ho_ (mI B 285) z i), ⟨⟨fun y y1 y2 y3 => ?_, fun j hj => ?_⟩, ?_, fun h hh => ?_⟩, ?_⟩
    · rw [mI_sI_ne y3, mI_sI_ne y1, mI_sI_ne y2, mI_sI_ne y1]; exact hf.1 y y1 y2 y3
    · rw [mI_sI_ne (by decide), mI_sI_k hj, mI_sI_ne (by decide), mI_sI_k hj]; exact hf.2 j hj
    · rw [mI_sI_ne (by decide), mI_sI_eq]; rfl
    · by_cases e : h = i
      · subst e
        refine ⟨by rw [mI_sI_ne (by decide), mI_sI_ne (by decide), mI_sI_eq], mI_sI_eq⟩
      · obtain ⟨c1, c2⟩ := hc h (by omega)
        refine ⟨by rw [mI_sI_ne (by decide), mI_sI_ne (by decide), mI_sI_k e, mI_sI_ne (by decide)]; exact c1, by rw [mI_sI_k e, mI_sI_ne (by decide), mI_sI_ne (by decide), mI_sI_ne (by decide)]; exact c2⟩
    · have hcv : hc_ (mI B 285) z i = (mI B 285 (12 * i) * hh_ (mI B 285) (mI B 285 (361 + t)) (nx (sd z i))) / 100 := by
        unfold hc_
        rw [et, o_clamp (by omega)]
      have hov : ho_ (mI B 285) z i = (hc_ (mI B 285) z i * hh_ (mI B 285) (mI B 285 (364 + kn)) (nx (nx (sd z i)))) / 100 := by
        unfold ho_
        rw [ek, o_clamp (by omega)]
      simp (disch := omega) only [L_X9_makes_7, en, le_f, if_false, g0 h30, g1 h30, m5, et, Option.bind_some, b1, ↓gd_r, o_clamp, hd1, hz, g2', b4, hd2, mI_sI_ne, mI_sI_k, mI_sI_eq, o_succ]
      rw [hov, hcv]
def lnS (S : Nat → Int32) (z : Int32) : Nat → Nat → Int32 := fdN (fun h s => zu (zu s (12 * h + 5) (hc_ S z h)) (12 * h + 6) (ho_ S z h)) S
theorem lnS_succ (S : Nat → Int32) (z : Int32) (i : Nat) : lnS S z (i + 1) = zu (zu (lnS S z i) (12 * i + 5) (hc_ S z i)) (12 * i + 6) (ho_ S z i) := rfl
theorem lnS_hi (S : Nat → Int32) (z : Int32) : ∀ i k, 12 * i ≤ k → lnS S z i k = S k
  | 0, _, _ => rfl
  | i + 1, k, hk => by
    rw [lnS_succ, zu_ne _ _ (by omega), zu_ne _ _ (by omega)]; exact lnS_hi S z i k (by omega)
theorem lnS_lo (S : Nat → Int32) (z : Int32) (h j : Nat) (hj : j < 12) (h5 : j ≠ 5) (h6 : j ≠ 6) : ∀ i, lnS S z i (12 * h + j) = S (12 * h + j)
  | 0 => rfl
  | i + 1 => by
    rw [lnS_succ, zu_ne _ _ (by omega), zu_ne _ _ (by omega)]; exact lnS_lo S z h j hj h5 h6 i
theorem lnS_at (S : Nat → Int32) (z : Int32) (h : Nat) : ∀ i, h < i → lnS S z i (12 * h + 5) = hc_ S z h ∧ lnS S z i (12 * h + 6) = ho_ S z h
  | 0, q => absurd q (by omega)
  | i + 1, q => by
    rw [lnS_succ]
    by_cases e : h = i
    · subst e
      rw [zu_ne _ _ (by omega), zu_eq, zu_eq]; exact ⟨rfl, rfl⟩
    · rw [zu_ne _ _ (by omega), zu_ne _ _ (by omega), zu_ne _ _ (by omega), zu_ne _ _ (by omega)]
      exact lnS_at S z h i (by omega)
theorem m_land (R : BQ (mI B 285) N) (z : Int32) : ∃ M', f_X9_land z B = some (hsum (mI B 285) z N, M') ∧ (∀ y, y ≠ 284 → y ≠ 296 → y ≠ 297 → y ≠ 285 → mI M' y = mI B y) ∧ mI M' 284 8 = mI B 284 8 ∧ mI M' 285 = lnS (mI B 285) z N := by
  have hN := R.1
  obtain ⟨M0', e0, f0, c0⟩ := m_makes R z
  unfold f_X9_land
  rw [e0, Option.bind_some]
  have m5 : mI M0' 285 = mI B 285 := f0.1 285 (by decide) (by decide) (by decide)
  refine up_run (L := fun n x (s : Int32 × Mem) => L_X9_land_9 n s.1 x s.2) N (fun i s => s.1 = hsum (mI B 285) z i ∧ (∀ y, y ≠ 285 → mI s.2 y = mI M0' y) ∧ mI s.2 285 = lnS (mI B 285) z i) (fun o => ∃ M', o = some (hsum (mI B 285) z N, M') ∧ (∀ y, y ≠ 284 → y ≠ 296 → y ≠ 297 → y ≠ 285 → mI M' y = mI B y) ∧ mI M' 284 8 = mI B 284 8 ∧ mI M' 285 = lnS (mI B 285) z N) (by omega) ?_ ?_ (0, M0') ⟨rfl, fun _ _ => rfl, m5⟩
  · rintro n ⟨a, s⟩ ⟨h1, h2, h3⟩
    dsimp only at h1 h2 h3
    have en : mI s 285 1192 = Int32.ofNat N := by rw [h3, lnS_hi _ _ _ _ (by omega)]; exact R.2.1
    simp (disch := omega) only [L_X9_land_9, en, le_t, if_true]
    exact ⟨s, by rw [h1], fun y y1 y2 y3 y4 => by rw [h2 y y4]; exact f0.1 y y1 y2 y3, by rw [h2 284 (by decide)]; exact f0.2 8 (by decide), h3⟩
  · rintro n i ⟨a, s⟩ hi ⟨h1, h2, h3⟩
    dsimp only at h1 h2 h3
    left
    subst h1
    have en : mI s 285 1192 = Int32.ofNat N := by rw [h3, lnS_hi _ _ _ _ (by omega)]; exact R.2.1
    obtain ⟨c1, c2⟩ := c0 i hi
    have d1 : mI s 296 i = hc_ (mI B 285) z i := by rw [h2 296 (by decide)]; exact c1
    have d2 : mI s 297 i = ho_ (mI B 285) z i := by rw [h2 297 (by decide)]; exact c2
    have a5 : (12 : Int32) * Int32.ofNat i + 5 = Int32.ofNat (12 * i + 5) := k12 i 5
    have a6 : (12 : Int32) * Int32.ofNat i + 6 = Int32.ofNat (12 * i + 6) := k12 i 6
    refine ⟨(hsum (mI B 285) z (i + 1), sI (sI s 285 (12 * i + 5) (hc_ (mI B 285) z i)) 285 (12 * i + 6) (ho_ (mI B 285) z i)), ⟨rfl, fun y hy => ?_, ?_⟩, ?_⟩
    · dsimp only; rw [mI_sI_ne hy, mI_sI_ne hy]; exact h2 y hy
    · dsimp only; rw [mI_285, mI_285, h3]; rfl
    · simp (disch := omega) only [L_X9_land_9, en, le_f, if_false, ↓gd_r, o_clamp, a5, a6, d1, d2, mI_sI_ne, o_succ]
      rfl
theorem op_land (I : Inv M) (z : Int32) : ∃ r M1 M2, f_X8_land z M = some (r, M1) ∧ f_X9_land z M1 = some (r, M2) ∧ Inv M2 := by
  obtain ⟨N, K, R, W⟩ := I.1
  have hN := R.1.1.1
  unfold f_X8_land
  obtain ⟨M1, e1, f1, c1⟩ := c_honest R.1 z
  have m5 : mI M1 285 = mI M 285 := f1 285 (by omega)
  obtain ⟨M2, e2, f2, g2, r2⟩ := m_land (B := M1) (N := N) (by rw [m5]; exact R.1.1) z
  rw [m5] at e2 r2
  rw [e1]
  refine ⟨_, _, M2, rfl, e2, inv_up I ⟨fun y a b c d => ?_, ?_⟩ ⟨N, K, ?_, ?_⟩⟩
  · rw [f2 y b (fun e => a (by rw [e]; unfold scr; omega)) (fun e => a (by rw [e]; unfold scr; omega)) d]
    exact f1 y (by omega)
  · rw [g2, f1 284 (by omega)]
  · rw [r2]
    have fr : ∀ y, 1 ≤ y → y ≤ 84 → mI M2 y = mI M1 y := fun y y1 y2 => f2 y (by omega) (by omega) (by omega) (by omega)
    refine rc_halls R (fun y hy => by rw [fr y (by omega) (by omega)]; exact f1 y (by omega)) (fun k hk => lnS_hi _ _ _ _ (by omega)) (fun h hh => ?_)
    obtain ⟨p1, p2, p3, p4⟩ := c1 h hh
    obtain ⟨⟨e1, e2', e3, e9, ew⟩, ⟨e4, e5, e6, e7, f0, f1', e8⟩, b0, b1, b2', b3, b4, b5, b6, b7, b8, b9, b10, b11⟩ := rc_at R hh
    have lo := fun j hj h5 h6 => lnS_lo (mI M 285) z h j hj h5 h6 N
    have l0 : lnS (mI M 285) z N (12 * h) = mI M 285 (12 * h) := lo 0 (by omega) (by omega) (by omega)
    obtain ⟨at5, at6⟩ := lnS_at (mI M 285) z h N hh
    obtain ⟨x, y, l, q1, q2, q3, q4, q5, q6⟩ := honest_b (R.1.1.2.2.1 h hh) z
    unfold RQ RR BH
    rw [fr (1 + 1 + 23 + 2 * h) (by omega) (by omega), fr (1 + 1 + 23 + 2 * h + 1) (by omega) (by omega), p4, p2, p3, p1 1 (by decide) (by decide), p1 2 (by decide) (by decide), p1 3 (by decide) (by decide), p1 9 (by decide) (by decide), p1 10 (by decide) (by decide), p1 11 (by decide) (by decide), p1 4 (by decide) (by decide), p1 5 (by decide) (by decide), p1 8 (by decide) (by decide), l0, at5, at6, lo 1 (by omega) (by omega) (by omega), lo 2 (by omega) (by omega) (by omega), lo 3 (by omega) (by omega) (by omega), lo 4 (by omega) (by omega) (by omega), lo 7 (by omega) (by omega) (by omega), lo 8 (by omega) (by omega) (by omega), lo 9 (by omega) (by omega) (by omega), lo 10 (by omega) (by omega) (by omega), lo 11 (by omega) (by omega) (by omega)]
    refine ⟨⟨e1, e2', e3, e9, ew⟩, ⟨e4, e5, rfl, rfl, f0, f1', e8⟩, b0, b1, b2', b3, b4, ?_, ?_, b7, b8, b9, b10, b11⟩
    · rw [q1, q3, o_toInt (by omega)]; exact bt_o (by omega) (by omega) (by omega)
    · rw [q1, q2, o_toInt (by omega)]; exact bt_o (by omega) (by omega) (by omega)
  · rw [r2]; exact mw_cong (fun k h1 h2 => lnS_hi _ _ _ _ (by omega)) R.2.2.2.1 W
theorem wrS_eq (v : Nat → Option (Int32 × Int32)) (S : Nat → Int32) : ∀ n k, wrS v S n k = if k / 12 < n then (match v (k / 12) with
    | none => S k
    | some q => if k % 12 = 9 then q.1 else if k % 12 = 10 then q.2 else S k) else S k
  | 0, k => by rw [if_neg (by omega)]; rfl
  | n + 1, k => by
    have ih := wrS_eq v S n k
    by_cases e : k / 12 = n
    · rw [wrS_succ, if_pos (by omega), e]
      have s : wrS v S n k = S k := wrS_hi v S n k (by omega)
      cases v n with
      | none => exact s
      | some q =>
        dsimp only
        by_cases q10 : k % 12 = 10
        · rw [if_neg (by omega), if_pos q10, show k = 12 * n + 10 by omega, zu_eq]
        · by_cases q9 : k % 12 = 9
          · rw [if_pos q9, zu_ne _ _ (by omega), show k = 12 * n + 9 by omega, zu_eq]
          · rw [if_neg q9, if_neg q10, zu_ne _ _ (by omega), zu_ne _ _ (by omega), s]
    · have e3 : wrS v S (n + 1) k = wrS v S n k := by
        rw [wrS_succ]
        cases v n with
        | none => rfl
        | some q =>
          dsimp only
          rw [zu_ne _ _ (by omega), zu_ne _ _ (by omega)]
      rw [e3, ih]
      by_cases q : k / 12 < n
      · rw [if_pos q, if_pos (by omega)]
      · rw [if_neg q, if_neg (by omega)]
/-- a land in mind: what is written there -/
def ovV (S : Nat → Int32) (z : Int32) (h : Nat) : Option (Int32 × Int32) := if S (12 * h + 9) < 0 then none else some (hc_ S z h, ho_ S z h)
def Like (T S : Nat → Int32) (N : Nat) : Prop := (∀ k, k % 12 ≠ 9 → k % 12 ≠ 10 → T k = S k) ∧ (∀ k, 12 * N ≤ k → T k = S k) ∧ ∀ h, h < N → (S (12 * h + 9) < 0 → T (12 * h + 9) = S (12 * h + 9) ∧ T (12 * h + 10) = S (12 * h + 10)) ∧ (¬ S (12 * h + 9) < 0 → ¬ T (12 * h + 9) < 0)
theorem like_r (S : Nat → Int32) (N : Nat) : Like S S N := ⟨fun _ _ _ => rfl, fun _ _ => rfl, fun _ _ => ⟨fun _ => ⟨rfl, rfl⟩, id⟩⟩
theorem like_h {T : Nat → Int32} (l : Like T S N) (hN : N ≤ 30) (z : Int32) (h : Nat) (hh : h < N) (b : BH S (12 * h)) : hc_ T z h = hc_ S z h ∧ ho_ T z h = ho_ S z h := by
  have w : ∀ j, j < 12 → j ≠ 9 → j ≠ 10 → T (12 * h + j) = S (12 * h + j) := fun j hj h9 h10 => l.1 _ (by omega) (by omega)
  have w0 : T (12 * h) = S (12 * h) := w 0 (by omega) (by omega) (by omega)
  have hi : ∀ k, 360 ≤ k → T k = S k := fun k hk => l.2.1 k (by omega)
  have t : hc_ T z h = hc_ S z h := by
    unfold hc_ hh_
    rw [w0, w 1 (by omega) (by omega) (by omega), hi 363 (by omega), hi _ (by omega)]
  refine ⟨t, ?_⟩
  unfold ho_ hh_
  rw [t, w 2 (by omega) (by omega) (by omega), hi 363 (by omega), hi _ (by omega)]
theorem like_w {T : Nat → Int32} (l : Like T S N) (hN : N ≤ 30) (hb : ∀ h, h < N → BH S (12 * h)) (z : Int32) : wrS (ovV S z) T N = wrS (ovV S z) S N := by
  funext k
  rw [wrS_eq, wrS_eq]
  by_cases q : k / 12 < N
  · rw [if_pos q, if_pos q]
    unfold ovV
    by_cases hm : S (12 * (k / 12) + 9) < 0
    · rw [if_pos hm]
      dsimp only
      obtain ⟨l1, -⟩ := l.2.2 (k / 12) q
      obtain ⟨l9, l10⟩ := l1 hm
      by_cases q9 : k % 12 = 9
      · rw [show k = 12 * (k / 12) + 9 by omega]; exact l9
      · by_cases q10 : k % 12 = 10
        · rw [show k = 12 * (k / 12) + 10 by omega]; exact l10
        · exact l.1 k q9 q10
    · rw [if_neg hm]
      dsimp only
      by_cases q9 : k % 12 = 9
      · rw [if_pos q9, if_pos q9]
      · by_cases q10 : k % 12 = 10
        · rw [if_neg q9, if_pos q10, if_neg q9, if_pos q10]
        · rw [if_neg q9, if_neg q10, if_neg q9, if_neg q10]; exact l.1 k q9 q10
  · rw [if_neg q, if_neg q]; exact l.2.1 k (by omega)
theorem ov_b (hb : ∀ h, h < N → BH S (12 * h)) (z : Int32) : ∀ h, h < N → ∀ q, ovV S z h = some q → (q.1 = -1 ∨ bt q.1 0 9999 ∧ bt q.2 0 q.1.toInt) := by
  intro h hh q e
  unfold ovV at e
  by_cases hm : S (12 * h + 9) < 0
  · rw [if_pos hm] at e; cases e
  · rw [if_neg hm] at e
    have e' := Option.some.inj e
    subst e'
    right
    obtain ⟨x, y, l, q1, q2, q3, q4, q5, q6⟩ := honest_b (hb h hh) z
    dsimp only
    rw [q1, q2, o_toInt (by omega)]
    exact ⟨bt_o (by omega) (by omega) (by omega), bt_o (by omega) (by omega) (by omega)⟩
theorem like_ov (hN : N ≤ 30) (hb : ∀ h, h < N → BH S (12 * h)) (z : Int32) : Like (wrS (ovV S z) S N) S N := by
  refine ⟨fun k h9 h10 => ?_, fun k hk => wrS_hi _ _ _ _ hk, fun h hh => ⟨fun hm => ⟨?_, ?_⟩, fun hm => ?_⟩⟩
  · rw [wrS_eq]
    by_cases q : k / 12 < N
    · rw [if_pos q]
      cases ovV S z (k / 12) with
      | none => rfl
      | some r => dsimp only; rw [if_neg h9, if_neg h10]
    · rw [if_neg q]
  · rw [wrS_eq, if_pos (by omega), show (12 * h + 9) / 12 = h by omega]
    unfold ovV; rw [if_pos hm]
  · rw [wrS_eq, if_pos (by omega), show (12 * h + 10) / 12 = h by omega]
    unfold ovV; rw [if_pos hm]
  · rw [wrS_eq, if_pos (by omega), show (12 * h + 9) / 12 = h by omega]
    unfold ovV; rw [if_neg hm]
    dsimp only
    rw [if_pos (by omega)]
    obtain ⟨x, y, l, q1, q2, q3, q4, q5, q6⟩ := honest_b (hb h hh) z
    rw [q1, show (0 : Int32) = Int32.ofNat 0 from rfl, o_lt (by omega) (by omega)]
    omega
/-- the class's land in mind: made, and written -/
theorem c_mind {T : Nat → Int32} (R : CQ A 169 T N) (l : Like T S N) (bS : BQ S N) (z : Int32) : ∃ A' A'' r, f_X0_becomeHonest 169 z A = some (r, A') ∧ f_X0_writeTruth 169 A' = some A'' ∧ (∀ y, ¬ (169 ≤ y ∧ y ≤ 252) → mI A'' y = mI A y) ∧ CQ A'' 169 (wrS (ovV S z) S N) N := by
  have hN := cq_N R
  obtain ⟨A', e1, f1, c1⟩ := c_honest R z
  have bq := bq_wr bS (ov_b bS.2.2.1 z) N (Nat.le_refl _)
  have lk0 := like_ov hN bS.2.2.1 z
  refine ⟨A', ?_⟩
  have key : ∃ A'', f_X0_writeTruth 169 A' = some A'' ∧ FrC A' A'' 169 ∧ ∀ h, h < N → RQ A'' (169 + 1 + 23 + 2 * h) (wrS (ovV S z) S N) (12 * h) := by
    have en : ∀ s, FrC A' s 169 → mI s 169 1 = Int32.ofNat N := fun s hf => by rw [hf 169 (by omega), f1 169 (by omega)]; exact R.2.1
    refine up_run (L := fun n x (s : Mem) => L_X0_writeTruth_2 n 169 x s) N (fun i s => FrC A' s 169 ∧ (∀ h, h < N → i ≤ h → mI s (169 + 1 + 23 + 2 * h) = mI A' (169 + 1 + 23 + 2 * h)) ∧ ∀ h, h < i → RQ s (169 + 1 + 23 + 2 * h) (wrS (ovV S z) S N) (12 * h)) (fun o => ∃ A'', o = some A'' ∧ FrC A' A'' 169 ∧ ∀ h, h < N → RQ A'' (169 + 1 + 23 + 2 * h) (wrS (ovV S z) S N) (12 * h)) (by omega) ?_ ?_ A' ⟨fun _ _ => rfl, fun _ _ _ => rfl, fun h hh => absurd hh (by omega)⟩
    · rintro n s ⟨hf, h1, h2⟩
      simp (disch := omega) only [L_X0_writeTruth_2, en s hf, le_t, if_true]
      exact ⟨s, rfl, hf, h2⟩
    · rintro n i s hi ⟨hf, h1, h2⟩
      left
      obtain ⟨e1', e2', e3', e9', ew'⟩ := R.2.2.1 i hi
      obtain ⟨p1, p2, p3, p4⟩ := c1 i hi
      obtain ⟨t1, t2⟩ := like_h l hN z i hi (bS.2.2.1 i hi)
      have fp := h1 i hi (Nat.le_refl _)
      have w : ∀ j, j < 12 → j ≠ 9 → j ≠ 10 → T (12 * i + j) = wrS (ovV S z) S N (12 * i + j) := fun j hj h9 h10 => by
        rw [l.1 _ (by omega) (by omega), lk0.1 _ (by omega) (by omega)]
      have w0 : T (12 * i) = wrS (ovV S z) S N (12 * i) := w 0 (by omega) (by omega) (by omega)
      have v9 : wrS (ovV S z) S N (12 * i + 9) = if S (12 * i + 9) < 0 then S (12 * i + 9) else hc_ S z i := by
        rw [wrS_eq, if_pos (by omega), show (12 * i + 9) / 12 = i by omega]
        unfold ovV
        by_cases hm : S (12 * i + 9) < 0
        · rw [if_pos hm, if_pos hm]
        · rw [if_neg hm, if_neg hm]; dsimp only; rw [if_pos (by omega)]
      have v10 : ¬ S (12 * i + 9) < 0 → wrS (ovV S z) S N (12 * i + 10) = ho_ S z i := fun hm => by
        rw [wrS_eq, if_pos (by omega), show (12 * i + 10) / 12 = i by omega]
        unfold ovV
        rw [if_neg hm]; dsimp only; rw [if_neg (by omega), if_pos (by omega)]
      have g1 : mI s (169 + 1 + 23 + 2 * i) 1 = T (12 * i) := by rw [fp, p1 1 (by decide) (by decide)]; exact e1'
      have g2 : mI s (169 + 1 + 23 + 2 * i) 2 = T (12 * i + 1) := by rw [fp, p1 2 (by decide) (by decide)]; exact e2'
      have g3 : mI s (169 + 1 + 23 + 2 * i) 3 = T (12 * i + 2) := by rw [fp, p1 3 (by decide) (by decide)]; exact e3'
      have g9 : mI s (169 + 1 + 23 + 2 * i) 9 = if T (12 * i + 9) < 0 then 1 else 0 := by rw [fp, p1 9 (by decide) (by decide)]; exact e9'
      have g6 : mI s (169 + 1 + 23 + 2 * i) 6 = hc_ S z i := by rw [fp, p2]; exact t1
      have g7 : mI s (169 + 1 + 23 + 2 * i) 7 = ho_ S z i := by rw [fp, p3]; exact t2
      obtain ⟨l1, l2⟩ := l.2.2 i hi
      by_cases hm : S (12 * i + 9) < 0
      · have tm : T (12 * i + 9) < 0 := by rw [(l1 hm).1]; exact hm
        rw [if_pos tm] at g9
        refine ⟨s, ⟨hf, fun h hh q => h1 h hh (by omega), fun h hh => ?_⟩, ?_⟩
        · by_cases e : h = i
          · subst e
            unfold RQ
            rw [v9, if_pos hm, if_pos hm, ← w0, ← w 1 (by omega) (by omega) (by omega), ← w 2 (by omega) (by omega) (by omega)]
            exact ⟨g1, g2, g3, g9, fun q => absurd hm q⟩
          · exact h2 h (by omega)
        · simp (disch := omega) only [L_X0_writeTruth_2, B_X0_writeTruth_36, en s hf, le_f, if_false, ↓gd_r, o_clamp, o_succ, g9, i10]
      · have tm := l2 hm
        rw [if_neg tm] at g9
        refine ⟨sI (sI (sI s (169 + 1 + 23 + 2 * i) 9 0) (169 + 1 + 23 + 2 * i) 10 (hc_ S z i)) (169 + 1 + 23 + 2 * i) 11 (ho_ S z i), ⟨fun y hy => by rw [mI_sI_ne (by omega), mI_sI_ne (by omega), mI_sI_ne (by omega)]; exact hf y hy, fun h hh q => by rw [mI_sI_ne (by omega), mI_sI_ne (by omega), mI_sI_ne (by omega)]; exact h1 h hh (by omega), fun h hh => ?_⟩, ?_⟩
        · by_cases e : h = i
          · subst e
            obtain ⟨x, y, l', q1, q2, q3, q4, q5, q6⟩ := honest_b (bS.2.2.1 h hi) z
            have nn : ¬ hc_ S z h < 0 := by
              rw [q1, show (0 : Int32) = Int32.ofNat 0 from rfl, o_lt (by omega) (by omega)]; omega
            unfold RQ
            rw [v9, if_neg hm, v10 hm, ← w0, ← w 1 (by omega) (by omega) (by omega), ← w 2 (by omega) (by omega) (by omega), if_neg nn]
            simp (disch := omega) only [mI_sI_k, mI_sI_eq]
            exact ⟨g1, g2, g3, trivial, fun _ => ⟨trivial, trivial⟩⟩
          · have := h2 h (by omega)
            unfold RQ at this ⊢
            rw [mI_sI_ne (by omega), mI_sI_ne (by omega), mI_sI_ne (by omega)]
            exact this
        · simp (disch := omega) only [L_X0_writeTruth_2, B_X0_writeTruth_36, f_X1_write, en s hf, le_f, if_false, ↓gd_r, o_clamp, o_succ, g9, if_true, g6, g7, Option.bind_some]
  obtain ⟨A'', k1, k2, k3⟩ := key
  refine ⟨A'', _, e1, k1, fun y hy => by rw [k2 y (by omega), f1 y (by omega)], bq, by rw [k2 169 (by omega), f1 169 (by omega)]; exact R.2.1, k3, fun k hk => ?_⟩
  rw [k2 _ (by omega), f1 _ (by omega), wrS_hi _ _ _ _ (by omega), R.2.2.2 k hk]
  exact l.2.1 _ (by omega)
def odC (S : Nat → Int32) (N w : Nat) (z : Int32) : Nat → Int32 := fdN (fun i a => if me (wrS (ovV S (z + Int32.ofNat i)) S N) N w < me S N w then a else a + 1) 0
theorem c_odd (R : RC M 1 S N K) {w n : Nat} (hw : w < 5) (hn : n ≤ 50) (z : Int32) (M0' : Mem) (r0 : RC M0' 169 S N K) (f0 : ∀ y, ¬ scr y → mI M0' y = mI M y) : ∃ M', L_X8_odd_48 FU (Int32.ofNat w) (Int32.ofNat n) z (me S N w) 0 0 M0' = some (odC S N w z n, M') ∧ ∀ y, ¬ scr y → mI M' y = mI M y := by
  have hN := R.1.1.1
  refine up_run (L := fun m x (s : Int32 × Mem) => L_X8_odd_48 m (Int32.ofNat w) (Int32.ofNat n) z (me S N w) s.1 x s.2) n (fun i s => s.1 = odC S N w z i ∧ (∀ y, ¬ scr y → mI s.2 y = mI M y) ∧ ∃ T, CQ s.2 169 T N ∧ Like T S N) (fun o => ∃ M', o = some (odC S N w z n, M') ∧ ∀ y, ¬ scr y → mI M' y = mI M y) (by omega) ?_ ?_ (0, M0') ⟨rfl, f0, S, r0.1, like_r S N⟩
  · rintro m ⟨a, s⟩ ⟨rfl, h2, h3⟩
    simp (disch := omega) only [L_X8_odd_48, le_t, if_true]
    exact ⟨s, rfl, h2⟩
  · rintro m i ⟨a, s⟩ hi ⟨rfl, h2, T, h3, h4⟩
    left
    dsimp only at h2 h3
    obtain ⟨A', A'', r, e1, e2, f2, c2⟩ := c_mind h3 h4 R.1.1 (z + Int32.ofNat i)
    obtain ⟨a22, e3⟩ := c_me c2 (by decide) hw
    refine ⟨(odC S N w z (i + 1), sR A'' (169 + 22) a22), ⟨rfl, fun y hy => ?_, _, cq_sR c2 (by omega) a22, like_ov hN R.1.1.2.2.1 _⟩, ?_⟩
    · dsimp only
      rw [mI_sR_ne _ _ (fun e => hy (by rw [e]; unfold scr; omega)), f2 y (fun q => hy (by unfold scr; omega))]
      exact h2 y hy
    · simp (disch := omega) only [L_X8_odd_48, B_X8_odd_89, le_f, if_false, e1, e2, e3, Option.bind_some, o_succ]
      rw [show odC S N w z (i + 1) = if me (wrS (ovV S (z + Int32.ofNat i)) S N) N w < me S N w then odC S N w z i else odC S N w z i + 1 from rfl]
      split <;> rfl
def FrO (B s : Mem) : Prop := (∀ y, ¬ scr y → y ≠ 284 → y ≠ 285 → mI s y = mI B y) ∧ mI s 284 8 = mI B 284 8
theorem m_odd (R : BQ (mI B 285) N) {w n : Nat} (hw : w < 5) (hn : n ≤ 50) (z : Int32) (M0' : Mem) (f0 : FrO B M0') (f5 : mI M0' 285 = mI B 285) : ∃ M', L_X9_odd_36 FU (Int32.ofNat w) (Int32.ofNat n) z (me (mI B 285) N w) 0 M0' = some (odC (mI B 285) N w z n, M') ∧ FrO B M' ∧ mI M' 285 = mI B 285 := by
  have hN := R.1
  generalize hS : mI B 285 = S at *
  -- the rows kept
  refine up_run (L := fun m x (s : Mem) => L_X9_odd_36 m (Int32.ofNat w) (Int32.ofNat n) z (me S N w) x s) N (fun i s => FrO B s ∧ mI s 285 = S ∧ ∀ h, h < i → mI s 298 h = S (12 * h + 9) ∧ mI s 299 h = S (12 * h + 10)) (fun o => ∃ M', o = some (odC S N w z n, M') ∧ FrO B M' ∧ mI M' 285 = S) (by omega) ?_ ?_ M0' ⟨f0, f5, fun h hh => absurd hh (by omega)⟩
  · rintro m s ⟨hf, h5, hk⟩
    have en : mI s 285 1192 = Int32.ofNat N := by rw [h5]; exact R.2.1
    simp (disch := omega) only [L_X9_odd_36, B_X9_odd_85, en, le_t, if_true]
    -- land by land
    refine up_run (L := fun m x (s : Int32 × Mem) => L_X9_odd_91 m (Int32.ofNat w) (Int32.ofNat n) z (me S N w) s.1 x s.2) n (fun i s => s.1 = odC S N w z i ∧ FrO B s.2 ∧ Like (mI s.2 285) S N ∧ BQ (mI s.2 285) N ∧ ∀ h, h < N → mI s.2 298 h = S (12 * h + 9) ∧ mI s.2 299 h = S (12 * h + 10)) (fun o => ∃ M', o = some (odC S N w z n, M') ∧ FrO B M' ∧ mI M' 285 = S) (by omega) ?_ ?_ (0, s) ⟨rfl, hf, by rw [h5]; exact like_r S N, by rw [h5]; exact R, hk⟩
    · rintro m ⟨a, s⟩ ⟨rfl, hf, hl, hb, hk⟩
      dsimp only at hf hl hb hk
      simp (disch := omega) only [L_X9_odd_91, B_X9_odd_183, le_t, if_true]
      -- the rows put back
      refine up_run (L := fun m x (s' : Mem) => L_X9_odd_186 m (odC S N w z n) x s') N (fun i s' => FrO B s' ∧ mI s' 298 = mI s 298 ∧ mI s' 299 = mI s 299 ∧ mI s' 285 = wrS (fun h => some (S (12 * h + 9), S (12 * h + 10))) (mI s 285) i) (fun o => ∃ M', o = some (odC S N w z n, M') ∧ FrO B M' ∧ mI M' 285 = S) (by omega) ?_ ?_ s ⟨hf, rfl, rfl, rfl⟩
      · rintro m s' ⟨g1, g2, g3, g4⟩
        have en : mI s' 285 1192 = Int32.ofNat N := by rw [g4, wrS_hi _ _ _ _ (by omega), hl.2.1 _ (by omega)]; exact R.2.1
        simp (disch := omega) only [L_X9_odd_186, en, le_t, if_true]
        refine ⟨s', rfl, g1, ?_⟩
        rw [g4]
        funext k
        rw [wrS_eq]
        by_cases q : k / 12 < N
        · rw [if_pos q]
          dsimp only
          by_cases q9 : k % 12 = 9
          · rw [if_pos q9]; congr 1; omega
          · by_cases q10 : k % 12 = 10
            · rw [if_neg q9, if_pos q10]; congr 1; omega
            · rw [if_neg q9, if_neg q10]; exact hl.1 k q9 q10
        · rw [if_neg q]; exact hl.2.1 k (by omega)
      · rintro m i s' hi ⟨g1, g2, g3, g4⟩
        left
        have en : mI s' 285 1192 = Int32.ofNat N := by rw [g4, wrS_hi _ _ _ _ (by omega), hl.2.1 _ (by omega)]; exact R.2.1
        obtain ⟨k1, k2⟩ := hk i hi
        refine ⟨sI (sI s' 285 (12 * i + 9) (S (12 * i + 9))) 285 (12 * i + 10) (S (12 * i + 10)), ⟨⟨fun y y1 y2 y3 => by rw [mI_sI_ne y3, mI_sI_ne y3]; exact g1.1 y y1 y2 y3, by rw [mI_sI_ne (by decide), mI_sI_ne (by decide)]; exact g1.2⟩, by rw [mI_sI_ne (by decide), mI_sI_ne (by decide)]; exact g2, by rw [mI_sI_ne (by decide), mI_sI_ne (by decide)]; exact g3, ?_⟩, ?_⟩
        · rw [mI_285, mI_285, g4]; rfl
        · simp (disch := omega) only [L_X9_odd_186, en, le_f, if_false, ↓gd_r, o_clamp, g2, g3, k1, k2, o_succ, writes_t (h := i) (by omega), Option.bind_some]
    · rintro m i ⟨a, s⟩ hi ⟨rfl, hf, hl, hb, hk⟩
      dsimp only at hf hl hb hk
      left
      obtain ⟨s1, e1, f1, c1⟩ := m_makes hb (z + Int32.ofNat i)
      have m5 : mI s1 285 = mI s 285 := f1.1 285 (by decide) (by decide) (by decide)
      -- what is written in the land
      have wloop : ∃ s2, L_X9_odd_108 (L_X9_odd_91 m) FU (Int32.ofNat w) (Int32.ofNat n) z (me S N w) (odC S N w z i) (Int32.ofNat i) (Int32.ofNat 0) s1 = B_X9_odd_157 (L_X9_odd_91 m) (Int32.ofNat w) (Int32.ofNat n) z (me S N w) (odC S N w z i) (Int32.ofNat i) s2 ∧ (∀ y, y ≠ 285 → mI s2 y = mI s1 y) ∧ mI s2 285 = wrS (ovV S (z + Int32.ofNat i)) (mI s 285) N := by
        refine up_run (L := fun m' x (s' : Mem) => L_X9_odd_108 (L_X9_odd_91 m) m' (Int32.ofNat w) (Int32.ofNat n) z (me S N w) (odC S N w z i) (Int32.ofNat i) x s') N (fun j s' => (∀ y, y ≠ 285 → mI s' y = mI s1 y) ∧ mI s' 285 = wrS (ovV S (z + Int32.ofNat i)) (mI s 285) j) (fun o => ∃ s2, o = B_X9_odd_157 (L_X9_odd_91 m) (Int32.ofNat w) (Int32.ofNat n) z (me S N w) (odC S N w z i) (Int32.ofNat i) s2 ∧ (∀ y, y ≠ 285 → mI s2 y = mI s1 y) ∧ mI s2 285 = wrS (ovV S (z + Int32.ofNat i)) (mI s 285) N) (by omega) ?_ ?_ s1 ⟨fun _ _ => rfl, m5⟩
        · rintro m' s' ⟨g1, g2⟩
          have en : mI s' 285 1192 = Int32.ofNat N := by rw [g2, wrS_hi _ _ _ _ (by omega)]; exact hb.2.1
          simp (disch := omega) only [L_X9_odd_108, en, le_t, if_true]
          exact ⟨s', rfl, g1, g2⟩
        · rintro m' j s' hj ⟨g1, g2⟩
          left
          have en : mI s' 285 1192 = Int32.ofNat N := by rw [g2, wrS_hi _ _ _ _ (by omega)]; exact hb.2.1
          obtain ⟨k1, k2⟩ := hk j hj
          have q8 : mI s' 298 j = S (12 * j + 9) := by rw [g1 298 (by decide), f1.1 298 (by decide) (by decide) (by decide)]; exact k1
          obtain ⟨d1, d2⟩ := c1 j hj
          obtain ⟨t1, t2⟩ := like_h hl hN (z + Int32.ofNat i) j hj (R.2.2.1 j hj)
          have q6 : mI s' 296 j = hc_ S (z + Int32.ofNat i) j := by rw [g1 296 (by decide), d1, t1]
          have q7 : mI s' 297 j = ho_ S (z + Int32.ofNat i) j := by rw [g1 297 (by decide), d2, t2]
          by_cases hm : S (12 * j + 9) < 0
          · refine ⟨s', ⟨g1, ?_⟩, ?_⟩
            · rw [wrS_succ, show ovV S (z + Int32.ofNat i) j = none from if_pos hm]; exact g2
            · simp (disch := omega) only [L_X9_odd_108, B_X9_odd_151, en, le_f, if_false, ↓gd_r, o_clamp, q8, hm, if_true, o_succ]
          · refine ⟨sI (sI s' 285 (12 * j + 9) (hc_ S (z + Int32.ofNat i) j)) 285 (12 * j + 10) (ho_ S (z + Int32.ofNat i) j), ⟨fun y hy => by rw [mI_sI_ne hy, mI_sI_ne hy]; exact g1 y hy, ?_⟩, ?_⟩
            · rw [mI_285, mI_285, g2, wrS_succ, show ovV S (z + Int32.ofNat i) j = some (hc_ S (z + Int32.ofNat i) j, ho_ S (z + Int32.ofNat i) j) from if_neg hm]
            · simp (disch := omega) only [L_X9_odd_108, B_X9_odd_151, en, le_f, if_false, ↓gd_r, o_clamp, q8, q6, q7, hm, o_succ, writes_t (h := j) (by omega), Option.bind_some]
      obtain ⟨s2, e2, f2, r2⟩ := wloop
      rw [like_w hl hN R.2.2.1] at r2
      have b2' := bq_wr R (ov_b R.2.2.1 (z + Int32.ofNat i)) N (Nat.le_refl _)
      rw [← r2] at b2'
      obtain ⟨a3, n3, e3⟩ := m_me b2' hw
      refine ⟨(odC S N w z (i + 1), cst s2 a3 n3), ⟨rfl, ⟨fun y y1 y2 y3 => ?_, ?_⟩, ?_, ?_, fun h hh => ?_⟩, ?_⟩
      · dsimp only
        rw [cst_ne (fun e => y1 (by rw [e]; unfold scr; omega)) y2, f2 y y3, f1.1 y y2 (fun e => y1 (by rw [e]; unfold scr; omega)) (fun e => y1 (by rw [e]; unfold scr; omega))]
        exact hf.1 y y1 y2 y3
      · dsimp only
        rw [cst_k (by decide), f2 284 (by decide), f1.2 8 (by decide)]; exact hf.2
      · dsimp only
        rw [cst_ne (by decide) (by decide), r2]; exact like_ov hN R.2.2.1 _
      · dsimp only
        rw [cst_ne (by decide) (by decide)]; exact b2'
      · dsimp only
        rw [cst_ne (by decide) (by decide), cst_ne (by decide) (by decide), f2 298 (by decide), f2 299 (by decide), f1.1 298 (by decide) (by decide) (by decide), f1.1 299 (by decide) (by decide) (by decide)]
        exact hk h hh
      · simp (disch := omega) only [L_X9_odd_91, le_f, if_false, e1, Option.bind_some]
        rw [show (0 : Int32) = Int32.ofNat 0 from rfl, e2]
        unfold B_X9_odd_157
        rw [e3, Option.bind_some, r2]
        rw [show odC S N w z (i + 1) = if me (wrS (ovV S (z + Int32.ofNat i)) S N) N w < me S N w then odC S N w z i else odC S N w z i + 1 from rfl, o_succ, Int32.add_zero]
        dsimp only
        split <;> rfl
  · rintro m i s hi ⟨hf, h5, hk⟩
    left
    have h30 : i < 30 := by omega
    have en : mI s 285 1192 = Int32.ofNat N := by rw [h5]; exact R.2.1
    have g10' : ∀ v, f_X9_get (Int32.ofNat i) 10 (sI s 298 i v) = some (S (12 * i + 10)) := fun v => by rw [g10 h30, mI_sI_ne (by decide), h5]
    refine ⟨sI (sI s 298 i (S (12 * i + 9))) 299 i (S (12 * i + 10)), ⟨⟨fun y y1 y2 y3 => ?_, ?_⟩, ?_, fun h hh => ?_⟩, ?_⟩
    · rw [mI_sI_ne (fun e => y1 (by rw [e]; unfold scr; omega)), mI_sI_ne (fun e => y1 (by rw [e]; unfold scr; omega))]; exact hf.1 y y1 y2 y3
    · rw [mI_sI_ne (by decide), mI_sI_ne (by decide)]; exact hf.2
    · rw [mI_sI_ne (by decide), mI_sI_ne (by decide)]; exact h5
    · by_cases e : h = i
      · subst e
        refine ⟨by rw [mI_sI_ne (by decide), mI_sI_eq], mI_sI_eq⟩
      · obtain ⟨k1, k2⟩ := hk h (by omega)
        refine ⟨by rw [mI_sI_ne (by decide), mI_sI_k e]; exact k1, by rw [mI_sI_k e, mI_sI_ne (by decide)]; exact k2⟩
    · simp (disch := omega) only [L_X9_odd_36, en, le_f, if_false, g9 h30, h5, Option.bind_some, ↓gd_r, o_clamp, g10', o_succ]
theorem op_odd (I : Inv M) (x1 x2 x3 : Int32) : ∃ r M1 M2, f_X8_odd x1 x2 x3 M = some (r, M1) ∧ f_X9_odd x1 x2 x3 M1 = some (r, M2) ∧ Inv M2 := by
  obtain ⟨N, K, R, W⟩ := I.1
  have hN := R.1.1.1
  unfold f_X8_odd f_X9_odd
  rw [in_w x1 0 4 0 4 rfl rfl, in_w x2 1 50 1 50 rfl rfl]
  by_cases q1 : f_X8_within x1 0 4 = 0
  · rw [if_pos q1]
    exact ⟨_, M, M, rfl, by rw [if_pos q1], I⟩
  by_cases q2 : f_X8_within x2 1 50 = 0
  · rw [if_neg q1, if_pos q2]
    exact ⟨_, M, M, rfl, by rw [if_neg q1, if_pos q2], I⟩
  obtain ⟨w, hw, rfl⟩ := wi_o (n := 5) q1 (by decide)
  have w2 := wi_n q2
  rw [show (1 : Int32).toInt = 1 from rfl, show (50 : Int32).toInt = 50 from rfl] at w2
  obtain ⟨n, hn, rfl⟩ := of_in (x := x2) (n := 51) (by omega) (by omega)
  obtain ⟨a, e1⟩ := c_me R.1 (by decide) hw
  have s1 : Sm M (sR M (1 + 22) a) := sm_sR a (by unfold scr; omega) (by decide)
  have R1 : RC (sR M (1 + 22) a) 1 (mI M 285) N K := by
    have := rc_sm R s1
    rw [sm_285 s1] at this
    exact this
  obtain ⟨M1, e2, f2, r2⟩ := copy_t (a0 := 169) R1 (by omega)
  have g2 : ∀ y, ¬ scr y → mI M1 y = mI M y := fun y hy => by
    rw [f2 y (by unfold scr at hy; omega), mI_sR_ne _ _ (fun e => hy (by rw [e]; unfold scr; omega))]
  obtain ⟨M2, e3, f3⟩ := c_odd R hw (n := n) (by omega) x3 M1 r2 g2
  have m5 : mI M2 285 = mI M 285 := f3 285 (by unfold scr; omega)
  obtain ⟨b, nb', e4⟩ := m_me (B := M2) (N := N) (by rw [m5]; exact R.1.1) hw
  obtain ⟨M3, e5, f5, g5⟩ := m_odd (B := M2) (N := N) (by rw [m5]; exact R.1.1) hw (n := n) (by omega) x3 (cst M2 b nb') ⟨fun y y1 y2 y3 => cst_ne (fun e => y1 (by rw [e]; unfold scr; omega)) y2, cst_k (by decide)⟩ (cst_ne (by decide) (by decide))
  rw [m5] at e4 e5 g5
  rw [if_neg q1, if_neg q2, e1, Option.bind_some]
  dsimp only
  rw [e2, Option.bind_some, e3]
  refine ⟨_, M2, M3, rfl, ?_, ?_⟩
  · rw [if_neg q1, if_neg q2, e4, Option.bind_some]
    exact e5
  · refine inv_sm I ⟨fun y hy h4 => ?_, ?_⟩
    · by_cases e : y = 285
      · rw [e, g5]
      · rw [f5.1 y hy h4 e]; exact f3 y hy
    · rw [f5.2, f3 284 (by unfold scr; omega)]
end
