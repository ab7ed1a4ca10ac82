/-! the cells of the system behind its constructors: 301 of them -/
def K0 : List (Nat × Nat) := [(8, 8), (0, 12), (13, 30), (10, 10), (11, 4), (10, 4), (10, 4), (15, 10), (10, 80), (10, 80), (10, 80), (10, 80), (10, 80), (10, 80), (10, 80), (10, 80), (10, 80), (10, 80), (10, 10), (3, 11), (11, 9), (11, 9), (11, 9), (10, 10), (10, 30), (1, 12), (5, 2), (1, 12), (5, 2), (1, 12), (5, 2), (1, 12), (5, 2), (1, 12), (5, 2), (1, 12), (5, 2), (1, 12), (5, 2), (1, 12), (5, 2), (1, 12), (5, 2), (1, 12), (5, 2), (1, 12), (5, 2), (1, 12), (5, 2), (1, 12), (5, 2), (1, 12), (5, 2), (1, 12), (5, 2), (1, 12), (5, 2), (1, 12), (5, 2), (1, 12), (5, 2), (1, 12), (5, 2), (1, 12), (5, 2), (1, 12), (5, 2), (1, 12), (5, 2), (1, 12), (5, 2), (1, 12), (5, 2), (1, 12), (5, 2), (1, 12), (5, 2), (1, 12), (5, 2), (1, 12), (5, 2), (1, 12), (5, 2), (1, 12), (5, 2), (0, 12), (13, 30), (10, 10), (11, 4), (10, 4), (10, 4), (15, 10), (10, 80), (10, 80), (10, 80), (10, 80), (10, 80), (10, 80), (10, 80), (10, 80), (10, 80), (10, 80), (10, 10), (3, 11), (11, 9), (11, 9), (11, 9), (10, 10), (10, 30), (1, 12), (5, 2), (1, 12), (5, 2), (1, 12), (5, 2), (1, 12), (5, 2), (1, 12), (5, 2), (1, 12), (5, 2), (1, 12), (5, 2), (1, 12), (5, 2), (1, 12), (5, 2), (1, 12), (5, 2), (1, 12), (5, 2), (1, 12), (5, 2), (1, 12), (5, 2), (1, 12), (5, 2), (1, 12), (5, 2), (1, 12), (5, 2), (1, 12), (5, 2), (1, 12), (5, 2), (1, 12), (5, 2), (1, 12), (5, 2), (1, 12), (5, 2), (1, 12), (5, 2), (1, 12), (5, 2), (1, 12), (5, 2), (1, 12), (5, 2), (1, 12), (5, 2), (1, 12), (5, 2), (1, 12), (5, 2), (1, 12), (5, 2), (1, 12), (5, 2), (0, 12), (13, 30), (10, 10), (11, 4), (10, 4), (10, 4), (15, 10), (10, 80), (10, 80), (10, 80), (10, 80), (10, 80), (10, 80), (10, 80), (10, 80), (10, 80), (10, 80), (10, 10), (3, 11), (11, 9), (11, 9), (11, 9), (10, 10), (10, 30), (1, 12), (5, 2), (1, 12), (5, 2), (1, 12), (5, 2), (1, 12), (5, 2), (1, 12), (5, 2), (1, 12), (5, 2), (1, 12), (5, 2), (1, 12), (5, 2), (1, 12), (5, 2), (1, 12), (5, 2), (1, 12), (5, 2), (1, 12), (5, 2), (1, 12), (5, 2), (1, 12), (5, 2), (1, 12), (5, 2), (1, 12), (5, 2), (1, 12), (5, 2), (1, 12), (5, 2), (1, 12), (5, 2), (1, 12), (5, 2), (1, 12), (5, 2), (1, 12), (5, 2), (1, 12), (5, 2), (1, 12), (5, 2), (1, 12), (5, 2), (1, 12), (5, 2), (1, 12), (5, 2), (1, 12), (5, 2), (1, 12), (5, 2), (1, 12), (5, 2), (14, 8), (7, 5), (10, 30), (4, 2), (10, 301), (10, 301), (2, 5), (6, 7), (5, 2), (10, 80), (6, 7), (5, 2), (10, 80), (6, 7), (5, 2), (10, 80), (6, 7), (5, 2), (10, 80), (6, 7), (5, 2), (10, 80), (6, 7), (5, 2), (10, 80), (6, 7), (5, 2), (10, 80), (6, 7), (5, 2), (10, 80), (9, 28), (10, 1194), (10, 1194), (10, 8), (10, 8), (10, 8), (10, 640), (10, 8), (10, 8), (10, 10), (10, 30), (10, 9331), (10, 30), (10, 30), (10, 30), (10, 30), (12, 1)]
def PT : List (List (Option Nat)) := [[some 1, some 85, some 169, none, some 253, some 254, some 256, some 259], [some 2, none, some 3, some 4, some 5, some 6, some 7, some 18, none, some 19, some 23, some 24], [some 25, some 27, some 29, some 31, some 33, some 35, some 37, some 39, some 41, some 43, some 45, some 47, some 49, some 51, some 53, some 55, some 57, some 59, some 61, some 63, some 65, some 67, some 69, some 71, some 73, some 75, some 77, some 79, some 81, some 83], [], [], [], [], [some 8, some 9, some 10, some 11, some 12, some 13, some 14, some 15, some 16, some 17], [], [], [], [], [], [], [], [], [], [], [], [some 20, some 21, some 22], [], [], [], [], [], [some 26], [], [some 28], [], [some 30], [], [some 32], [], [some 34], [], [some 36], [], [some 38], [], [some 40], [], [some 42], [], [some 44], [], [some 46], [], [some 48], [], [some 50], [], [some 52], [], [some 54], [], [some 56], [], [some 58], [], [some 60], [], [some 62], [], [some 64], [], [some 66], [], [some 68], [], [some 70], [], [some 72], [], [some 74], [], [some 76], [], [some 78], [], [some 80], [], [some 82], [], [some 84], [], [some 86, none, some 87, some 88, some 89, some 90, some 91, some 102, none, some 103, some 107, some 108], [some 109, some 111, some 113, some 115, some 117, some 119, some 121, some 123, some 125, some 127, some 129, some 131, some 133, some 135, some 137, some 139, some 141, some 143, some 145, some 147, some 149, some 151, some 153, some 155, some 157, some 159, some 161, some 163, some 165, some 167], [], [], [], [], [some 92, some 93, some 94, some 95, some 96, some 97, some 98, some 99, some 100, some 101], [], [], [], [], [], [], [], [], [], [], [], [some 104, some 105, some 106], [], [], [], [], [], [some 110], [], [some 112], [], [some 114], [], [some 116], [], [some 118], [], [some 120], [], [some 122], [], [some 124], [], [some 126], [], [some 128], [], [some 130], [], [some 132], [], [some 134], [], [some 136], [], [some 138], [], [some 140], [], [some 142], [], [some 144], [], [some 146], [], [some 148], [], [some 150], [], [some 152], [], [some 154], [], [some 156], [], [some 158], [], [some 160], [], [some 162], [], [some 164], [], [some 166], [], [some 168], [], [some 170, none, some 171, some 172, some 173, some 174, some 175, some 186, none, some 187, some 191, some 192], [some 193, some 195, some 197, some 199, some 201, some 203, some 205, some 207, some 209, some 211, some 213, some 215, some 217, some 219, some 221, some 223, some 225, some 227, some 229, some 231, some 233, some 235, some 237, some 239, some 241, some 243, some 245, some 247, some 249, some 251], [], [], [], [], [some 176, some 177, some 178, some 179, some 180, some 181, some 182, some 183, some 184, some 185], [], [], [], [], [], [], [], [], [], [], [], [some 188, some 189, some 190], [], [], [], [], [], [some 194], [], [some 196], [], [some 198], [], [some 200], [], [some 202], [], [some 204], [], [some 206], [], [some 208], [], [some 210], [], [some 212], [], [some 214], [], [some 216], [], [some 218], [], [some 220], [], [some 222], [], [some 224], [], [some 226], [], [some 228], [], [some 230], [], [some 232], [], [some 234], [], [some 236], [], [some 238], [], [some 240], [], [some 242], [], [some 244], [], [some 246], [], [some 248], [], [some 250], [], [some 252], [], [some 260, some 263, some 266, some 269, some 272, some 275, some 278, some 281], [some 255], [], [some 257, some 258], [], [], [], [none, some 261, none, none, none, none, some 262], [], [], [none, some 264, none, none, none, none, some 265], [], [], [none, some 267, none, none, none, none, some 268], [], [], [none, some 270, none, none, none, none, some 271], [], [], [none, some 273, none, none, none, none, some 274], [], [], [none, some 276, none, none, none, none, some 277], [], [], [none, some 279, none, none, none, none, some 280], [], [], [none, some 282, none, none, none, none, some 283], [], [], [some 285, some 286, some 287, some 288, some 289, some 290, some 291, some 292, none, none, some 293, none, some 294, none, none, some 295, none, some 296, some 297, some 298, some 299, none, none, none, none, none, some 290], [], [], [], [], [], [], [], [], [], [], [], [], [], [], [], []]
def P0 (a k : Nat) : Option Nat := (PT.getD a []).getD k none
/-- the shape stands: the kinds, and where references go; only the reference's own field 'text' moves, between two rows -/
def St (M : Mem) : Prop := mK M = K0 ∧ (∀ a, a < 301 → ∀ k, k < 30 → (a = 284 ∧ k = 26) ∨ mP M a k = P0 a k) ∧ (mP M 284 26 = some 290 ∨ mP M 284 26 = some 285)
theorem St.k {M : Mem} (h : St M) {a : Nat} {kd : Nat × Nat} (hk : K0[a]? = some kd) : (mK M)[a]? = some kd := by rw [h.1]; exact hk
theorem K0_lt {a : Nat} {kd : Nat × Nat} (h : K0[a]? = some kd) : a < 301 := by
  have e : K0.length = 301 := by decide +kernel
  have h1 := (List.getElem?_eq_some_iff.mp h).1
  omega
theorem St.p {M : Mem} (h : St M) {a k r : Nat} (ha : a < 301) (hk : k < 30) (hp : P0 a k = some r) (hn : a = 284 → k ≠ 26) : mP M a k = some r := by
  rcases h.2.1 a ha k hk with ⟨h1, h2⟩ | h1
  · exact absurd h2 (hn h1)
  · rw [h1, hp]
theorem pt_0_0 {M : Mem} (h : St M) {a : Nat} (ha : K0[a]? = some (0, 12)) : mP M a 0 = some (a + 1) ∧ K0[a + 1]? = some (13, 30) := by
  have e : ∀ a, a < 301 → K0[a]? = some (0, 12) → P0 a 0 = some (a + 1) ∧ K0[a + 1]? = some (13, 30) ∧ a ≠ 284 := by decide +kernel
  obtain ⟨e1, e2, e3⟩ := e a (K0_lt ha) ha
  exact ⟨h.p (K0_lt ha) (by decide) e1 (fun q => absurd q e3), e2⟩
theorem pt_0_2 {M : Mem} (h : St M) {a : Nat} (ha : K0[a]? = some (0, 12)) : mP M a 2 = some (a + 2) ∧ K0[a + 2]? = some (10, 10) := by
  have e : ∀ a, a < 301 → K0[a]? = some (0, 12) → P0 a 2 = some (a + 2) ∧ K0[a + 2]? = some (10, 10) ∧ a ≠ 284 := by decide +kernel
  obtain ⟨e1, e2, e3⟩ := e a (K0_lt ha) ha
  exact ⟨h.p (K0_lt ha) (by decide) e1 (fun q => absurd q e3), e2⟩
theorem pt_0_3 {M : Mem} (h : St M) {a : Nat} (ha : K0[a]? = some (0, 12)) : mP M a 3 = some (a + 3) ∧ K0[a + 3]? = some (11, 4) := by
  have e : ∀ a, a < 301 → K0[a]? = some (0, 12) → P0 a 3 = some (a + 3) ∧ K0[a + 3]? = some (11, 4) ∧ a ≠ 284 := by decide +kernel
  obtain ⟨e1, e2, e3⟩ := e a (K0_lt ha) ha
  exact ⟨h.p (K0_lt ha) (by decide) e1 (fun q => absurd q e3), e2⟩
theorem pt_0_4 {M : Mem} (h : St M) {a : Nat} (ha : K0[a]? = some (0, 12)) : mP M a 4 = some (a + 4) ∧ K0[a + 4]? = some (10, 4) := by
  have e : ∀ a, a < 301 → K0[a]? = some (0, 12) → P0 a 4 = some (a + 4) ∧ K0[a + 4]? = some (10, 4) ∧ a ≠ 284 := by decide +kernel
  obtain ⟨e1, e2, e3⟩ := e a (K0_lt ha) ha
  exact ⟨h.p (K0_lt ha) (by decide) e1 (fun q => absurd q e3), e2⟩
theorem pt_0_5 {M : Mem} (h : St M) {a : Nat} (ha : K0[a]? = some (0, 12)) : mP M a 5 = some (a + 5) ∧ K0[a + 5]? = some (10, 4) := by
  have e : ∀ a, a < 301 → K0[a]? = some (0, 12) → P0 a 5 = some (a + 5) ∧ K0[a + 5]? = some (10, 4) ∧ a ≠ 284 := by decide +kernel
  obtain ⟨e1, e2, e3⟩ := e a (K0_lt ha) ha
  exact ⟨h.p (K0_lt ha) (by decide) e1 (fun q => absurd q e3), e2⟩
theorem pt_0_6 {M : Mem} (h : St M) {a : Nat} (ha : K0[a]? = some (0, 12)) : mP M a 6 = some (a + 6) ∧ K0[a + 6]? = some (15, 10) := by
  have e : ∀ a, a < 301 → K0[a]? = some (0, 12) → P0 a 6 = some (a + 6) ∧ K0[a + 6]? = some (15, 10) ∧ a ≠ 284 := by decide +kernel
  obtain ⟨e1, e2, e3⟩ := e a (K0_lt ha) ha
  exact ⟨h.p (K0_lt ha) (by decide) e1 (fun q => absurd q e3), e2⟩
theorem pt_0_7 {M : Mem} (h : St M) {a : Nat} (ha : K0[a]? = some (0, 12)) : mP M a 7 = some (a + 17) ∧ K0[a + 17]? = some (10, 10) := by
  have e : ∀ a, a < 301 → K0[a]? = some (0, 12) → P0 a 7 = some (a + 17) ∧ K0[a + 17]? = some (10, 10) ∧ a ≠ 284 := by decide +kernel
  obtain ⟨e1, e2, e3⟩ := e a (K0_lt ha) ha
  exact ⟨h.p (K0_lt ha) (by decide) e1 (fun q => absurd q e3), e2⟩
theorem pt_0_9 {M : Mem} (h : St M) {a : Nat} (ha : K0[a]? = some (0, 12)) : mP M a 9 = some (a + 18) ∧ K0[a + 18]? = some (3, 11) := by
  have e : ∀ a, a < 301 → K0[a]? = some (0, 12) → P0 a 9 = some (a + 18) ∧ K0[a + 18]? = some (3, 11) ∧ a ≠ 284 := by decide +kernel
  obtain ⟨e1, e2, e3⟩ := e a (K0_lt ha) ha
  exact ⟨h.p (K0_lt ha) (by decide) e1 (fun q => absurd q e3), e2⟩
theorem pt_0_10 {M : Mem} (h : St M) {a : Nat} (ha : K0[a]? = some (0, 12)) : mP M a 10 = some (a + 22) ∧ K0[a + 22]? = some (10, 10) := by
  have e : ∀ a, a < 301 → K0[a]? = some (0, 12) → P0 a 10 = some (a + 22) ∧ K0[a + 22]? = some (10, 10) ∧ a ≠ 284 := by decide +kernel
  obtain ⟨e1, e2, e3⟩ := e a (K0_lt ha) ha
  exact ⟨h.p (K0_lt ha) (by decide) e1 (fun q => absurd q e3), e2⟩
theorem pt_0_11 {M : Mem} (h : St M) {a : Nat} (ha : K0[a]? = some (0, 12)) : mP M a 11 = some (a + 23) ∧ K0[a + 23]? = some (10, 30) := by
  have e : ∀ a, a < 301 → K0[a]? = some (0, 12) → P0 a 11 = some (a + 23) ∧ K0[a + 23]? = some (10, 30) ∧ a ≠ 284 := by decide +kernel
  obtain ⟨e1, e2, e3⟩ := e a (K0_lt ha) ha
  exact ⟨h.p (K0_lt ha) (by decide) e1 (fun q => absurd q e3), e2⟩
theorem pt_1_0 {M : Mem} (h : St M) {a : Nat} (ha : K0[a]? = some (1, 12)) : mP M a 0 = some (a + 1) ∧ K0[a + 1]? = some (5, 2) := by
  have e : ∀ a, a < 301 → K0[a]? = some (1, 12) → P0 a 0 = some (a + 1) ∧ K0[a + 1]? = some (5, 2) ∧ a ≠ 284 := by decide +kernel
  obtain ⟨e1, e2, e3⟩ := e a (K0_lt ha) ha
  exact ⟨h.p (K0_lt ha) (by decide) e1 (fun q => absurd q e3), e2⟩
theorem pt_3_0 {M : Mem} (h : St M) {a : Nat} (ha : K0[a]? = some (3, 11)) : mP M a 0 = some (a + 1) ∧ K0[a + 1]? = some (11, 9) := by
  have e : ∀ a, a < 301 → K0[a]? = some (3, 11) → P0 a 0 = some (a + 1) ∧ K0[a + 1]? = some (11, 9) ∧ a ≠ 284 := by decide +kernel
  obtain ⟨e1, e2, e3⟩ := e a (K0_lt ha) ha
  exact ⟨h.p (K0_lt ha) (by decide) e1 (fun q => absurd q e3), e2⟩
theorem pt_3_1 {M : Mem} (h : St M) {a : Nat} (ha : K0[a]? = some (3, 11)) : mP M a 1 = some (a + 2) ∧ K0[a + 2]? = some (11, 9) := by
  have e : ∀ a, a < 301 → K0[a]? = some (3, 11) → P0 a 1 = some (a + 2) ∧ K0[a + 2]? = some (11, 9) ∧ a ≠ 284 := by decide +kernel
  obtain ⟨e1, e2, e3⟩ := e a (K0_lt ha) ha
  exact ⟨h.p (K0_lt ha) (by decide) e1 (fun q => absurd q e3), e2⟩
theorem pt_3_2 {M : Mem} (h : St M) {a : Nat} (ha : K0[a]? = some (3, 11)) : mP M a 2 = some (a + 3) ∧ K0[a + 3]? = some (11, 9) := by
  have e : ∀ a, a < 301 → K0[a]? = some (3, 11) → P0 a 2 = some (a + 3) ∧ K0[a + 3]? = some (11, 9) ∧ a ≠ 284 := by decide +kernel
  obtain ⟨e1, e2, e3⟩ := e a (K0_lt ha) ha
  exact ⟨h.p (K0_lt ha) (by decide) e1 (fun q => absurd q e3), e2⟩
theorem pt_6_1 {M : Mem} (h : St M) {a : Nat} (ha : K0[a]? = some (6, 7)) : mP M a 1 = some (a + 1) ∧ K0[a + 1]? = some (5, 2) := by
  have e : ∀ a, a < 301 → K0[a]? = some (6, 7) → P0 a 1 = some (a + 1) ∧ K0[a + 1]? = some (5, 2) ∧ a ≠ 284 := by decide +kernel
  obtain ⟨e1, e2, e3⟩ := e a (K0_lt ha) ha
  exact ⟨h.p (K0_lt ha) (by decide) e1 (fun q => absurd q e3), e2⟩
theorem pt_6_6 {M : Mem} (h : St M) {a : Nat} (ha : K0[a]? = some (6, 7)) : mP M a 6 = some (a + 2) ∧ K0[a + 2]? = some (10, 80) := by
  have e : ∀ a, a < 301 → K0[a]? = some (6, 7) → P0 a 6 = some (a + 2) ∧ K0[a + 2]? = some (10, 80) ∧ a ≠ 284 := by decide +kernel
  obtain ⟨e1, e2, e3⟩ := e a (K0_lt ha) ha
  exact ⟨h.p (K0_lt ha) (by decide) e1 (fun q => absurd q e3), e2⟩
theorem pa_13 {M : Mem} (h : St M) {a : Nat} (ha : K0[a]? = some (13, 30)) {j : Nat} (hj : j < 30) : mP M a j = some (a + 23 + 2 * j) ∧ K0[a + 23 + 2 * j]? = some (1, 12) := by
  have e : ∀ a, a < 301 → K0[a]? = some (13, 30) → a ≠ 284 ∧ ∀ j, j < 30 → P0 a j = some (a + 23 + 2 * j) ∧ K0[a + 23 + 2 * j]? = some (1, 12) := by decide +kernel
  obtain ⟨e3, e4⟩ := e a (K0_lt ha) ha
  obtain ⟨e1, e2⟩ := e4 j hj
  exact ⟨h.p (K0_lt ha) (by omega) e1 (fun q => absurd q e3), e2⟩
theorem pa_14 {M : Mem} (h : St M) {a : Nat} (ha : K0[a]? = some (14, 8)) {j : Nat} (hj : j < 8) : mP M a j = some (a + 7 + 3 * j) ∧ K0[a + 7 + 3 * j]? = some (6, 7) := by
  have e : ∀ a, a < 301 → K0[a]? = some (14, 8) → a ≠ 284 ∧ ∀ j, j < 8 → P0 a j = some (a + 7 + 3 * j) ∧ K0[a + 7 + 3 * j]? = some (6, 7) := by decide +kernel
  obtain ⟨e3, e4⟩ := e a (K0_lt ha) ha
  obtain ⟨e1, e2⟩ := e4 j hj
  exact ⟨h.p (K0_lt ha) (by omega) e1 (fun q => absurd q e3), e2⟩
theorem pa_15 {M : Mem} (h : St M) {a : Nat} (ha : K0[a]? = some (15, 10)) {j : Nat} (hj : j < 10) : mP M a j = some (a + 1 + 1 * j) ∧ K0[a + 1 + 1 * j]? = some (10, 80) := by
  have e : ∀ a, a < 301 → K0[a]? = some (15, 10) → a ≠ 284 ∧ ∀ j, j < 10 → P0 a j = some (a + 1 + 1 * j) ∧ K0[a + 1 + 1 * j]? = some (10, 80) := by decide +kernel
  obtain ⟨e3, e4⟩ := e a (K0_lt ha) ha
  obtain ⟨e1, e2⟩ := e4 j hj
  exact ⟨h.p (K0_lt ha) (by omega) e1 (fun q => absurd q e3), e2⟩
theorem pc_8_0 {M : Mem} (h : St M) : mP M 0 0 = some 1 := h.p (by decide) (by decide) (by decide +kernel) (by decide)
theorem pc_8_1 {M : Mem} (h : St M) : mP M 0 1 = some 85 := h.p (by decide) (by decide) (by decide +kernel) (by decide)
theorem pc_8_2 {M : Mem} (h : St M) : mP M 0 2 = some 169 := h.p (by decide) (by decide) (by decide +kernel) (by decide)
theorem pc_8_4 {M : Mem} (h : St M) : mP M 0 4 = some 253 := h.p (by decide) (by decide) (by decide +kernel) (by decide)
theorem pc_8_5 {M : Mem} (h : St M) : mP M 0 5 = some 254 := h.p (by decide) (by decide) (by decide +kernel) (by decide)
theorem pc_8_6 {M : Mem} (h : St M) : mP M 0 6 = some 256 := h.p (by decide) (by decide) (by decide +kernel) (by decide)
theorem pc_8_7 {M : Mem} (h : St M) : mP M 0 7 = some 259 := h.p (by decide) (by decide) (by decide +kernel) (by decide)
theorem pc_7_0 {M : Mem} (h : St M) : mP M 254 0 = some 255 := h.p (by decide) (by decide) (by decide +kernel) (by decide)
theorem pc_4_0 {M : Mem} (h : St M) : mP M 256 0 = some 257 := h.p (by decide) (by decide) (by decide +kernel) (by decide)
theorem pc_4_1 {M : Mem} (h : St M) : mP M 256 1 = some 258 := h.p (by decide) (by decide) (by decide +kernel) (by decide)
theorem pc_9_0 {M : Mem} (h : St M) : mP M 284 0 = some 285 := h.p (by decide) (by decide) (by decide +kernel) (by decide)
theorem pc_9_1 {M : Mem} (h : St M) : mP M 284 1 = some 286 := h.p (by decide) (by decide) (by decide +kernel) (by decide)
theorem pc_9_2 {M : Mem} (h : St M) : mP M 284 2 = some 287 := h.p (by decide) (by decide) (by decide +kernel) (by decide)
theorem pc_9_3 {M : Mem} (h : St M) : mP M 284 3 = some 288 := h.p (by decide) (by decide) (by decide +kernel) (by decide)
theorem pc_9_4 {M : Mem} (h : St M) : mP M 284 4 = some 289 := h.p (by decide) (by decide) (by decide +kernel) (by decide)
theorem pc_9_5 {M : Mem} (h : St M) : mP M 284 5 = some 290 := h.p (by decide) (by decide) (by decide +kernel) (by decide)
theorem pc_9_6 {M : Mem} (h : St M) : mP M 284 6 = some 291 := h.p (by decide) (by decide) (by decide +kernel) (by decide)
theorem pc_9_7 {M : Mem} (h : St M) : mP M 284 7 = some 292 := h.p (by decide) (by decide) (by decide +kernel) (by decide)
theorem pc_9_10 {M : Mem} (h : St M) : mP M 284 10 = some 293 := h.p (by decide) (by decide) (by decide +kernel) (by decide)
theorem pc_9_12 {M : Mem} (h : St M) : mP M 284 12 = some 294 := h.p (by decide) (by decide) (by decide +kernel) (by decide)
theorem pc_9_15 {M : Mem} (h : St M) : mP M 284 15 = some 295 := h.p (by decide) (by decide) (by decide +kernel) (by decide)
theorem pc_9_17 {M : Mem} (h : St M) : mP M 284 17 = some 296 := h.p (by decide) (by decide) (by decide +kernel) (by decide)
theorem pc_9_18 {M : Mem} (h : St M) : mP M 284 18 = some 297 := h.p (by decide) (by decide) (by decide +kernel) (by decide)
theorem pc_9_19 {M : Mem} (h : St M) : mP M 284 19 = some 298 := h.p (by decide) (by decide) (by decide +kernel) (by decide)
theorem pc_9_20 {M : Mem} (h : St M) : mP M 284 20 = some 299 := h.p (by decide) (by decide) (by decide +kernel) (by decide)
def tx (M : Mem) : Nat := (mP M 284 26).getD 0
theorem pt_x {M : Mem} (h : St M) : mP M 284 26 = some (tx M) := by
  rcases h.2.2 with e | e <;> simp [tx, e]
def ln (a : Nat) : Nat := (K0[a]?.map (fun q => q.2)).getD 0
theorem kd_x {M : Mem} (h : St M) : K0[tx M]? = some (10, ln (tx M)) := by
  rcases h.2.2 with e | e <;> simp only [tx, e, Option.getD_some] <;> decide +kernel
theorem ln_of {a t n : Nat} (h : K0[a]? = some (t, n)) : ln a = n := by simp [ln, h]
theorem St.t {M : Mem} (h : St M) {r : Nat} (hr : r = 290 ∨ r = 285) : St (sP M 284 26 r) := by
  refine ⟨h.1, fun a ha k hk => ?_, ?_⟩
  · by_cases e : a = 284 ∧ k = 26
    · exact Or.inl e
    · rcases h.2.1 a ha k hk with e1 | e1
      · exact absurd e1 e
      · exact Or.inr (by simp only [mP, sP, if_neg e]; exact e1)
  · rcases hr with rfl | rfl
    · exact Or.inl (by simp [mP, sP])
    · exact Or.inr (by simp [mP, sP])
theorem St.i {M : Mem} (h : St M) {a k : Nat} {v : Int32} : St (sI M a k v) := h
theorem St.j {M : Mem} (h : St M) {a k : Nat} {v : Int64} : St (sJ M a k v) := h
theorem St.c {M : Mem} (h : St M) {a s b d n : Nat} : St (cI M a s b d n) := h
theorem ck_0 : ClsOk 0 RX0 TX0 tyX0 12 := ⟨by decide, rfl, fun w hw => by
  have h : (wsX00.all fun w => decide (w ∈ TBL)) = true := by decide +kernel
  exact of_decide_eq_true (List.all_eq_true.mp h w hw), tyX0_ok, nmX0, by decide +kernel⟩
theorem ck_1 : ClsOk 1 RX1 TX1 tyX1 12 := ⟨by decide, rfl, fun w hw => by
  have h : (wsX10.all fun w => decide (w ∈ TBL)) = true := by decide +kernel
  exact of_decide_eq_true (List.all_eq_true.mp h w hw), tyX1_ok, nmX1, by decide +kernel⟩
theorem ck_2 : ClsOk 2 RX2 TX2 tyX2 5 := ⟨by decide, rfl, fun w hw => by
  have h : (wsX20.all fun w => decide (w ∈ TBL)) = true := by decide +kernel
  exact of_decide_eq_true (List.all_eq_true.mp h w hw), tyX2_ok, nmX2, by decide +kernel⟩
theorem ck_3 : ClsOk 3 RX3 TX3 tyX3 11 := ⟨by decide, rfl, fun w hw => by
  have h : (wsX30.all fun w => decide (w ∈ TBL)) = true := by decide +kernel
  exact of_decide_eq_true (List.all_eq_true.mp h w hw), tyX3_ok, nmX3, by decide +kernel⟩
theorem ck_4 : ClsOk 4 RX4 TX4 tyX4 2 := ⟨by decide, rfl, fun w hw => by
  have h : (wsX40.all fun w => decide (w ∈ TBL)) = true := by decide +kernel
  exact of_decide_eq_true (List.all_eq_true.mp h w hw), tyX4_ok, nmX4, by decide +kernel⟩
theorem ck_5 : ClsOk 5 RX5 TX5 tyX5 2 := ⟨by decide, rfl, fun w hw => by
  have h : (wsX50.all fun w => decide (w ∈ TBL)) = true := by decide +kernel
  exact of_decide_eq_true (List.all_eq_true.mp h w hw), tyX5_ok, nmX5, by decide +kernel⟩
theorem ck_6 : ClsOk 6 RX6 TX6 tyX6 7 := ⟨by decide, rfl, fun w hw => by
  have h : (wsX60.all fun w => decide (w ∈ TBL)) = true := by decide +kernel
  exact of_decide_eq_true (List.all_eq_true.mp h w hw), tyX6_ok, nmX6, by decide +kernel⟩
theorem ck_7 : ClsOk 7 RX7 TX7 tyX7 5 := ⟨by decide, rfl, fun w hw => by
  have h : (wsX70.all fun w => decide (w ∈ TBL)) = true := by decide +kernel
  exact of_decide_eq_true (List.all_eq_true.mp h w hw), tyX7_ok, nmX7, by decide +kernel⟩
theorem ck_8 : ClsOk 8 RX8 TX8 tyX8 8 := ⟨by decide, rfl, fun w hw => by
  have h : (wsX80.all fun w => decide (w ∈ TBL)) = true := by decide +kernel
  exact of_decide_eq_true (List.all_eq_true.mp h w hw), tyX8_ok, nmX8, by decide +kernel⟩
theorem ck_9 : ClsOk 9 RX9 TX9 tyX9 28 := ⟨by decide, rfl, fun w hw => by
  have h : (wsX90.all fun w => decide (w ∈ TBL)) = true := by decide +kernel
  exact of_decide_eq_true (List.all_eq_true.mp h w hw), tyX9_ok, nmX9, by decide +kernel⟩
/-- guards, and what a function's answer says of the machine's -/
abbrev inR (i : Int32) (n : Nat) : Prop := ¬ (i < 0 ∨ n ≤ i.toNatClampNeg)
def gd {α : Type} (c : Prop) [Decidable c] (x : Option α) : Option α := if c then x else none
theorem gd_e {α : Type} {c : Prop} [Decidable c] {x : Option α} {r : α} (h : gd c x = some r) : c ∧ x = some r := by
  unfold gd at h
  by_cases hc : c
  · rw [if_pos hc] at h; exact ⟨hc, h⟩
  · rw [if_neg hc] at h; cases h
theorem bd_e {α β : Type} {o : Option α} {f : α → Option β} {r : β} (h : o.bind f = some r) : ∃ v, o = some v ∧ f v = some r := Option.bind_eq_some_iff.mp h
def FU : Nat := 20000
def PostI (r : Int32) (M1 : Mem) : Option Value → Mem → Prop := fun v M' => v = some (.int r) ∧ M' = M1 ∧ St M1
def PostZ (r : Int32) (M1 : Mem) : Option Value → Mem → Prop := fun v M' => (v = some (.int r) ∧ M' = M1 ∧ St M1) ∧ (r = 0 ∨ r = 1)
def PostL (r : Int64) (M1 : Mem) : Option Value → Mem → Prop := fun v M' => v = some (.long r) ∧ M' = M1 ∧ St M1
def PostV (M1 : Mem) : Option Value → Mem → Prop := fun v M' => v = none ∧ M' = M1 ∧ St M1
theorem ti {x : Int32} (y : Int32) (k : Int) (hk : y.toInt = k) (h : ¬ x = y) : x.toInt ≠ k := fun e => h (Int32.toInt_inj.mp (e.trans hk.symm))
theorem inlt {i : Int32} {n : Nat} (h : inR i n) : i.toNatClampNeg < n := Nat.not_le.mp fun q => h (Or.inr q)
theorem G.cvI {Z : Sys} {X : Cx} {Y : My} {ex : Prop} {cells slots : Nat} {loc : List (Nat × Value)} {rest : List Value} {M : Mem} (pc : Nat) {ci N b : Nat} {C : String} {T : u_T} {ty : Nat → FieldType} {idx maxL : Nat} {y : MethodName} {cc : ByteArray} {ret : Option FieldType} {rm R : Room} {As stk : List Value} {r : Int32} {M1 : Mem} (hc : ClsOk ci C T ty N) (hb : (mK M)[b]? = some (ci, N)) (hct : Ct Z y cc maxL ret rm (.ref (zs Z + b) :: As) M ex (PostI r M1)) (hm : MOk y cc maxL ret As.length) (hv : VOk y) (hyC : y.cls = C) (w1 : Cond.methodLink Y.2.1 idx y ∈ TBL) (hR : xR X = R) (hr : RmOk R cells slots maxL rm) (hz : rm.cells = 0 ∧ rm.slots = 0) (hst : As.reverse ++ .ref (zs Z + b) :: rest = stk) (hrest : (rest.map fun v => v.category).sum ≤ 8) (hd : decode Y.1 pc = .ok (.invokevirtual idx, 3)) (kk : St M1 → G Z X Y ex cells slots (pc + 3) loc (.int r :: rest) M1) : G Z X Y ex cells slots pc loc stk M := G.callV pc hc hb hct hm hv hyC w1 hR hr hst hrest hd (fun v M' hp => by
  rw [hz.1, hz.2]
  show G Z X Y ex cells slots _ _ _ _
  obtain ⟨rfl, rfl, h1⟩ := hp
  exact kk h1)
theorem G.csI {Z : Sys} {X : Cx} {Y : My} {ex : Prop} {cells slots : Nat} {loc : List (Nat × Value)} {rest : List Value} {M : Mem} (pc : Nat) {idx maxL : Nat} {y : MethodName} {cc : ByteArray} {ret : Option FieldType} {rm R : Room} {As stk : List Value} {r : Int32} {M1 : Mem} (hct : Ct Z y cc maxL ret rm As M ex (PostI r M1)) (hm : MOk y cc maxL ret As.length) (hs : Cond.static y ∈ TBL) (w1 : Cond.methodLink Y.2.1 idx y ∈ TBL) (hR : xR X = R) (hr : RmOk R cells slots maxL rm) (hz : rm.cells = 0 ∧ rm.slots = 0) (hst : As.reverse ++ rest = stk) (hrest : (rest.map fun v => v.category).sum ≤ 8) (hd : decode Y.1 pc = .ok (.invokestatic idx, 3)) (kk : St M1 → G Z X Y ex cells slots (pc + 3) loc (.int r :: rest) M1) : G Z X Y ex cells slots pc loc stk M := G.callS pc hct hm hs w1 hR hr hst hrest hd (fun v M' hp => by
  rw [hz.1, hz.2]
  show G Z X Y ex cells slots _ _ _ _
  obtain ⟨rfl, rfl, h1⟩ := hp
  exact kk h1)
theorem G.cnI {Z : Sys} {X : Cx} {Y : My} {ex : Prop} {cells slots : Nat} {loc : List (Nat × Value)} {rest : List Value} {M : Mem} (pc : Nat) {host : String} {idx maxL : Nat} {y : MethodName} {cc : ByteArray} {ret : Option FieldType} {rm R : Room} {As stk : List Value} {r : Int32} {M1 : Mem} (hct : Ct Z y cc maxL ret rm As M ex (PostI r M1)) (hm : MOk y cc maxL ret As.length) (hs : Cond.static y ∈ TBL) (w1 : Cond.methodLinkNest Y.2.1 idx y host ∈ NST) (hR : xR X = R) (hr : RmOk R cells slots maxL rm) (hz : rm.cells = 0 ∧ rm.slots = 0) (hst : As.reverse ++ rest = stk) (hrest : (rest.map fun v => v.category).sum ≤ 8) (hd : decode Y.1 pc = .ok (.invokestatic idx, 3)) (kk : St M1 → G Z X Y ex cells slots (pc + 3) loc (.int r :: rest) M1) : G Z X Y ex cells slots pc loc stk M := G.callSN pc hct hm hs w1 hR hr hst hrest hd (fun v M' hp => by
  rw [hz.1, hz.2]
  show G Z X Y ex cells slots _ _ _ _
  obtain ⟨rfl, rfl, h1⟩ := hp
  exact kk h1)
theorem G.cvZ {Z : Sys} {X : Cx} {Y : My} {ex : Prop} {cells slots : Nat} {loc : List (Nat × Value)} {rest : List Value} {M : Mem} (pc : Nat) {ci N b : Nat} {C : String} {T : u_T} {ty : Nat → FieldType} {idx maxL : Nat} {y : MethodName} {cc : ByteArray} {ret : Option FieldType} {rm R : Room} {As stk : List Value} {r : Int32} {M1 : Mem} (hc : ClsOk ci C T ty N) (hb : (mK M)[b]? = some (ci, N)) (hct : Ct Z y cc maxL ret rm (.ref (zs Z + b) :: As) M ex (PostZ r M1)) (hm : MOk y cc maxL ret As.length) (hv : VOk y) (hyC : y.cls = C) (w1 : Cond.methodLink Y.2.1 idx y ∈ TBL) (hR : xR X = R) (hr : RmOk R cells slots maxL rm) (hz : rm.cells = 0 ∧ rm.slots = 0) (hst : As.reverse ++ .ref (zs Z + b) :: rest = stk) (hrest : (rest.map fun v => v.category).sum ≤ 8) (hd : decode Y.1 pc = .ok (.invokevirtual idx, 3)) (kk : St M1 → (r = 0 ∨ r = 1) → G Z X Y ex cells slots (pc + 3) loc (.int r :: rest) M1) : G Z X Y ex cells slots pc loc stk M := G.callV pc hc hb hct hm hv hyC w1 hR hr hst hrest hd (fun v M' hp => by
  rw [hz.1, hz.2]
  show G Z X Y ex cells slots _ _ _ _
  obtain ⟨⟨rfl, rfl, h1⟩, h2⟩ := hp
  exact kk h1 h2)
theorem G.csZ {Z : Sys} {X : Cx} {Y : My} {ex : Prop} {cells slots : Nat} {loc : List (Nat × Value)} {rest : List Value} {M : Mem} (pc : Nat) {idx maxL : Nat} {y : MethodName} {cc : ByteArray} {ret : Option FieldType} {rm R : Room} {As stk : List Value} {r : Int32} {M1 : Mem} (hct : Ct Z y cc maxL ret rm As M ex (PostZ r M1)) (hm : MOk y cc maxL ret As.length) (hs : Cond.static y ∈ TBL) (w1 : Cond.methodLink Y.2.1 idx y ∈ TBL) (hR : xR X = R) (hr : RmOk R cells slots maxL rm) (hz : rm.cells = 0 ∧ rm.slots = 0) (hst : As.reverse ++ rest = stk) (hrest : (rest.map fun v => v.category).sum ≤ 8) (hd : decode Y.1 pc = .ok (.invokestatic idx, 3)) (kk : St M1 → (r = 0 ∨ r = 1) → G Z X Y ex cells slots (pc + 3) loc (.int r :: rest) M1) : G Z X Y ex cells slots pc loc stk M := G.callS pc hct hm hs w1 hR hr hst hrest hd (fun v M' hp => by
  rw [hz.1, hz.2]
  show G Z X Y ex cells slots _ _ _ _
  obtain ⟨⟨rfl, rfl, h1⟩, h2⟩ := hp
  exact kk h1 h2)
theorem G.cnZ {Z : Sys} {X : Cx} {Y : My} {ex : Prop} {cells slots : Nat} {loc : List (Nat × Value)} {rest : List Value} {M : Mem} (pc : Nat) {host : String} {idx maxL : Nat} {y : MethodName} {cc : ByteArray} {ret : Option FieldType} {rm R : Room} {As stk : List Value} {r : Int32} {M1 : Mem} (hct : Ct Z y cc maxL ret rm As M ex (PostZ r M1)) (hm : MOk y cc maxL ret As.length) (hs : Cond.static y ∈ TBL) (w1 : Cond.methodLinkNest Y.2.1 idx y host ∈ NST) (hR : xR X = R) (hr : RmOk R cells slots maxL rm) (hz : rm.cells = 0 ∧ rm.slots = 0) (hst : As.reverse ++ rest = stk) (hrest : (rest.map fun v => v.category).sum ≤ 8) (hd : decode Y.1 pc = .ok (.invokestatic idx, 3)) (kk : St M1 → (r = 0 ∨ r = 1) → G Z X Y ex cells slots (pc + 3) loc (.int r :: rest) M1) : G Z X Y ex cells slots pc loc stk M := G.callSN pc hct hm hs w1 hR hr hst hrest hd (fun v M' hp => by
  rw [hz.1, hz.2]
  show G Z X Y ex cells slots _ _ _ _
  obtain ⟨⟨rfl, rfl, h1⟩, h2⟩ := hp
  exact kk h1 h2)
theorem G.cvL {Z : Sys} {X : Cx} {Y : My} {ex : Prop} {cells slots : Nat} {loc : List (Nat × Value)} {rest : List Value} {M : Mem} (pc : Nat) {ci N b : Nat} {C : String} {T : u_T} {ty : Nat → FieldType} {idx maxL : Nat} {y : MethodName} {cc : ByteArray} {ret : Option FieldType} {rm R : Room} {As stk : List Value} {r : Int64} {M1 : Mem} (hc : ClsOk ci C T ty N) (hb : (mK M)[b]? = some (ci, N)) (hct : Ct Z y cc maxL ret rm (.ref (zs Z + b) :: As) M ex (PostL r M1)) (hm : MOk y cc maxL ret As.length) (hv : VOk y) (hyC : y.cls = C) (w1 : Cond.methodLink Y.2.1 idx y ∈ TBL) (hR : xR X = R) (hr : RmOk R cells slots maxL rm) (hz : rm.cells = 0 ∧ rm.slots = 0) (hst : As.reverse ++ .ref (zs Z + b) :: rest = stk) (hrest : (rest.map fun v => v.category).sum ≤ 8) (hd : decode Y.1 pc = .ok (.invokevirtual idx, 3)) (kk : St M1 → G Z X Y ex cells slots (pc + 3) loc (.long r :: rest) M1) : G Z X Y ex cells slots pc loc stk M := G.callV pc hc hb hct hm hv hyC w1 hR hr hst hrest hd (fun v M' hp => by
  rw [hz.1, hz.2]
  show G Z X Y ex cells slots _ _ _ _
  obtain ⟨rfl, rfl, h1⟩ := hp
  exact kk h1)
theorem G.csL {Z : Sys} {X : Cx} {Y : My} {ex : Prop} {cells slots : Nat} {loc : List (Nat × Value)} {rest : List Value} {M : Mem} (pc : Nat) {idx maxL : Nat} {y : MethodName} {cc : ByteArray} {ret : Option FieldType} {rm R : Room} {As stk : List Value} {r : Int64} {M1 : Mem} (hct : Ct Z y cc maxL ret rm As M ex (PostL r M1)) (hm : MOk y cc maxL ret As.length) (hs : Cond.static y ∈ TBL) (w1 : Cond.methodLink Y.2.1 idx y ∈ TBL) (hR : xR X = R) (hr : RmOk R cells slots maxL rm) (hz : rm.cells = 0 ∧ rm.slots = 0) (hst : As.reverse ++ rest = stk) (hrest : (rest.map fun v => v.category).sum ≤ 8) (hd : decode Y.1 pc = .ok (.invokestatic idx, 3)) (kk : St M1 → G Z X Y ex cells slots (pc + 3) loc (.long r :: rest) M1) : G Z X Y ex cells slots pc loc stk M := G.callS pc hct hm hs w1 hR hr hst hrest hd (fun v M' hp => by
  rw [hz.1, hz.2]
  show G Z X Y ex cells slots _ _ _ _
  obtain ⟨rfl, rfl, h1⟩ := hp
  exact kk h1)
theorem G.cnL {Z : Sys} {X : Cx} {Y : My} {ex : Prop} {cells slots : Nat} {loc : List (Nat × Value)} {rest : List Value} {M : Mem} (pc : Nat) {host : String} {idx maxL : Nat} {y : MethodName} {cc : ByteArray} {ret : Option FieldType} {rm R : Room} {As stk : List Value} {r : Int64} {M1 : Mem} (hct : Ct Z y cc maxL ret rm As M ex (PostL r M1)) (hm : MOk y cc maxL ret As.length) (hs : Cond.static y ∈ TBL) (w1 : Cond.methodLinkNest Y.2.1 idx y host ∈ NST) (hR : xR X = R) (hr : RmOk R cells slots maxL rm) (hz : rm.cells = 0 ∧ rm.slots = 0) (hst : As.reverse ++ rest = stk) (hrest : (rest.map fun v => v.category).sum ≤ 8) (hd : decode Y.1 pc = .ok (.invokestatic idx, 3)) (kk : St M1 → G Z X Y ex cells slots (pc + 3) loc (.long r :: rest) M1) : G Z X Y ex cells slots pc loc stk M := G.callSN pc hct hm hs w1 hR hr hst hrest hd (fun v M' hp => by
  rw [hz.1, hz.2]
  show G Z X Y ex cells slots _ _ _ _
  obtain ⟨rfl, rfl, h1⟩ := hp
  exact kk h1)
theorem G.cvV {Z : Sys} {X : Cx} {Y : My} {ex : Prop} {cells slots : Nat} {loc : List (Nat × Value)} {rest : List Value} {M : Mem} (pc : Nat) {ci N b : Nat} {C : String} {T : u_T} {ty : Nat → FieldType} {idx maxL : Nat} {y : MethodName} {cc : ByteArray} {ret : Option FieldType} {rm R : Room} {As stk : List Value}  {M1 : Mem} (hc : ClsOk ci C T ty N) (hb : (mK M)[b]? = some (ci, N)) (hct : Ct Z y cc maxL ret rm (.ref (zs Z + b) :: As) M ex (PostV M1)) (hm : MOk y cc maxL ret As.length) (hv : VOk y) (hyC : y.cls = C) (w1 : Cond.methodLink Y.2.1 idx y ∈ TBL) (hR : xR X = R) (hr : RmOk R cells slots maxL rm) (hz : rm.cells = 0 ∧ rm.slots = 0) (hst : As.reverse ++ .ref (zs Z + b) :: rest = stk) (hrest : (rest.map fun v => v.category).sum ≤ 8) (hd : decode Y.1 pc = .ok (.invokevirtual idx, 3)) (kk : St M1 → G Z X Y ex cells slots (pc + 3) loc rest M1) : G Z X Y ex cells slots pc loc stk M := G.callV pc hc hb hct hm hv hyC w1 hR hr hst hrest hd (fun v M' hp => by
  rw [hz.1, hz.2]
  show G Z X Y ex cells slots _ _ _ _
  obtain ⟨rfl, rfl, h1⟩ := hp
  exact kk h1)
theorem G.csV {Z : Sys} {X : Cx} {Y : My} {ex : Prop} {cells slots : Nat} {loc : List (Nat × Value)} {rest : List Value} {M : Mem} (pc : Nat) {idx maxL : Nat} {y : MethodName} {cc : ByteArray} {ret : Option FieldType} {rm R : Room} {As stk : List Value}  {M1 : Mem} (hct : Ct Z y cc maxL ret rm As M ex (PostV M1)) (hm : MOk y cc maxL ret As.length) (hs : Cond.static y ∈ TBL) (w1 : Cond.methodLink Y.2.1 idx y ∈ TBL) (hR : xR X = R) (hr : RmOk R cells slots maxL rm) (hz : rm.cells = 0 ∧ rm.slots = 0) (hst : As.reverse ++ rest = stk) (hrest : (rest.map fun v => v.category).sum ≤ 8) (hd : decode Y.1 pc = .ok (.invokestatic idx, 3)) (kk : St M1 → G Z X Y ex cells slots (pc + 3) loc rest M1) : G Z X Y ex cells slots pc loc stk M := G.callS pc hct hm hs w1 hR hr hst hrest hd (fun v M' hp => by
  rw [hz.1, hz.2]
  show G Z X Y ex cells slots _ _ _ _
  obtain ⟨rfl, rfl, h1⟩ := hp
  exact kk h1)
theorem G.cnV {Z : Sys} {X : Cx} {Y : My} {ex : Prop} {cells slots : Nat} {loc : List (Nat × Value)} {rest : List Value} {M : Mem} (pc : Nat) {host : String} {idx maxL : Nat} {y : MethodName} {cc : ByteArray} {ret : Option FieldType} {rm R : Room} {As stk : List Value}  {M1 : Mem} (hct : Ct Z y cc maxL ret rm As M ex (PostV M1)) (hm : MOk y cc maxL ret As.length) (hs : Cond.static y ∈ TBL) (w1 : Cond.methodLinkNest Y.2.1 idx y host ∈ NST) (hR : xR X = R) (hr : RmOk R cells slots maxL rm) (hz : rm.cells = 0 ∧ rm.slots = 0) (hst : As.reverse ++ rest = stk) (hrest : (rest.map fun v => v.category).sum ≤ 8) (hd : decode Y.1 pc = .ok (.invokestatic idx, 3)) (kk : St M1 → G Z X Y ex cells slots (pc + 3) loc rest M1) : G Z X Y ex cells slots pc loc stk M := G.callSN pc hct hm hs w1 hR hr hst hrest hd (fun v M' hp => by
  rw [hz.1, hz.2]
  show G Z X Y ex cells slots _ _ _ _
  obtain ⟨rfl, rfl, h1⟩ := hp
  exact kk h1)
section RT
variable {Z : Sys} {X : Cx} {Y : My} {ex : Prop} {cells slots : Nat} {loc : List (Nat × Value)} {rest : List Value} {M : Mem}
theorem G.rI (pc : Nat) {r : Int32} (hq : RetOk Z X (some .int) ex (PostI r M) cells slots) (hd : decode Y.1 pc = .ok (.ireturn, 1)) (hs : St M) : G Z X Y ex cells slots pc loc [.int r] M := G.iret pc hq hd ⟨rfl, rfl, hs⟩
theorem G.rZ (pc : Nat) {r : Int32} (hq : RetOk Z X (some .boolean) ex (PostZ r M) cells slots) (hd : decode Y.1 pc = .ok (.ireturn, 1)) (hs : St M) (hz : r = 0 ∨ r = 1) : G Z X Y ex cells slots pc loc [.int r] M := G.zret pc hq hz hd ⟨⟨rfl, rfl, hs⟩, hz⟩
theorem G.rL (pc : Nat) {r : Int64} (hq : RetOk Z X (some .long) ex (PostL r M) cells slots) (hd : decode Y.1 pc = .ok (.lreturn, 1)) (hs : St M) : G Z X Y ex cells slots pc loc [.long r] M := G.lret pc hq hd ⟨rfl, rfl, hs⟩
theorem G.rV (pc : Nat) (hq : RetOk Z X none ex (PostV M) cells slots) (hd : decode Y.1 pc = .ok (.return_, 1)) (hs : St M) : G Z X Y ex cells slots pc loc [] M := G.vret pc hq hd ⟨rfl, rfl, hs⟩
theorem G.ia (pc j : Nat) {a n : Nat} {i : Int32} (hk : (mK M)[a]? = some (10, n)) (hin : inR i n) (hj : i.toNatClampNeg = j) (hd : decode Y.1 pc = .ok (.iaload, 1)) (kk : G Z X Y ex cells slots (pc + 1) loc (.int (mI M a j) :: rest) M) : G Z X Y ex cells slots pc loc (.int i :: .ref (zs Z + a) :: rest) M := by subst hj; exact G.iald pc hk hin hd kk
theorem G.za (pc j : Nat) {a n : Nat} {i : Int32} (hk : (mK M)[a]? = some (11, n)) (hin : inR i n) (hj : i.toNatClampNeg = j) (hd : decode Y.1 pc = .ok (.baload, 1)) (kk : G Z X Y ex cells slots (pc + 1) loc (.int (mI M a j) :: rest) M) : G Z X Y ex cells slots pc loc (.int i :: .ref (zs Z + a) :: rest) M := by subst hj; exact G.zald pc hk hin hd kk
theorem G.ist (pc j : Nat) {a n : Nat} {i x : Int32} (hk : (mK M)[a]? = some (10, n)) (hin : inR i n) (hj : i.toNatClampNeg = j) (hd : decode Y.1 pc = .ok (.iastore, 1)) (kk : G Z X Y ex cells slots (pc + 1) loc rest (sI M a j x)) : G Z X Y ex cells slots pc loc (.int x :: .int i :: .ref (zs Z + a) :: rest) M := by subst hj; exact G.iast pc hk hin hd kk
theorem G.zt (pc j : Nat) (w : Int32) {a n : Nat} {i x : Int32} (hk : (mK M)[a]? = some (11, n)) (hin : inR i n) (hj : i.toNatClampNeg = j) (hw : vp_nar .boolean x = w) (hd : decode Y.1 pc = .ok (.bastore, 1)) (kk : G Z X Y ex cells slots (pc + 1) loc rest (sI M a j w)) : G Z X Y ex cells slots pc loc (.int x :: .int i :: .ref (zs Z + a) :: rest) M := by subst hj; subst hw; exact G.zast pc hk hin hd kk
theorem G.aa (pc j : Nat) {a n t : Nat} {ft : FieldType} {i : Int32} (r : Nat) (hk : (mK M)[a]? = some (t, n)) (ht : 13 ≤ t) (htt : (tysZ Z)[t - 10]? = some (zA Z t, ft)) (hft : ft.isReference = true) (hin : inR i n) (hj : i.toNatClampNeg = j) (hp : mP M a j = some r) (hd : decode Y.1 pc = .ok (.aaload, 1)) (kk : G Z X Y ex cells slots (pc + 1) loc (.ref (zs Z + r) :: rest) M) : G Z X Y ex cells slots pc loc (.int i :: .ref (zs Z + a) :: rest) M := by subst hj; exact G.aald pc r hk ht htt hft hin hp hd kk
end RT
