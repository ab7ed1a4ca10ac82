/-! the cells of the system behind its constructors: 301 of them -/
def K0 : List (Nat × Nat) := [(8, 8), (0, 12), (13, 30), (10, 10), (11, 4), (10, 4), (10, 4), (15, 10), (10, 80), (10, 80), (10, 80), (10, 80), (10, 80), (10, 80), (10, 80), (10, 80), (10, 80), (10, 80), (10, 10), (3, 11), (11, 9), (11, 9), (11, 9), (10, 10), (10, 30), (1, 12), (5, 2), (1, 12), (5, 2), (1, 12), (5, 2), (1, 12), (5, 2), (1, 12), (5, 2), (1, 12), (5, 2), (1, 12), (5, 2), (1, 12), (5, 2), (1, 12), (5, 2), (1, 12), (5, 2), (1, 12), (5, 2), (1, 12), (5, 2), (1, 12), (5, 2), (1, 12), (5, 2), (1, 12), (5, 2), (1, 12), (5, 2), (1, 12), (5, 2), (1, 12), (5, 2), (1, 12), (5, 2), (1, 12), (5, 2), (1, 12), (5, 2), (1, 12), (5, 2), (1, 12), (5, 2), (1, 12), (5, 2), (1, 12), (5, 2), (1, 12), (5, 2), (1, 12), (5, 2), (1, 12), (5, 2), (1, 12), (5, 2), (1, 12), (5, 2), (0, 12), (13, 30), (10, 10), (11, 4), (10, 4), (10, 4), (15, 10), (10, 80), (10, 80), (10, 80), (10, 80), (10, 80), (10, 80), (10, 80), (10, 80), (10, 80), (10, 80), (10, 10), (3, 11), (11, 9), (11, 9), (11, 9), (10, 10), (10, 30), (1, 12), (5, 2), (1, 12), (5, 2), (1, 12), (5, 2), (1, 12), (5, 2), (1, 12), (5, 2), (1, 12), (5, 2), (1, 12), (5, 2), (1, 12), (5, 2), (1, 12), (5, 2), (1, 12), (5, 2), (1, 12), (5, 2), (1, 12), (5, 2), (1, 12), (5, 2), (1, 12), (5, 2), (1, 12), (5, 2), (1, 12), (5, 2), (1, 12), (5, 2), (1, 12), (5, 2), (1, 12), (5, 2), (1, 12), (5, 2), (1, 12), (5, 2), (1, 12), (5, 2), (1, 12), (5, 2), (1, 12), (5, 2), (1, 12), (5, 2), (1, 12), (5, 2), (1, 12), (5, 2), (1, 12), (5, 2), (1, 12), (5, 2), (1, 12), (5, 2), (0, 12), (13, 30), (10, 10), (11, 4), (10, 4), (10, 4), (15, 10), (10, 80), (10, 80), (10, 80), (10, 80), (10, 80), (10, 80), (10, 80), (10, 80), (10, 80), (10, 80), (10, 10), (3, 11), (11, 9), (11, 9), (11, 9), (10, 10), (10, 30), (1, 12), (5, 2), (1, 12), (5, 2), (1, 12), (5, 2), (1, 12), (5, 2), (1, 12), (5, 2), (1, 12), (5, 2), (1, 12), (5, 2), (1, 12), (5, 2), (1, 12), (5, 2), (1, 12), (5, 2), (1, 12), (5, 2), (1, 12), (5, 2), (1, 12), (5, 2), (1, 12), (5, 2), (1, 12), (5, 2), (1, 12), (5, 2), (1, 12), (5, 2), (1, 12), (5, 2), (1, 12), (5, 2), (1, 12), (5, 2), (1, 12), (5, 2), (1, 12), (5, 2), (1, 12), (5, 2), (1, 12), (5, 2), (1, 12), (5, 2), (1, 12), (5, 2), (1, 12), (5, 2), (1, 12), (5, 2), (1, 12), (5, 2), (1, 12), (5, 2), (14, 8), (7, 5), (10, 30), (4, 2), (10, 301), (10, 301), (2, 5), (6, 7), (5, 2), (10, 80), (6, 7), (5, 2), (10, 80), (6, 7), (5, 2), (10, 80), (6, 7), (5, 2), (10, 80), (6, 7), (5, 2), (10, 80), (6, 7), (5, 2), (10, 80), (6, 7), (5, 2), (10, 80), (6, 7), (5, 2), (10, 80), (9, 28), (10, 1194), (10, 1194), (10, 8), (10, 8), (10, 8), (10, 640), (10, 8), (10, 8), (10, 10), (10, 30), (10, 9331), (10, 30), (10, 30), (10, 30), (10, 30), (12, 1)]
def PTL : List (Nat × Nat × Nat) := [(0, 0, 1), (0, 1, 85), (0, 2, 169), (0, 4, 253), (0, 5, 254), (0, 6, 256), (0, 7, 259), (1, 0, 2), (1, 2, 3), (1, 3, 4), (1, 4, 5), (1, 5, 6), (1, 6, 7), (1, 7, 18), (1, 9, 19), (1, 10, 23), (1, 11, 24), (2, 0, 25), (2, 1, 27), (2, 2, 29), (2, 3, 31), (2, 4, 33), (2, 5, 35), (2, 6, 37), (2, 7, 39), (2, 8, 41), (2, 9, 43), (2, 10, 45), (2, 11, 47), (2, 12, 49), (2, 13, 51), (2, 14, 53), (2, 15, 55), (2, 16, 57), (2, 17, 59), (2, 18, 61), (2, 19, 63), (2, 20, 65), (2, 21, 67), (2, 22, 69), (2, 23, 71), (2, 24, 73), (2, 25, 75), (2, 26, 77), (2, 27, 79), (2, 28, 81), (2, 29, 83), (7, 0, 8), (7, 1, 9), (7, 2, 10), (7, 3, 11), (7, 4, 12), (7, 5, 13), (7, 6, 14), (7, 7, 15), (7, 8, 16), (7, 9, 17), (19, 0, 20), (19, 1, 21), (19, 2, 22), (25, 0, 26), (27, 0, 28), (29, 0, 30), (31, 0, 32), (33, 0, 34), (35, 0, 36), (37, 0, 38), (39, 0, 40), (41, 0, 42), (43, 0, 44), (45, 0, 46), (47, 0, 48), (49, 0, 50), (51, 0, 52), (53, 0, 54), (55, 0, 56), (57, 0, 58), (59, 0, 60), (61, 0, 62), (63, 0, 64), (65, 0, 66), (67, 0, 68), (69, 0, 70), (71, 0, 72), (73, 0, 74), (75, 0, 76), (77, 0, 78), (79, 0, 80), (81, 0, 82), (83, 0, 84), (85, 0, 86), (85, 2, 87), (85, 3, 88), (85, 4, 89), (85, 5, 90), (85, 6, 91), (85, 7, 102), (85, 9, 103), (85, 10, 107), (85, 11, 108), (86, 0, 109), (86, 1, 111), (86, 2, 113), (86, 3, 115), (86, 4, 117), (86, 5, 119), (86, 6, 121), (86, 7, 123), (86, 8, 125), (86, 9, 127), (86, 10, 129), (86, 11, 131), (86, 12, 133), (86, 13, 135), (86, 14, 137), (86, 15, 139), (86, 16, 141), (86, 17, 143), (86, 18, 145), (86, 19, 147), (86, 20, 149), (86, 21, 151), (86, 22, 153), (86, 23, 155), (86, 24, 157), (86, 25, 159), (86, 26, 161), (86, 27, 163), (86, 28, 165), (86, 29, 167), (91, 0, 92), (91, 1, 93), (91, 2, 94), (91, 3, 95), (91, 4, 96), (91, 5, 97), (91, 6, 98), (91, 7, 99), (91, 8, 100), (91, 9, 101), (103, 0, 104), (103, 1, 105), (103, 2, 106), (109, 0, 110), (111, 0, 112), (113, 0, 114), (115, 0, 116), (117, 0, 118), (119, 0, 120), (121, 0, 122), (123, 0, 124), (125, 0, 126), (127, 0, 128), (129, 0, 130), (131, 0, 132), (133, 0, 134), (135, 0, 136), (137, 0, 138), (139, 0, 140), (141, 0, 142), (143, 0, 144), (145, 0, 146), (147, 0, 148), (149, 0, 150), (151, 0, 152), (153, 0, 154), (155, 0, 156), (157, 0, 158), (159, 0, 160), (161, 0, 162), (163, 0, 164), (165, 0, 166), (167, 0, 168), (169, 0, 170), (169, 2, 171), (169, 3, 172), (169, 4, 173), (169, 5, 174), (169, 6, 175), (169, 7, 186), (169, 9, 187), (169, 10, 191), (169, 11, 192), (170, 0, 193), (170, 1, 195), (170, 2, 197), (170, 3, 199), (170, 4, 201), (170, 5, 203), (170, 6, 205), (170, 7, 207), (170, 8, 209), (170, 9, 211), (170, 10, 213), (170, 11, 215), (170, 12, 217), (170, 13, 219), (170, 14, 221), (170, 15, 223), (170, 16, 225), (170, 17, 227), (170, 18, 229), (170, 19, 231), (170, 20, 233), (170, 21, 235), (170, 22, 237), (170, 23, 239), (170, 24, 241), (170, 25, 243), (170, 26, 245), (170, 27, 247), (170, 28, 249), (170, 29, 251), (175, 0, 176), (175, 1, 177), (175, 2, 178), (175, 3, 179), (175, 4, 180), (175, 5, 181), (175, 6, 182), (175, 7, 183), (175, 8, 184), (175, 9, 185), (187, 0, 188), (187, 1, 189), (187, 2, 190), (193, 0, 194), (195, 0, 196), (197, 0, 198), (199, 0, 200), (201, 0, 202), (203, 0, 204), (205, 0, 206), (207, 0, 208), (209, 0, 210), (211, 0, 212), (213, 0, 214), (215, 0, 216), (217, 0, 218), (219, 0, 220), (221, 0, 222), (223, 0, 224), (225, 0, 226), (227, 0, 228), (229, 0, 230), (231, 0, 232), (233, 0, 234), (235, 0, 236), (237, 0, 238), (239, 0, 240), (241, 0, 242), (243, 0, 244), (245, 0, 246), (247, 0, 248), (249, 0, 250), (251, 0, 252), (253, 0, 260), (253, 1, 263), (253, 2, 266), (253, 3, 269), (253, 4, 272), (253, 5, 275), (253, 6, 278), (253, 7, 281), (254, 0, 255), (256, 0, 257), (256, 1, 258), (260, 1, 261), (260, 6, 262), (263, 1, 264), (263, 6, 265), (266, 1, 267), (266, 6, 268), (269, 1, 270), (269, 6, 271), (272, 1, 273), (272, 6, 274), (275, 1, 276), (275, 6, 277), (278, 1, 279), (278, 6, 280), (281, 1, 282), (281, 6, 283), (284, 0, 285), (284, 1, 286), (284, 2, 287), (284, 3, 288), (284, 4, 289), (284, 5, 290), (284, 6, 291), (284, 7, 292), (284, 10, 293), (284, 12, 294), (284, 15, 295), (284, 17, 296), (284, 18, 297), (284, 19, 298), (284, 20, 299)]
/-- the shape stands: the kinds, and where references go; only the reference's own field 'text' moves, between two rows -/
def St (M : Mem) : Prop := mK M = K0 ∧ (∀ q ∈ PTL, mP M q.1 q.2.1 = some q.2.2) ∧ (mP M 284 26 = some 290 ∨ mP M 284 26 = some 285)
theorem St.k {M : Mem} (h : St M) {a : Nat} {kd : Nat × Nat} (hk : K0[a]? = some kd) : (mK M)[a]? = some kd := by rw [h.1]; exact hk
theorem K0_lt {a : Nat} {kd : Nat × Nat} (h : K0[a]? = some kd) : a < 301 := by
  have e : K0.length = 301 := by decide +kernel
  have h1 := (List.getElem?_eq_some_iff.mp h).1
  omega
theorem St.p {M : Mem} (h : St M) {a k r : Nat} (hp : (a, k, r) ∈ PTL) : mP M a k = some r := h.2.1 _ hp
def ptb (a k r : Nat) : Bool := PTL.any fun q => q.1 == a && (q.2.1 == k && q.2.2 == r)
theorem ptb_mem {a k r : Nat} (h : ptb a k r = true) : (a, k, r) ∈ PTL := by
  unfold ptb at h
  rw [List.any_eq_true] at h
  obtain ⟨q, hq, h2⟩ := h
  simp only [Bool.and_eq_true, beq_iff_eq] at h2
  obtain ⟨h3, h4, h5⟩ := h2
  obtain ⟨q1, q2, q3⟩ := q
  simp only at h3 h4 h5
  subst h3 h4 h5
  exact hq
theorem pt_0_0 {M : Mem} (h : St M) {a : Nat} (ha : K0[a]? = some (0, 12)) : mP M a 0 = some (a + 1) ∧ K0[a + 1]? = some (13, 30) := by
  have e : ∀ a, a < 301 → K0[a]? = some (0, 12) → ptb a 0 (a + 1) = true ∧ K0[a + 1]? = some (13, 30) := by decide +kernel
  obtain ⟨e1, e2⟩ := e a (K0_lt ha) ha
  exact ⟨h.p (ptb_mem e1), e2⟩
theorem pt_0_2 {M : Mem} (h : St M) {a : Nat} (ha : K0[a]? = some (0, 12)) : mP M a 2 = some (a + 2) ∧ K0[a + 2]? = some (10, 10) := by
  have e : ∀ a, a < 301 → K0[a]? = some (0, 12) → ptb a 2 (a + 2) = true ∧ K0[a + 2]? = some (10, 10) := by decide +kernel
  obtain ⟨e1, e2⟩ := e a (K0_lt ha) ha
  exact ⟨h.p (ptb_mem e1), e2⟩
theorem pt_0_3 {M : Mem} (h : St M) {a : Nat} (ha : K0[a]? = some (0, 12)) : mP M a 3 = some (a + 3) ∧ K0[a + 3]? = some (11, 4) := by
  have e : ∀ a, a < 301 → K0[a]? = some (0, 12) → ptb a 3 (a + 3) = true ∧ K0[a + 3]? = some (11, 4) := by decide +kernel
  obtain ⟨e1, e2⟩ := e a (K0_lt ha) ha
  exact ⟨h.p (ptb_mem e1), e2⟩
theorem pt_0_4 {M : Mem} (h : St M) {a : Nat} (ha : K0[a]? = some (0, 12)) : mP M a 4 = some (a + 4) ∧ K0[a + 4]? = some (10, 4) := by
  have e : ∀ a, a < 301 → K0[a]? = some (0, 12) → ptb a 4 (a + 4) = true ∧ K0[a + 4]? = some (10, 4) := by decide +kernel
  obtain ⟨e1, e2⟩ := e a (K0_lt ha) ha
  exact ⟨h.p (ptb_mem e1), e2⟩
theorem pt_0_5 {M : Mem} (h : St M) {a : Nat} (ha : K0[a]? = some (0, 12)) : mP M a 5 = some (a + 5) ∧ K0[a + 5]? = some (10, 4) := by
  have e : ∀ a, a < 301 → K0[a]? = some (0, 12) → ptb a 5 (a + 5) = true ∧ K0[a + 5]? = some (10, 4) := by decide +kernel
  obtain ⟨e1, e2⟩ := e a (K0_lt ha) ha
  exact ⟨h.p (ptb_mem e1), e2⟩
theorem pt_0_6 {M : Mem} (h : St M) {a : Nat} (ha : K0[a]? = some (0, 12)) : mP M a 6 = some (a + 6) ∧ K0[a + 6]? = some (15, 10) := by
  have e : ∀ a, a < 301 → K0[a]? = some (0, 12) → ptb a 6 (a + 6) = true ∧ K0[a + 6]? = some (15, 10) := by decide +kernel
  obtain ⟨e1, e2⟩ := e a (K0_lt ha) ha
  exact ⟨h.p (ptb_mem e1), e2⟩
theorem pt_0_7 {M : Mem} (h : St M) {a : Nat} (ha : K0[a]? = some (0, 12)) : mP M a 7 = some (a + 17) ∧ K0[a + 17]? = some (10, 10) := by
  have e : ∀ a, a < 301 → K0[a]? = some (0, 12) → ptb a 7 (a + 17) = true ∧ K0[a + 17]? = some (10, 10) := by decide +kernel
  obtain ⟨e1, e2⟩ := e a (K0_lt ha) ha
  exact ⟨h.p (ptb_mem e1), e2⟩
theorem pt_0_9 {M : Mem} (h : St M) {a : Nat} (ha : K0[a]? = some (0, 12)) : mP M a 9 = some (a + 18) ∧ K0[a + 18]? = some (3, 11) := by
  have e : ∀ a, a < 301 → K0[a]? = some (0, 12) → ptb a 9 (a + 18) = true ∧ K0[a + 18]? = some (3, 11) := by decide +kernel
  obtain ⟨e1, e2⟩ := e a (K0_lt ha) ha
  exact ⟨h.p (ptb_mem e1), e2⟩
theorem pt_0_10 {M : Mem} (h : St M) {a : Nat} (ha : K0[a]? = some (0, 12)) : mP M a 10 = some (a + 22) ∧ K0[a + 22]? = some (10, 10) := by
  have e : ∀ a, a < 301 → K0[a]? = some (0, 12) → ptb a 10 (a + 22) = true ∧ K0[a + 22]? = some (10, 10) := by decide +kernel
  obtain ⟨e1, e2⟩ := e a (K0_lt ha) ha
  exact ⟨h.p (ptb_mem e1), e2⟩
theorem pt_0_11 {M : Mem} (h : St M) {a : Nat} (ha : K0[a]? = some (0, 12)) : mP M a 11 = some (a + 23) ∧ K0[a + 23]? = some (10, 30) := by
  have e : ∀ a, a < 301 → K0[a]? = some (0, 12) → ptb a 11 (a + 23) = true ∧ K0[a + 23]? = some (10, 30) := by decide +kernel
  obtain ⟨e1, e2⟩ := e a (K0_lt ha) ha
  exact ⟨h.p (ptb_mem e1), e2⟩
theorem pt_1_0 {M : Mem} (h : St M) {a : Nat} (ha : K0[a]? = some (1, 12)) : mP M a 0 = some (a + 1) ∧ K0[a + 1]? = some (5, 2) := by
  have e : ∀ a, a < 301 → K0[a]? = some (1, 12) → ptb a 0 (a + 1) = true ∧ K0[a + 1]? = some (5, 2) := by decide +kernel
  obtain ⟨e1, e2⟩ := e a (K0_lt ha) ha
  exact ⟨h.p (ptb_mem e1), e2⟩
theorem pt_3_0 {M : Mem} (h : St M) {a : Nat} (ha : K0[a]? = some (3, 11)) : mP M a 0 = some (a + 1) ∧ K0[a + 1]? = some (11, 9) := by
  have e : ∀ a, a < 301 → K0[a]? = some (3, 11) → ptb a 0 (a + 1) = true ∧ K0[a + 1]? = some (11, 9) := by decide +kernel
  obtain ⟨e1, e2⟩ := e a (K0_lt ha) ha
  exact ⟨h.p (ptb_mem e1), e2⟩
theorem pt_3_1 {M : Mem} (h : St M) {a : Nat} (ha : K0[a]? = some (3, 11)) : mP M a 1 = some (a + 2) ∧ K0[a + 2]? = some (11, 9) := by
  have e : ∀ a, a < 301 → K0[a]? = some (3, 11) → ptb a 1 (a + 2) = true ∧ K0[a + 2]? = some (11, 9) := by decide +kernel
  obtain ⟨e1, e2⟩ := e a (K0_lt ha) ha
  exact ⟨h.p (ptb_mem e1), e2⟩
theorem pt_3_2 {M : Mem} (h : St M) {a : Nat} (ha : K0[a]? = some (3, 11)) : mP M a 2 = some (a + 3) ∧ K0[a + 3]? = some (11, 9) := by
  have e : ∀ a, a < 301 → K0[a]? = some (3, 11) → ptb a 2 (a + 3) = true ∧ K0[a + 3]? = some (11, 9) := by decide +kernel
  obtain ⟨e1, e2⟩ := e a (K0_lt ha) ha
  exact ⟨h.p (ptb_mem e1), e2⟩
theorem pt_6_1 {M : Mem} (h : St M) {a : Nat} (ha : K0[a]? = some (6, 7)) : mP M a 1 = some (a + 1) ∧ K0[a + 1]? = some (5, 2) := by
  have e : ∀ a, a < 301 → K0[a]? = some (6, 7) → ptb a 1 (a + 1) = true ∧ K0[a + 1]? = some (5, 2) := by decide +kernel
  obtain ⟨e1, e2⟩ := e a (K0_lt ha) ha
  exact ⟨h.p (ptb_mem e1), e2⟩
theorem pt_6_6 {M : Mem} (h : St M) {a : Nat} (ha : K0[a]? = some (6, 7)) : mP M a 6 = some (a + 2) ∧ K0[a + 2]? = some (10, 80) := by
  have e : ∀ a, a < 301 → K0[a]? = some (6, 7) → ptb a 6 (a + 2) = true ∧ K0[a + 2]? = some (10, 80) := by decide +kernel
  obtain ⟨e1, e2⟩ := e a (K0_lt ha) ha
  exact ⟨h.p (ptb_mem e1), e2⟩
theorem pa_13 {M : Mem} (h : St M) {a : Nat} (ha : K0[a]? = some (13, 30)) {j : Nat} (hj : j < 30) : mP M a j = some (a + 23 + 2 * j) ∧ K0[a + 23 + 2 * j]? = some (1, 12) := by
  have e : ∀ a, a < 301 → K0[a]? = some (13, 30) → ∀ j, j < 30 → ptb a j (a + 23 + 2 * j) = true ∧ K0[a + 23 + 2 * j]? = some (1, 12) := by decide +kernel
  obtain ⟨e1, e2⟩ := e a (K0_lt ha) ha j hj
  exact ⟨h.p (ptb_mem e1), e2⟩
theorem pa_14 {M : Mem} (h : St M) {a : Nat} (ha : K0[a]? = some (14, 8)) {j : Nat} (hj : j < 8) : mP M a j = some (a + 7 + 3 * j) ∧ K0[a + 7 + 3 * j]? = some (6, 7) := by
  have e : ∀ a, a < 301 → K0[a]? = some (14, 8) → ∀ j, j < 8 → ptb a j (a + 7 + 3 * j) = true ∧ K0[a + 7 + 3 * j]? = some (6, 7) := by decide +kernel
  obtain ⟨e1, e2⟩ := e a (K0_lt ha) ha j hj
  exact ⟨h.p (ptb_mem e1), e2⟩
theorem pa_15 {M : Mem} (h : St M) {a : Nat} (ha : K0[a]? = some (15, 10)) {j : Nat} (hj : j < 10) : mP M a j = some (a + 1 + 1 * j) ∧ K0[a + 1 + 1 * j]? = some (10, 80) := by
  have e : ∀ a, a < 301 → K0[a]? = some (15, 10) → ∀ j, j < 10 → ptb a j (a + 1 + 1 * j) = true ∧ K0[a + 1 + 1 * j]? = some (10, 80) := by decide +kernel
  obtain ⟨e1, e2⟩ := e a (K0_lt ha) ha j hj
  exact ⟨h.p (ptb_mem e1), e2⟩
theorem pc_8_0 {M : Mem} (h : St M) : mP M 0 0 = some 1 := h.p (by decide +kernel)
theorem pc_8_1 {M : Mem} (h : St M) : mP M 0 1 = some 85 := h.p (by decide +kernel)
theorem pc_8_2 {M : Mem} (h : St M) : mP M 0 2 = some 169 := h.p (by decide +kernel)
theorem pc_8_4 {M : Mem} (h : St M) : mP M 0 4 = some 253 := h.p (by decide +kernel)
theorem pc_8_5 {M : Mem} (h : St M) : mP M 0 5 = some 254 := h.p (by decide +kernel)
theorem pc_8_6 {M : Mem} (h : St M) : mP M 0 6 = some 256 := h.p (by decide +kernel)
theorem pc_8_7 {M : Mem} (h : St M) : mP M 0 7 = some 259 := h.p (by decide +kernel)
theorem pc_7_0 {M : Mem} (h : St M) : mP M 254 0 = some 255 := h.p (by decide +kernel)
theorem pc_4_0 {M : Mem} (h : St M) : mP M 256 0 = some 257 := h.p (by decide +kernel)
theorem pc_4_1 {M : Mem} (h : St M) : mP M 256 1 = some 258 := h.p (by decide +kernel)
theorem pc_9_0 {M : Mem} (h : St M) : mP M 284 0 = some 285 := h.p (by decide +kernel)
theorem pc_9_1 {M : Mem} (h : St M) : mP M 284 1 = some 286 := h.p (by decide +kernel)
theorem pc_9_2 {M : Mem} (h : St M) : mP M 284 2 = some 287 := h.p (by decide +kernel)
theorem pc_9_3 {M : Mem} (h : St M) : mP M 284 3 = some 288 := h.p (by decide +kernel)
theorem pc_9_4 {M : Mem} (h : St M) : mP M 284 4 = some 289 := h.p (by decide +kernel)
theorem pc_9_5 {M : Mem} (h : St M) : mP M 284 5 = some 290 := h.p (by decide +kernel)
theorem pc_9_6 {M : Mem} (h : St M) : mP M 284 6 = some 291 := h.p (by decide +kernel)
theorem pc_9_7 {M : Mem} (h : St M) : mP M 284 7 = some 292 := h.p (by decide +kernel)
theorem pc_9_10 {M : Mem} (h : St M) : mP M 284 10 = some 293 := h.p (by decide +kernel)
theorem pc_9_12 {M : Mem} (h : St M) : mP M 284 12 = some 294 := h.p (by decide +kernel)
theorem pc_9_15 {M : Mem} (h : St M) : mP M 284 15 = some 295 := h.p (by decide +kernel)
theorem pc_9_17 {M : Mem} (h : St M) : mP M 284 17 = some 296 := h.p (by decide +kernel)
theorem pc_9_18 {M : Mem} (h : St M) : mP M 284 18 = some 297 := h.p (by decide +kernel)
theorem pc_9_19 {M : Mem} (h : St M) : mP M 284 19 = some 298 := h.p (by decide +kernel)
theorem pc_9_20 {M : Mem} (h : St M) : mP M 284 20 = some 299 := h.p (by decide +kernel)
def tx (M : Mem) : Nat := (mP M 284 26).getD 0
theorem pt_x {M : Mem} (h : St M) : mP M 284 26 = some (tx M) := by
  rcases h.2.2 with e | e <;> simp [tx, e]
def ln (a : Nat) : Nat := (K0[a]?.map (fun q => q.2)).getD 0
theorem kd_x {M : Mem} (h : St M) : K0[tx M]? = some (10, ln (tx M)) := by
  rcases h.2.2 with e | e <;> simp only [tx, e, Option.getD_some] <;> decide +kernel
theorem ln_of {a t n : Nat} (h : K0[a]? = some (t, n)) : ln a = n := by simp [ln, h]
theorem St.t {M : Mem} (h : St M) {r : Nat} (hr : r = 290 ∨ r = 285) : St (sP M 284 26 r) := by
  refine ⟨h.1, fun q hq => ?_, ?_⟩
  · have e : ∀ q ∈ PTL, ¬ (q.1 = 284 ∧ q.2.1 = 26) := by decide +kernel
    simp only [mP, sP, if_neg (e q hq)]
    exact h.2.1 q hq
  · rcases hr with rfl | rfl
    · exact Or.inl (by simp [mP, sP])
    · exact Or.inr (by simp [mP, sP])
theorem St.i {M : Mem} (h : St M) {a k : Nat} {v : Int32} : St (sI M a k v) := h
theorem St.j {M : Mem} (h : St M) {a k : Nat} {v : Int64} : St (sJ M a k v) := h
theorem St.c {M : Mem} (h : St M) {a s b d n : Nat} : St (cI M a s b d n) := h
theorem ck_0 : ClsOk 0 RX0 TX0 tyX0 12 := ⟨by decide, rfl, fun w hw => by
  have h : (wsX00.all fun w => decide (w ∈ TBL)) = true := by decide +kernel
  exact of_decide_eq_true (List.all_eq_true.mp h w hw), tyX0_ok, nmX0, by decide +kernel⟩
theorem ck_1 : ClsOk 1 RX1 TX1 tyX1 12 := ⟨by decide, rfl, fun w hw => by
  have h : (wsX10.all fun w => decide (w ∈ TBL)) = true := by decide +kernel
  exact of_decide_eq_true (List.all_eq_true.mp h w hw), tyX1_ok, nmX1, by decide +kernel⟩
theorem ck_2 : ClsOk 2 RX2 TX2 tyX2 5 := ⟨by decide, rfl, fun w hw => by
  have h : (wsX20.all fun w => decide (w ∈ TBL)) = true := by decide +kernel
  exact of_decide_eq_true (List.all_eq_true.mp h w hw), tyX2_ok, nmX2, by decide +kernel⟩
theorem ck_3 : ClsOk 3 RX3 TX3 tyX3 11 := ⟨by decide, rfl, fun w hw => by
  have h : (wsX30.all fun w => decide (w ∈ TBL)) = true := by decide +kernel
  exact of_decide_eq_true (List.all_eq_true.mp h w hw), tyX3_ok, nmX3, by decide +kernel⟩
theorem ck_4 : ClsOk 4 RX4 TX4 tyX4 2 := ⟨by decide, rfl, fun w hw => by
  have h : (wsX40.all fun w => decide (w ∈ TBL)) = true := by decide +kernel
  exact of_decide_eq_true (List.all_eq_true.mp h w hw), tyX4_ok, nmX4, by decide +kernel⟩
theorem ck_5 : ClsOk 5 RX5 TX5 tyX5 2 := ⟨by decide, rfl, fun w hw => by
  have h : (wsX50.all fun w => decide (w ∈ TBL)) = true := by decide +kernel
  exact of_decide_eq_true (List.all_eq_true.mp h w hw), tyX5_ok, nmX5, by decide +kernel⟩
theorem ck_6 : ClsOk 6 RX6 TX6 tyX6 7 := ⟨by decide, rfl, fun w hw => by
  have h : (wsX60.all fun w => decide (w ∈ TBL)) = true := by decide +kernel
  exact of_decide_eq_true (List.all_eq_true.mp h w hw), tyX6_ok, nmX6, by decide +kernel⟩
theorem ck_7 : ClsOk 7 RX7 TX7 tyX7 5 := ⟨by decide, rfl, fun w hw => by
  have h : (wsX70.all fun w => decide (w ∈ TBL)) = true := by decide +kernel
  exact of_decide_eq_true (List.all_eq_true.mp h w hw), tyX7_ok, nmX7, by decide +kernel⟩
theorem ck_8 : ClsOk 8 RX8 TX8 tyX8 8 := ⟨by decide, rfl, fun w hw => by
  have h : (wsX80.all fun w => decide (w ∈ TBL)) = true := by decide +kernel
  exact of_decide_eq_true (List.all_eq_true.mp h w hw), tyX8_ok, nmX8, by decide +kernel⟩
theorem ck_9 : ClsOk 9 RX9 TX9 tyX9 28 := ⟨by decide, rfl, fun w hw => by
  have h : (wsX90.all fun w => decide (w ∈ TBL)) = true := by decide +kernel
  exact of_decide_eq_true (List.all_eq_true.mp h w hw), tyX9_ok, nmX9, by decide +kernel⟩
/-- guards, and what a function's answer says of the machine's -/
abbrev inR (i : Int32) (n : Nat) : Prop := ¬ (i < 0 ∨ n ≤ i.toNatClampNeg)
def gd {α : Type} (c : Prop) [Decidable c] (x : Option α) : Option α := if c then x else none
theorem gd_e {α : Type} {c : Prop} [Decidable c] {x : Option α} {r : α} (h : gd c x = some r) : c ∧ x = some r := by
  unfold gd at h
  by_cases hc : c
  · rw [if_pos hc] at h; exact ⟨hc, h⟩
  · rw [if_neg hc] at h; cases h
theorem bd_e {α β : Type} {o : Option α} {f : α → Option β} {r : β} (h : o.bind f = some r) : ∃ v, o = some v ∧ f v = some r := Option.bind_eq_some_iff.mp h
def FU : Nat := 20000
def PostI (r : Int32) (M1 : Mem) : Option Value → Mem → Prop := fun v M' => v = some (.int r) ∧ M' = M1 ∧ St M1
def PostZ (r : Int32) (M1 : Mem) : Option Value → Mem → Prop := fun v M' => (v = some (.int r) ∧ M' = M1 ∧ St M1) ∧ (r = 0 ∨ r = 1)
def PostL (r : Int64) (M1 : Mem) : Option Value → Mem → Prop := fun v M' => v = some (.long r) ∧ M' = M1 ∧ St M1
def PostV (M1 : Mem) : Option Value → Mem → Prop := fun v M' => v = none ∧ M' = M1 ∧ St M1
theorem ti {x : Int32} (y : Int32) (k : Int) (hk : y.toInt = k) (h : ¬ x = y) : x.toInt ≠ k := fun e => h (Int32.toInt_inj.mp (e.trans hk.symm))
theorem inlt {i : Int32} {n : Nat} (h : inR i n) : i.toNatClampNeg < n := Nat.not_le.mp fun q => h (Or.inr q)
theorem G.cvI {Z : Sys} {X : Cx} {Y : My} {ex : Prop} {cells slots : Nat} {loc : List (Nat × Value)} {rest : List Value} {M : Mem} (pc : Nat) {ci N b : Nat} {C : String} {T : u_T} {ty : Nat → FieldType} {idx maxL : Nat} {y : MethodName} {cc : ByteArray} {ret : Option FieldType} {rm R : Room} {As stk : List Value} {r : Int32} {M1 : Mem} (hc : ClsOk ci C T ty N) (hb : (mK M)[b]? = some (ci, N)) (hct : Ct Z y cc maxL ret rm (.ref (zs Z + b) :: As) M ex (PostI r M1)) (hm : MOk y cc maxL ret As.length) (hv : VOk y) (hyC : y.cls = C) (w1 : Cond.methodLink Y.2.1 idx y ∈ TBL) (hR : xR X = R) (hr : RmOk R cells slots maxL rm) (hz : rm.cells = 0 ∧ rm.slots = 0) (hst : As.reverse ++ .ref (zs Z + b) :: rest = stk) (hrest : (rest.map fun v => v.category).sum ≤ 8) (hd : decode Y.1 pc = .ok (.invokevirtual idx, 3)) (kk : St M1 → G Z X Y ex cells slots (pc + 3) loc (.int r :: rest) M1) : G Z X Y ex cells slots pc loc stk M := G.callV pc hc hb hct hm hv hyC w1 hR hr hst hrest hd (fun v M' hp => by
  rw [hz.1, hz.2]
  show G Z X Y ex cells slots _ _ _ _
  obtain ⟨rfl, rfl, h1⟩ := hp
  exact kk h1)
theorem G.csI {Z : Sys} {X : Cx} {Y : My} {ex : Prop} {cells slots : Nat} {loc : List (Nat × Value)} {rest : List Value} {M : Mem} (pc : Nat) {idx maxL : Nat} {y : MethodName} {cc : ByteArray} {ret : Option FieldType} {rm R : Room} {As stk : List Value} {r : Int32} {M1 : Mem} (hct : Ct Z y cc maxL ret rm As M ex (PostI r M1)) (hm : MOk y cc maxL ret As.length) (hs : Cond.static y ∈ TBL) (w1 : Cond.methodLink Y.2.1 idx y ∈ TBL) (hR : xR X = R) (hr : RmOk R cells slots maxL rm) (hz : rm.cells = 0 ∧ rm.slots = 0) (hst : As.reverse ++ rest = stk) (hrest : (rest.map fun v => v.category).sum ≤ 8) (hd : decode Y.1 pc = .ok (.invokestatic idx, 3)) (kk : St M1 → G Z X Y ex cells slots (pc + 3) loc (.int r :: rest) M1) : G Z X Y ex cells slots pc loc stk M := G.callS pc hct hm hs w1 hR hr hst hrest hd (fun v M' hp => by
  rw [hz.1, hz.2]
  show G Z X Y ex cells slots _ _ _ _
  obtain ⟨rfl, rfl, h1⟩ := hp
  exact kk h1)
theorem G.cnI {Z : Sys} {X : Cx} {Y : My} {ex : Prop} {cells slots : Nat} {loc : List (Nat × Value)} {rest : List Value} {M : Mem} (pc : Nat) {host : String} {idx maxL : Nat} {y : MethodName} {cc : ByteArray} {ret : Option FieldType} {rm R : Room} {As stk : List Value} {r : Int32} {M1 : Mem} (hct : Ct Z y cc maxL ret rm As M ex (PostI r M1)) (hm : MOk y cc maxL ret As.length) (hs : Cond.static y ∈ TBL) (w1 : Cond.methodLinkNest Y.2.1 idx y host ∈ NST) (hR : xR X = R) (hr : RmOk R cells slots maxL rm) (hz : rm.cells = 0 ∧ rm.slots = 0) (hst : As.reverse ++ rest = stk) (hrest : (rest.map fun v => v.category).sum ≤ 8) (hd : decode Y.1 pc = .ok (.invokestatic idx, 3)) (kk : St M1 → G Z X Y ex cells slots (pc + 3) loc (.int r :: rest) M1) : G Z X Y ex cells slots pc loc stk M := G.callSN pc hct hm hs w1 hR hr hst hrest hd (fun v M' hp => by
  rw [hz.1, hz.2]
  show G Z X Y ex cells slots _ _ _ _
  obtain ⟨rfl, rfl, h1⟩ := hp
  exact kk h1)
theorem G.cvZ {Z : Sys} {X : Cx} {Y : My} {ex : Prop} {cells slots : Nat} {loc : List (Nat × Value)} {rest : List Value} {M : Mem} (pc : Nat) {ci N b : Nat} {C : String} {T : u_T} {ty : Nat → FieldType} {idx maxL : Nat} {y : MethodName} {cc : ByteArray} {ret : Option FieldType} {rm R : Room} {As stk : List Value} {r : Int32} {M1 : Mem} (hc : ClsOk ci C T ty N) (hb : (mK M)[b]? = some (ci, N)) (hct : Ct Z y cc maxL ret rm (.ref (zs Z + b) :: As) M ex (PostZ r M1)) (hm : MOk y cc maxL ret As.length) (hv : VOk y) (hyC : y.cls = C) (w1 : Cond.methodLink Y.2.1 idx y ∈ TBL) (hR : xR X = R) (hr : RmOk R cells slots maxL rm) (hz : rm.cells = 0 ∧ rm.slots = 0) (hst : As.reverse ++ .ref (zs Z + b) :: rest = stk) (hrest : (rest.map fun v => v.category).sum ≤ 8) (hd : decode Y.1 pc = .ok (.invokevirtual idx, 3)) (kk : St M1 → (r = 0 ∨ r = 1) → G Z X Y ex cells slots (pc + 3) loc (.int r :: rest) M1) : G Z X Y ex cells slots pc loc stk M := G.callV pc hc hb hct hm hv hyC w1 hR hr hst hrest hd (fun v M' hp => by
  rw [hz.1, hz.2]
  show G Z X Y ex cells slots _ _ _ _
  obtain ⟨⟨rfl, rfl, h1⟩, h2⟩ := hp
  exact kk h1 h2)
theorem G.csZ {Z : Sys} {X : Cx} {Y : My} {ex : Prop} {cells slots : Nat} {loc : List (Nat × Value)} {rest : List Value} {M : Mem} (pc : Nat) {idx maxL : Nat} {y : MethodName} {cc : ByteArray} {ret : Option FieldType} {rm R : Room} {As stk : List Value} {r : Int32} {M1 : Mem} (hct : Ct Z y cc maxL ret rm As M ex (PostZ r M1)) (hm : MOk y cc maxL ret As.length) (hs : Cond.static y ∈ TBL) (w1 : Cond.methodLink Y.2.1 idx y ∈ TBL) (hR : xR X = R) (hr : RmOk R cells slots maxL rm) (hz : rm.cells = 0 ∧ rm.slots = 0) (hst : As.reverse ++ rest = stk) (hrest : (rest.map fun v => v.category).sum ≤ 8) (hd : decode Y.1 pc = .ok (.invokestatic idx, 3)) (kk : St M1 → (r = 0 ∨ r = 1) → G Z X Y ex cells slots (pc + 3) loc (.int r :: rest) M1) : G Z X Y ex cells slots pc loc stk M := G.callS pc hct hm hs w1 hR hr hst hrest hd (fun v M' hp => by
  rw [hz.1, hz.2]
  show G Z X Y ex cells slots _ _ _ _
  obtain ⟨⟨rfl, rfl, h1⟩, h2⟩ := hp
  exact kk h1 h2)
theorem G.cnZ {Z : Sys} {X : Cx} {Y : My} {ex : Prop} {cells slots : Nat} {loc : List (Nat × Value)} {rest : List Value} {M : Mem} (pc : Nat) {host : String} {idx maxL : Nat} {y : MethodName} {cc : ByteArray} {ret : Option FieldType} {rm R : Room} {As stk : List Value} {r : Int32} {M1 : Mem} (hct : Ct Z y cc maxL ret rm As M ex (PostZ r M1)) (hm : MOk y cc maxL ret As.length) (hs : Cond.static y ∈ TBL) (w1 : Cond.methodLinkNest Y.2.1 idx y host ∈ NST) (hR : xR X = R) (hr : RmOk R cells slots maxL rm) (hz : rm.cells = 0 ∧ rm.slots = 0) (hst : As.reverse ++ rest = stk) (hrest : (rest.map fun v => v.category).sum ≤ 8) (hd : decode Y.1 pc = .ok (.invokestatic idx, 3)) (kk : St M1 → (r = 0 ∨ r = 1) → G Z X Y ex cells slots (pc + 3) loc (.int r :: rest) M1) : G Z X Y ex cells slots pc loc stk M := G.callSN pc hct hm hs w1 hR hr hst hrest hd (fun v M' hp => by
  rw [hz.1, hz.2]
  show G Z X Y ex cells slots _ _ _ _
  obtain ⟨⟨rfl, rfl, h1⟩, h2⟩ := hp
  exact kk h1 h2)
theorem G.cvL {Z : Sys} {X : Cx} {Y : My} {ex : Prop} {cells slots : Nat} {loc : List (Nat × Value)} {rest : List Value} {M : Mem} (pc : Nat) {ci N b : Nat} {C : String} {T : u_T} {ty : Nat → FieldType} {idx maxL : Nat} {y : MethodName} {cc : ByteArray} {ret : Option FieldType} {rm R : Room} {As stk : List Value} {r : Int64} {M1 : Mem} (hc : ClsOk ci C T ty N) (hb : (mK M)[b]? = some (ci, N)) (hct : Ct Z y cc maxL ret rm (.ref (zs Z + b) :: As) M ex (PostL r M1)) (hm : MOk y cc maxL ret As.length) (hv : VOk y) (hyC : y.cls = C) (w1 : Cond.methodLink Y.2.1 idx y ∈ TBL) (hR : xR X = R) (hr : RmOk R cells slots maxL rm) (hz : rm.cells = 0 ∧ rm.slots = 0) (hst : As.reverse ++ .ref (zs Z + b) :: rest = stk) (hrest : (rest.map fun v => v.category).sum ≤ 8) (hd : decode Y.1 pc = .ok (.invokevirtual idx, 3)) (kk : St M1 → G Z X Y ex cells slots (pc + 3) loc (.long r :: rest) M1) : G Z X Y ex cells slots pc loc stk M := G.callV pc hc hb hct hm hv hyC w1 hR hr hst hrest hd (fun v M' hp => by
  rw [hz.1, hz.2]
  show G Z X Y ex cells slots _ _ _ _
  obtain ⟨rfl, rfl, h1⟩ := hp
  exact kk h1)
theorem G.csL {Z : Sys} {X : Cx} {Y : My} {ex : Prop} {cells slots : Nat} {loc : List (Nat × Value)} {rest : List Value} {M : Mem} (pc : Nat) {idx maxL : Nat} {y : MethodName} {cc : ByteArray} {ret : Option FieldType} {rm R : Room} {As stk : List Value} {r : Int64} {M1 : Mem} (hct : Ct Z y cc maxL ret rm As M ex (PostL r M1)) (hm : MOk y cc maxL ret As.length) (hs : Cond.static y ∈ TBL) (w1 : Cond.methodLink Y.2.1 idx y ∈ TBL) (hR : xR X = R) (hr : RmOk R cells slots maxL rm) (hz : rm.cells = 0 ∧ rm.slots = 0) (hst : As.reverse ++ rest = stk) (hrest : (rest.map fun v => v.category).sum ≤ 8) (hd : decode Y.1 pc = .ok (.invokestatic idx, 3)) (kk : St M1 → G Z X Y ex cells slots (pc + 3) loc (.long r :: rest) M1) : G Z X Y ex cells slots pc loc stk M := G.callS pc hct hm hs w1 hR hr hst hrest hd (fun v M' hp => by
  rw [hz.1, hz.2]
  show G Z X Y ex cells slots _ _ _ _
  obtain ⟨rfl, rfl, h1⟩ := hp
  exact kk h1)
theorem G.cnL {Z : Sys} {X : Cx} {Y : My} {ex : Prop} {cells slots : Nat} {loc : List (Nat × Value)} {rest : List Value} {M : Mem} (pc : Nat) {host : String} {idx maxL : Nat} {y : MethodName} {cc : ByteArray} {ret : Option FieldType} {rm R : Room} {As stk : List Value} {r : Int64} {M1 : Mem} (hct : Ct Z y cc maxL ret rm As M ex (PostL r M1)) (hm : MOk y cc maxL ret As.length) (hs : Cond.static y ∈ TBL) (w1 : Cond.methodLinkNest Y.2.1 idx y host ∈ NST) (hR : xR X = R) (hr : RmOk R cells slots maxL rm) (hz : rm.cells = 0 ∧ rm.slots = 0) (hst : As.reverse ++ rest = stk) (hrest : (rest.map fun v => v.category).sum ≤ 8) (hd : decode Y.1 pc = .ok (.invokestatic idx, 3)) (kk : St M1 → G Z X Y ex cells slots (pc + 3) loc (.long r :: rest) M1) : G Z X Y ex cells slots pc loc stk M := G.callSN pc hct hm hs w1 hR hr hst hrest hd (fun v M' hp => by
  rw [hz.1, hz.2]
  show G Z X Y ex cells slots _ _ _ _
  obtain ⟨rfl, rfl, h1⟩ := hp
  exact kk h1)
theorem G.cvV {Z : Sys} {X : Cx} {Y : My} {ex : Prop} {cells slots : Nat} {loc : List (Nat × Value)} {rest : List Value} {M : Mem} (pc : Nat) {ci N b : Nat} {C : String} {T : u_T} {ty : Nat → FieldType} {idx maxL : Nat} {y : MethodName} {cc : ByteArray} {ret : Option FieldType} {rm R : Room} {As stk : List Value}  {M1 : Mem} (hc : ClsOk ci C T ty N) (hb : (mK M)[b]? = some (ci, N)) (hct : Ct Z y cc maxL ret rm (.ref (zs Z + b) :: As) M ex (PostV M1)) (hm : MOk y cc maxL ret As.length) (hv : VOk y) (hyC : y.cls = C) (w1 : Cond.methodLink Y.2.1 idx y ∈ TBL) (hR : xR X = R) (hr : RmOk R cells slots maxL rm) (hz : rm.cells = 0 ∧ rm.slots = 0) (hst : As.reverse ++ .ref (zs Z + b) :: rest = stk) (hrest : (rest.map fun v => v.category).sum ≤ 8) (hd : decode Y.1 pc = .ok (.invokevirtual idx, 3)) (kk : St M1 → G Z X Y ex cells slots (pc + 3) loc rest M1) : G Z X Y ex cells slots pc loc stk M := G.callV pc hc hb hct hm hv hyC w1 hR hr hst hrest hd (fun v M' hp => by
  rw [hz.1, hz.2]
  show G Z X Y ex cells slots _ _ _ _
  obtain ⟨rfl, rfl, h1⟩ := hp
  exact kk h1)
theorem G.csV {Z : Sys} {X : Cx} {Y : My} {ex : Prop} {cells slots : Nat} {loc : List (Nat × Value)} {rest : List Value} {M : Mem} (pc : Nat) {idx maxL : Nat} {y : MethodName} {cc : ByteArray} {ret : Option FieldType} {rm R : Room} {As stk : List Value}  {M1 : Mem} (hct : Ct Z y cc maxL ret rm As M ex (PostV M1)) (hm : MOk y cc maxL ret As.length) (hs : Cond.static y ∈ TBL) (w1 : Cond.methodLink Y.2.1 idx y ∈ TBL) (hR : xR X = R) (hr : RmOk R cells slots maxL rm) (hz : rm.cells = 0 ∧ rm.slots = 0) (hst : As.reverse ++ rest = stk) (hrest : (rest.map fun v => v.category).sum ≤ 8) (hd : decode Y.1 pc = .ok (.invokestatic idx, 3)) (kk : St M1 → G Z X Y ex cells slots (pc + 3) loc rest M1) : G Z X Y ex cells slots pc loc stk M := G.callS pc hct hm hs w1 hR hr hst hrest hd (fun v M' hp => by
  rw [hz.1, hz.2]
  show G Z X Y ex cells slots _ _ _ _
  obtain ⟨rfl, rfl, h1⟩ := hp
  exact kk h1)
theorem G.cnV {Z : Sys} {X : Cx} {Y : My} {ex : Prop} {cells slots : Nat} {loc : List (Nat × Value)} {rest : List Value} {M : Mem} (pc : Nat) {host : String} {idx maxL : Nat} {y : MethodName} {cc : ByteArray} {ret : Option FieldType} {rm R : Room} {As stk : List Value}  {M1 : Mem} (hct : Ct Z y cc maxL ret rm As M ex (PostV M1)) (hm : MOk y cc maxL ret As.length) (hs : Cond.static y ∈ TBL) (w1 : Cond.methodLinkNest Y.2.1 idx y host ∈ NST) (hR : xR X = R) (hr : RmOk R cells slots maxL rm) (hz : rm.cells = 0 ∧ rm.slots = 0) (hst : As.reverse ++ rest = stk) (hrest : (rest.map fun v => v.category).sum ≤ 8) (hd : decode Y.1 pc = .ok (.invokestatic idx, 3)) (kk : St M1 → G Z X Y ex cells slots (pc + 3) loc rest M1) : G Z X Y ex cells slots pc loc stk M := G.callSN pc hct hm hs w1 hR hr hst hrest hd (fun v M' hp => by
  rw [hz.1, hz.2]
  show G Z X Y ex cells slots _ _ _ _
  obtain ⟨rfl, rfl, h1⟩ := hp
  exact kk h1)
section RT
variable {Z : Sys} {X : Cx} {Y : My} {ex : Prop} {cells slots : Nat} {loc : List (Nat × Value)} {rest : List Value} {M : Mem}
theorem G.rI (pc : Nat) {r : Int32} (hq : RetOk Z X (some .int) ex (PostI r M) cells slots) (hd : decode Y.1 pc = .ok (.ireturn, 1)) (hs : St M) : G Z X Y ex cells slots pc loc [.int r] M := G.iret pc hq hd ⟨rfl, rfl, hs⟩
theorem G.rZ (pc : Nat) {r : Int32} (hq : RetOk Z X (some .boolean) ex (PostZ r M) cells slots) (hd : decode Y.1 pc = .ok (.ireturn, 1)) (hs : St M) (hz : r = 0 ∨ r = 1) : G Z X Y ex cells slots pc loc [.int r] M := G.zret pc hq hz hd ⟨⟨rfl, rfl, hs⟩, hz⟩
theorem G.rL (pc : Nat) {r : Int64} (hq : RetOk Z X (some .long) ex (PostL r M) cells slots) (hd : decode Y.1 pc = .ok (.lreturn, 1)) (hs : St M) : G Z X Y ex cells slots pc loc [.long r] M := G.lret pc hq hd ⟨rfl, rfl, hs⟩
theorem G.rV (pc : Nat) (hq : RetOk Z X none ex (PostV M) cells slots) (hd : decode Y.1 pc = .ok (.return_, 1)) (hs : St M) : G Z X Y ex cells slots pc loc [] M := G.vret pc hq hd ⟨rfl, rfl, hs⟩
theorem G.ia (pc j : Nat) {a n : Nat} {i : Int32} (hk : (mK M)[a]? = some (10, n)) (hin : inR i n) (hj : i.toNatClampNeg = j) (hd : decode Y.1 pc = .ok (.iaload, 1)) (kk : G Z X Y ex cells slots (pc + 1) loc (.int (mI M a j) :: rest) M) : G Z X Y ex cells slots pc loc (.int i :: .ref (zs Z + a) :: rest) M := by subst hj; exact G.iald pc hk hin hd kk
theorem G.za (pc j : Nat) {a n : Nat} {i : Int32} (hk : (mK M)[a]? = some (11, n)) (hin : inR i n) (hj : i.toNatClampNeg = j) (hd : decode Y.1 pc = .ok (.baload, 1)) (kk : G Z X Y ex cells slots (pc + 1) loc (.int (mI M a j) :: rest) M) : G Z X Y ex cells slots pc loc (.int i :: .ref (zs Z + a) :: rest) M := by subst hj; exact G.zald pc hk hin hd kk
theorem G.ist (pc j : Nat) {a n : Nat} {i x : Int32} (hk : (mK M)[a]? = some (10, n)) (hin : inR i n) (hj : i.toNatClampNeg = j) (hd : decode Y.1 pc = .ok (.iastore, 1)) (kk : G Z X Y ex cells slots (pc + 1) loc rest (sI M a j x)) : G Z X Y ex cells slots pc loc (.int x :: .int i :: .ref (zs Z + a) :: rest) M := by subst hj; exact G.iast pc hk hin hd kk
theorem G.zt (pc j : Nat) (w : Int32) {a n : Nat} {i x : Int32} (hk : (mK M)[a]? = some (11, n)) (hin : inR i n) (hj : i.toNatClampNeg = j) (hw : vp_nar .boolean x = w) (hd : decode Y.1 pc = .ok (.bastore, 1)) (kk : G Z X Y ex cells slots (pc + 1) loc rest (sI M a j w)) : G Z X Y ex cells slots pc loc (.int x :: .int i :: .ref (zs Z + a) :: rest) M := by subst hj; subst hw; exact G.zast pc hk hin hd kk
theorem G.aa (pc j : Nat) {a n t : Nat} {ft : FieldType} {i : Int32} (r : Nat) (hk : (mK M)[a]? = some (t, n)) (ht : 13 ≤ t) (htt : (tysZ Z)[t - 10]? = some (zA Z t, ft)) (hft : ft.isReference = true) (hin : inR i n) (hj : i.toNatClampNeg = j) (hp : mP M a j = some r) (hd : decode Y.1 pc = .ok (.aaload, 1)) (kk : G Z X Y ex cells slots (pc + 1) loc (.ref (zs Z + r) :: rest) M) : G Z X Y ex cells slots pc loc (.int i :: .ref (zs Z + a) :: rest) M := by subst hj; exact G.aald pc r hk ht htt hft hin hp hd kk
end RT
