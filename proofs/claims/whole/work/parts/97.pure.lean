theorem pure_main (sc : Nat → Int32) (len : Nat) (h : len ≤ 3072) : L_L_law_23 sc len FU 0 M0 = some 1 := law_run sc len h 513 FU 0 M0 (by omega) (by rw [FU_eq]; omega) (by omega) m0_inv
