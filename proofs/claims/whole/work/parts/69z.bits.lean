/-! bits counted in two ways, up to 14 bits: by the kernel, in pieces -/
theorem bits_0 : ∀ i j : Fin 16, f_X9_bits (Int32.ofNat (0 + 16 * i.val + j.val)) = some (f_J6_bitCount_0f7a4 (Int32.ofNat (0 + 16 * i.val + j.val))) := by decide +kernel
theorem bits_1 : ∀ i j : Fin 16, f_X9_bits (Int32.ofNat (256 + 16 * i.val + j.val)) = some (f_J6_bitCount_0f7a4 (Int32.ofNat (256 + 16 * i.val + j.val))) := by decide +kernel
theorem bits_2 : ∀ i j : Fin 16, f_X9_bits (Int32.ofNat (512 + 16 * i.val + j.val)) = some (f_J6_bitCount_0f7a4 (Int32.ofNat (512 + 16 * i.val + j.val))) := by decide +kernel
theorem bits_3 : ∀ i j : Fin 16, f_X9_bits (Int32.ofNat (768 + 16 * i.val + j.val)) = some (f_J6_bitCount_0f7a4 (Int32.ofNat (768 + 16 * i.val + j.val))) := by decide +kernel
theorem bits_4 : ∀ i j : Fin 16, f_X9_bits (Int32.ofNat (1024 + 16 * i.val + j.val)) = some (f_J6_bitCount_0f7a4 (Int32.ofNat (1024 + 16 * i.val + j.val))) := by decide +kernel
theorem bits_5 : ∀ i j : Fin 16, f_X9_bits (Int32.ofNat (1280 + 16 * i.val + j.val)) = some (f_J6_bitCount_0f7a4 (Int32.ofNat (1280 + 16 * i.val + j.val))) := by decide +kernel
theorem bits_6 : ∀ i j : Fin 16, f_X9_bits (Int32.ofNat (1536 + 16 * i.val + j.val)) = some (f_J6_bitCount_0f7a4 (Int32.ofNat (1536 + 16 * i.val + j.val))) := by decide +kernel
theorem bits_7 : ∀ i j : Fin 16, f_X9_bits (Int32.ofNat (1792 + 16 * i.val + j.val)) = some (f_J6_bitCount_0f7a4 (Int32.ofNat (1792 + 16 * i.val + j.val))) := by decide +kernel
theorem bits_8 : ∀ i j : Fin 16, f_X9_bits (Int32.ofNat (2048 + 16 * i.val + j.val)) = some (f_J6_bitCount_0f7a4 (Int32.ofNat (2048 + 16 * i.val + j.val))) := by decide +kernel
theorem bits_9 : ∀ i j : Fin 16, f_X9_bits (Int32.ofNat (2304 + 16 * i.val + j.val)) = some (f_J6_bitCount_0f7a4 (Int32.ofNat (2304 + 16 * i.val + j.val))) := by decide +kernel
theorem bits_10 : ∀ i j : Fin 16, f_X9_bits (Int32.ofNat (2560 + 16 * i.val + j.val)) = some (f_J6_bitCount_0f7a4 (Int32.ofNat (2560 + 16 * i.val + j.val))) := by decide +kernel
theorem bits_11 : ∀ i j : Fin 16, f_X9_bits (Int32.ofNat (2816 + 16 * i.val + j.val)) = some (f_J6_bitCount_0f7a4 (Int32.ofNat (2816 + 16 * i.val + j.val))) := by decide +kernel
theorem bits_12 : ∀ i j : Fin 16, f_X9_bits (Int32.ofNat (3072 + 16 * i.val + j.val)) = some (f_J6_bitCount_0f7a4 (Int32.ofNat (3072 + 16 * i.val + j.val))) := by decide +kernel
theorem bits_13 : ∀ i j : Fin 16, f_X9_bits (Int32.ofNat (3328 + 16 * i.val + j.val)) = some (f_J6_bitCount_0f7a4 (Int32.ofNat (3328 + 16 * i.val + j.val))) := by decide +kernel
theorem bits_14 : ∀ i j : Fin 16, f_X9_bits (Int32.ofNat (3584 + 16 * i.val + j.val)) = some (f_J6_bitCount_0f7a4 (Int32.ofNat (3584 + 16 * i.val + j.val))) := by decide +kernel
theorem bits_15 : ∀ i j : Fin 16, f_X9_bits (Int32.ofNat (3840 + 16 * i.val + j.val)) = some (f_J6_bitCount_0f7a4 (Int32.ofNat (3840 + 16 * i.val + j.val))) := by decide +kernel
theorem bits_16 : ∀ i j : Fin 16, f_X9_bits (Int32.ofNat (4096 + 16 * i.val + j.val)) = some (f_J6_bitCount_0f7a4 (Int32.ofNat (4096 + 16 * i.val + j.val))) := by decide +kernel
theorem bits_17 : ∀ i j : Fin 16, f_X9_bits (Int32.ofNat (4352 + 16 * i.val + j.val)) = some (f_J6_bitCount_0f7a4 (Int32.ofNat (4352 + 16 * i.val + j.val))) := by decide +kernel
theorem bits_18 : ∀ i j : Fin 16, f_X9_bits (Int32.ofNat (4608 + 16 * i.val + j.val)) = some (f_J6_bitCount_0f7a4 (Int32.ofNat (4608 + 16 * i.val + j.val))) := by decide +kernel
theorem bits_19 : ∀ i j : Fin 16, f_X9_bits (Int32.ofNat (4864 + 16 * i.val + j.val)) = some (f_J6_bitCount_0f7a4 (Int32.ofNat (4864 + 16 * i.val + j.val))) := by decide +kernel
theorem bits_20 : ∀ i j : Fin 16, f_X9_bits (Int32.ofNat (5120 + 16 * i.val + j.val)) = some (f_J6_bitCount_0f7a4 (Int32.ofNat (5120 + 16 * i.val + j.val))) := by decide +kernel
theorem bits_21 : ∀ i j : Fin 16, f_X9_bits (Int32.ofNat (5376 + 16 * i.val + j.val)) = some (f_J6_bitCount_0f7a4 (Int32.ofNat (5376 + 16 * i.val + j.val))) := by decide +kernel
theorem bits_22 : ∀ i j : Fin 16, f_X9_bits (Int32.ofNat (5632 + 16 * i.val + j.val)) = some (f_J6_bitCount_0f7a4 (Int32.ofNat (5632 + 16 * i.val + j.val))) := by decide +kernel
theorem bits_23 : ∀ i j : Fin 16, f_X9_bits (Int32.ofNat (5888 + 16 * i.val + j.val)) = some (f_J6_bitCount_0f7a4 (Int32.ofNat (5888 + 16 * i.val + j.val))) := by decide +kernel
theorem bits_24 : ∀ i j : Fin 16, f_X9_bits (Int32.ofNat (6144 + 16 * i.val + j.val)) = some (f_J6_bitCount_0f7a4 (Int32.ofNat (6144 + 16 * i.val + j.val))) := by decide +kernel
theorem bits_25 : ∀ i j : Fin 16, f_X9_bits (Int32.ofNat (6400 + 16 * i.val + j.val)) = some (f_J6_bitCount_0f7a4 (Int32.ofNat (6400 + 16 * i.val + j.val))) := by decide +kernel
theorem bits_26 : ∀ i j : Fin 16, f_X9_bits (Int32.ofNat (6656 + 16 * i.val + j.val)) = some (f_J6_bitCount_0f7a4 (Int32.ofNat (6656 + 16 * i.val + j.val))) := by decide +kernel
theorem bits_27 : ∀ i j : Fin 16, f_X9_bits (Int32.ofNat (6912 + 16 * i.val + j.val)) = some (f_J6_bitCount_0f7a4 (Int32.ofNat (6912 + 16 * i.val + j.val))) := by decide +kernel
theorem bits_28 : ∀ i j : Fin 16, f_X9_bits (Int32.ofNat (7168 + 16 * i.val + j.val)) = some (f_J6_bitCount_0f7a4 (Int32.ofNat (7168 + 16 * i.val + j.val))) := by decide +kernel
theorem bits_29 : ∀ i j : Fin 16, f_X9_bits (Int32.ofNat (7424 + 16 * i.val + j.val)) = some (f_J6_bitCount_0f7a4 (Int32.ofNat (7424 + 16 * i.val + j.val))) := by decide +kernel
theorem bits_30 : ∀ i j : Fin 16, f_X9_bits (Int32.ofNat (7680 + 16 * i.val + j.val)) = some (f_J6_bitCount_0f7a4 (Int32.ofNat (7680 + 16 * i.val + j.val))) := by decide +kernel
theorem bits_31 : ∀ i j : Fin 16, f_X9_bits (Int32.ofNat (7936 + 16 * i.val + j.val)) = some (f_J6_bitCount_0f7a4 (Int32.ofNat (7936 + 16 * i.val + j.val))) := by decide +kernel
theorem bits_32 : ∀ i j : Fin 16, f_X9_bits (Int32.ofNat (8192 + 16 * i.val + j.val)) = some (f_J6_bitCount_0f7a4 (Int32.ofNat (8192 + 16 * i.val + j.val))) := by decide +kernel
theorem bits_33 : ∀ i j : Fin 16, f_X9_bits (Int32.ofNat (8448 + 16 * i.val + j.val)) = some (f_J6_bitCount_0f7a4 (Int32.ofNat (8448 + 16 * i.val + j.val))) := by decide +kernel
theorem bits_34 : ∀ i j : Fin 16, f_X9_bits (Int32.ofNat (8704 + 16 * i.val + j.val)) = some (f_J6_bitCount_0f7a4 (Int32.ofNat (8704 + 16 * i.val + j.val))) := by decide +kernel
theorem bits_35 : ∀ i j : Fin 16, f_X9_bits (Int32.ofNat (8960 + 16 * i.val + j.val)) = some (f_J6_bitCount_0f7a4 (Int32.ofNat (8960 + 16 * i.val + j.val))) := by decide +kernel
theorem bits_36 : ∀ i j : Fin 16, f_X9_bits (Int32.ofNat (9216 + 16 * i.val + j.val)) = some (f_J6_bitCount_0f7a4 (Int32.ofNat (9216 + 16 * i.val + j.val))) := by decide +kernel
theorem bits_37 : ∀ i j : Fin 16, f_X9_bits (Int32.ofNat (9472 + 16 * i.val + j.val)) = some (f_J6_bitCount_0f7a4 (Int32.ofNat (9472 + 16 * i.val + j.val))) := by decide +kernel
theorem bits_38 : ∀ i j : Fin 16, f_X9_bits (Int32.ofNat (9728 + 16 * i.val + j.val)) = some (f_J6_bitCount_0f7a4 (Int32.ofNat (9728 + 16 * i.val + j.val))) := by decide +kernel
theorem bits_39 : ∀ i j : Fin 16, f_X9_bits (Int32.ofNat (9984 + 16 * i.val + j.val)) = some (f_J6_bitCount_0f7a4 (Int32.ofNat (9984 + 16 * i.val + j.val))) := by decide +kernel
theorem bits_40 : ∀ i j : Fin 16, f_X9_bits (Int32.ofNat (10240 + 16 * i.val + j.val)) = some (f_J6_bitCount_0f7a4 (Int32.ofNat (10240 + 16 * i.val + j.val))) := by decide +kernel
theorem bits_41 : ∀ i j : Fin 16, f_X9_bits (Int32.ofNat (10496 + 16 * i.val + j.val)) = some (f_J6_bitCount_0f7a4 (Int32.ofNat (10496 + 16 * i.val + j.val))) := by decide +kernel
theorem bits_42 : ∀ i j : Fin 16, f_X9_bits (Int32.ofNat (10752 + 16 * i.val + j.val)) = some (f_J6_bitCount_0f7a4 (Int32.ofNat (10752 + 16 * i.val + j.val))) := by decide +kernel
theorem bits_43 : ∀ i j : Fin 16, f_X9_bits (Int32.ofNat (11008 + 16 * i.val + j.val)) = some (f_J6_bitCount_0f7a4 (Int32.ofNat (11008 + 16 * i.val + j.val))) := by decide +kernel
theorem bits_44 : ∀ i j : Fin 16, f_X9_bits (Int32.ofNat (11264 + 16 * i.val + j.val)) = some (f_J6_bitCount_0f7a4 (Int32.ofNat (11264 + 16 * i.val + j.val))) := by decide +kernel
theorem bits_45 : ∀ i j : Fin 16, f_X9_bits (Int32.ofNat (11520 + 16 * i.val + j.val)) = some (f_J6_bitCount_0f7a4 (Int32.ofNat (11520 + 16 * i.val + j.val))) := by decide +kernel
theorem bits_46 : ∀ i j : Fin 16, f_X9_bits (Int32.ofNat (11776 + 16 * i.val + j.val)) = some (f_J6_bitCount_0f7a4 (Int32.ofNat (11776 + 16 * i.val + j.val))) := by decide +kernel
theorem bits_47 : ∀ i j : Fin 16, f_X9_bits (Int32.ofNat (12032 + 16 * i.val + j.val)) = some (f_J6_bitCount_0f7a4 (Int32.ofNat (12032 + 16 * i.val + j.val))) := by decide +kernel
theorem bits_48 : ∀ i j : Fin 16, f_X9_bits (Int32.ofNat (12288 + 16 * i.val + j.val)) = some (f_J6_bitCount_0f7a4 (Int32.ofNat (12288 + 16 * i.val + j.val))) := by decide +kernel
theorem bits_49 : ∀ i j : Fin 16, f_X9_bits (Int32.ofNat (12544 + 16 * i.val + j.val)) = some (f_J6_bitCount_0f7a4 (Int32.ofNat (12544 + 16 * i.val + j.val))) := by decide +kernel
theorem bits_50 : ∀ i j : Fin 16, f_X9_bits (Int32.ofNat (12800 + 16 * i.val + j.val)) = some (f_J6_bitCount_0f7a4 (Int32.ofNat (12800 + 16 * i.val + j.val))) := by decide +kernel
theorem bits_51 : ∀ i j : Fin 16, f_X9_bits (Int32.ofNat (13056 + 16 * i.val + j.val)) = some (f_J6_bitCount_0f7a4 (Int32.ofNat (13056 + 16 * i.val + j.val))) := by decide +kernel
theorem bits_52 : ∀ i j : Fin 16, f_X9_bits (Int32.ofNat (13312 + 16 * i.val + j.val)) = some (f_J6_bitCount_0f7a4 (Int32.ofNat (13312 + 16 * i.val + j.val))) := by decide +kernel
theorem bits_53 : ∀ i j : Fin 16, f_X9_bits (Int32.ofNat (13568 + 16 * i.val + j.val)) = some (f_J6_bitCount_0f7a4 (Int32.ofNat (13568 + 16 * i.val + j.val))) := by decide +kernel
theorem bits_54 : ∀ i j : Fin 16, f_X9_bits (Int32.ofNat (13824 + 16 * i.val + j.val)) = some (f_J6_bitCount_0f7a4 (Int32.ofNat (13824 + 16 * i.val + j.val))) := by decide +kernel
theorem bits_55 : ∀ i j : Fin 16, f_X9_bits (Int32.ofNat (14080 + 16 * i.val + j.val)) = some (f_J6_bitCount_0f7a4 (Int32.ofNat (14080 + 16 * i.val + j.val))) := by decide +kernel
theorem bits_56 : ∀ i j : Fin 16, f_X9_bits (Int32.ofNat (14336 + 16 * i.val + j.val)) = some (f_J6_bitCount_0f7a4 (Int32.ofNat (14336 + 16 * i.val + j.val))) := by decide +kernel
theorem bits_57 : ∀ i j : Fin 16, f_X9_bits (Int32.ofNat (14592 + 16 * i.val + j.val)) = some (f_J6_bitCount_0f7a4 (Int32.ofNat (14592 + 16 * i.val + j.val))) := by decide +kernel
theorem bits_58 : ∀ i j : Fin 16, f_X9_bits (Int32.ofNat (14848 + 16 * i.val + j.val)) = some (f_J6_bitCount_0f7a4 (Int32.ofNat (14848 + 16 * i.val + j.val))) := by decide +kernel
theorem bits_59 : ∀ i j : Fin 16, f_X9_bits (Int32.ofNat (15104 + 16 * i.val + j.val)) = some (f_J6_bitCount_0f7a4 (Int32.ofNat (15104 + 16 * i.val + j.val))) := by decide +kernel
theorem bits_60 : ∀ i j : Fin 16, f_X9_bits (Int32.ofNat (15360 + 16 * i.val + j.val)) = some (f_J6_bitCount_0f7a4 (Int32.ofNat (15360 + 16 * i.val + j.val))) := by decide +kernel
theorem bits_61 : ∀ i j : Fin 16, f_X9_bits (Int32.ofNat (15616 + 16 * i.val + j.val)) = some (f_J6_bitCount_0f7a4 (Int32.ofNat (15616 + 16 * i.val + j.val))) := by decide +kernel
theorem bits_62 : ∀ i j : Fin 16, f_X9_bits (Int32.ofNat (15872 + 16 * i.val + j.val)) = some (f_J6_bitCount_0f7a4 (Int32.ofNat (15872 + 16 * i.val + j.val))) := by decide +kernel
theorem bits_63 : ∀ i j : Fin 16, f_X9_bits (Int32.ofNat (16128 + 16 * i.val + j.val)) = some (f_J6_bitCount_0f7a4 (Int32.ofNat (16128 + 16 * i.val + j.val))) := by decide +kernel
theorem bits_t {b : Nat} (hb : b < 16384) : f_X9_bits (Int32.ofNat b) = some (f_J6_bitCount_0f7a4 (Int32.ofNat b)) := by
  have key : ∀ c : Nat, (∀ i j : Fin 16, f_X9_bits (Int32.ofNat (c + 16 * i.val + j.val)) = some (f_J6_bitCount_0f7a4 (Int32.ofNat (c + 16 * i.val + j.val)))) → c = 256 * (b / 256) → f_X9_bits (Int32.ofNat b) = some (f_J6_bitCount_0f7a4 (Int32.ofNat b)) := by
    intro c h e
    have := h ⟨b % 256 / 16, by omega⟩ ⟨b % 16, by omega⟩
    dsimp only at this
    rw [show c + 16 * (b % 256 / 16) + b % 16 = b by omega] at this
    exact this
  have hk : b / 256 < 64 := by omega
  generalize b / 256 = k at key hk
  match k, hk with
  | 0, _ => exact key 0 bits_0 rfl
  | 1, _ => exact key 256 bits_1 rfl
  | 2, _ => exact key 512 bits_2 rfl
  | 3, _ => exact key 768 bits_3 rfl
  | 4, _ => exact key 1024 bits_4 rfl
  | 5, _ => exact key 1280 bits_5 rfl
  | 6, _ => exact key 1536 bits_6 rfl
  | 7, _ => exact key 1792 bits_7 rfl
  | 8, _ => exact key 2048 bits_8 rfl
  | 9, _ => exact key 2304 bits_9 rfl
  | 10, _ => exact key 2560 bits_10 rfl
  | 11, _ => exact key 2816 bits_11 rfl
  | 12, _ => exact key 3072 bits_12 rfl
  | 13, _ => exact key 3328 bits_13 rfl
  | 14, _ => exact key 3584 bits_14 rfl
  | 15, _ => exact key 3840 bits_15 rfl
  | 16, _ => exact key 4096 bits_16 rfl
  | 17, _ => exact key 4352 bits_17 rfl
  | 18, _ => exact key 4608 bits_18 rfl
  | 19, _ => exact key 4864 bits_19 rfl
  | 20, _ => exact key 5120 bits_20 rfl
  | 21, _ => exact key 5376 bits_21 rfl
  | 22, _ => exact key 5632 bits_22 rfl
  | 23, _ => exact key 5888 bits_23 rfl
  | 24, _ => exact key 6144 bits_24 rfl
  | 25, _ => exact key 6400 bits_25 rfl
  | 26, _ => exact key 6656 bits_26 rfl
  | 27, _ => exact key 6912 bits_27 rfl
  | 28, _ => exact key 7168 bits_28 rfl
  | 29, _ => exact key 7424 bits_29 rfl
  | 30, _ => exact key 7680 bits_30 rfl
  | 31, _ => exact key 7936 bits_31 rfl
  | 32, _ => exact key 8192 bits_32 rfl
  | 33, _ => exact key 8448 bits_33 rfl
  | 34, _ => exact key 8704 bits_34 rfl
  | 35, _ => exact key 8960 bits_35 rfl
  | 36, _ => exact key 9216 bits_36 rfl
  | 37, _ => exact key 9472 bits_37 rfl
  | 38, _ => exact key 9728 bits_38 rfl
  | 39, _ => exact key 9984 bits_39 rfl
  | 40, _ => exact key 10240 bits_40 rfl
  | 41, _ => exact key 10496 bits_41 rfl
  | 42, _ => exact key 10752 bits_42 rfl
  | 43, _ => exact key 11008 bits_43 rfl
  | 44, _ => exact key 11264 bits_44 rfl
  | 45, _ => exact key 11520 bits_45 rfl
  | 46, _ => exact key 11776 bits_46 rfl
  | 47, _ => exact key 12032 bits_47 rfl
  | 48, _ => exact key 12288 bits_48 rfl
  | 49, _ => exact key 12544 bits_49 rfl
  | 50, _ => exact key 12800 bits_50 rfl
  | 51, _ => exact key 13056 bits_51 rfl
  | 52, _ => exact key 13312 bits_52 rfl
  | 53, _ => exact key 13568 bits_53 rfl
  | 54, _ => exact key 13824 bits_54 rfl
  | 55, _ => exact key 14080 bits_55 rfl
  | 56, _ => exact key 14336 bits_56 rfl
  | 57, _ => exact key 14592 bits_57 rfl
  | 58, _ => exact key 14848 bits_58 rfl
  | 59, _ => exact key 15104 bits_59 rfl
  | 60, _ => exact key 15360 bits_60 rfl
  | 61, _ => exact key 15616 bits_61 rfl
  | 62, _ => exact key 15872 bits_62 rfl
  | 63, _ => exact key 16128 bits_63 rfl
  | n + 64, h => exact absurd h (by omega)
