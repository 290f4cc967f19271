/-! numbers -/
theorem pC_m14 : pC (-14) = -nI 14 := rfl
theorem pC_m13 : pC (-13) = -nI 13 := rfl
theorem pC_m12 : pC (-12) = -nI 12 := rfl
theorem pC_m11 : pC (-11) = -nI 11 := rfl
theorem pC_m10 : pC (-10) = -nI 10 := rfl
theorem pC_m6 : pC (-6) = -nI 6 := rfl
theorem pC_m5 : pC (-5) = -nI 5 := rfl
theorem pC_m4 : pC (-4) = -nI 4 := rfl
theorem pC_m3 : pC (-3) = -nI 3 := rfl
theorem pC_m2 : pC (-2) = -nI 2 := rfl
theorem pC_m1 : pC (-1) = -nI 1 := rfl
theorem pC_0 : pC (0) = nI 0 := rfl
theorem pC_1 : pC (1) = nI 1 := rfl
theorem pC_2 : pC (2) = nI 2 := rfl
theorem pC_3 : pC (3) = nI 3 := rfl
theorem pC_4 : pC (4) = nI 4 := rfl
theorem pC_5 : pC (5) = nI 5 := rfl
theorem pC_6 : pC (6) = nI 6 := rfl
theorem pC_7 : pC (7) = nI 7 := rfl
theorem pC_8 : pC (8) = nI 8 := rfl
theorem pC_9 : pC (9) = nI 9 := rfl
theorem pC_10 : pC (10) = nI 10 := rfl
theorem pC_11 : pC (11) = nI 11 := rfl
theorem pC_12 : pC (12) = nI 12 := rfl
theorem pC_13 : pC (13) = nI 13 := rfl
theorem pC_14 : pC (14) = nI 14 := rfl
theorem pC_15 : pC (15) = nI 15 := rfl
theorem pC_16 : pC (16) = nI 16 := rfl
theorem pC_17 : pC (17) = nI 17 := rfl
theorem pC_18 : pC (18) = nI 18 := rfl
theorem pC_19 : pC (19) = nI 19 := rfl
theorem pC_20 : pC (20) = nI 20 := rfl
theorem pC_21 : pC (21) = nI 21 := rfl
theorem pC_30 : pC (30) = nI 30 := rfl
theorem pC_32 : pC (32) = nI 32 := rfl
theorem pC_35 : pC (35) = nI 35 := rfl
theorem pC_41 : pC (41) = nI 41 := rfl
theorem pC_42 : pC (42) = nI 42 := rfl
theorem pC_43 : pC (43) = nI 43 := rfl
theorem pC_48 : pC (48) = nI 48 := rfl
theorem pC_52 : pC (52) = nI 52 := rfl
theorem pC_53 : pC (53) = nI 53 := rfl
theorem pC_54 : pC (54) = nI 54 := rfl
theorem pC_59 : pC (59) = nI 59 := rfl
theorem pC_60 : pC (60) = nI 60 := rfl
theorem pC_63 : pC (63) = nI 63 := rfl
theorem pC_69 : pC (69) = nI 69 := rfl
theorem pC_70 : pC (70) = nI 70 := rfl
theorem pC_71 : pC (71) = nI 71 := rfl
theorem pC_72 : pC (72) = nI 72 := rfl
theorem pC_73 : pC (73) = nI 73 := rfl
theorem pC_75 : pC (75) = nI 75 := rfl
theorem pC_94 : pC (94) = nI 94 := rfl
theorem pC_97 : pC (97) = nI 97 := rfl
theorem pC_99 : pC (99) = nI 99 := rfl
theorem pC_100 : pC (100) = nI 100 := rfl
theorem pC_103 : pC (103) = nI 103 := rfl
theorem pC_114 : pC (114) = nI 114 := rfl
theorem pC_119 : pC (119) = nI 119 := rfl
theorem pC_127 : pC (127) = nI 127 := rfl
theorem pC_200 : pC (200) = nI 200 := rfl
theorem pC_360 : pC (360) = nI 360 := rfl
theorem pC_9999 : pC (9999) = nI 9999 := rfl
theorem pC_12345 : pC (12345) = nI 12345 := rfl
theorem pCL_0_2 : pCL 0 2 = lN 2 := rfl
theorem pCL_0_3 : pCL 0 3 = lN 3 := rfl
theorem pCL_0_4 : pCL 0 4 = lN 4 := rfl
theorem pCL_0_5 : pCL 0 5 = lN 5 := rfl
theorem pCL_0_6 : pCL 0 6 = lN 6 := rfl
theorem pCL_0_10 : pCL 0 10 = lN 10 := rfl
theorem pCL_0_15 : pCL 0 15 = lN 15 := rfl
theorem pCL_0_30 : pCL 0 30 = lN 30 := rfl
theorem pCL_0_48 : pCL 0 48 = lN 48 := rfl
theorem pCL_0_99 : pCL 0 99 = lN 99 := rfl
theorem pCL_0_127 : pCL 0 127 = lN 127 := rfl
theorem pCL_0_2147483647 : pCL 0 2147483647 = lN 2147483647 := rfl
theorem pCL_0_4294967295 : pCL 0 4294967295 = lN 4294967295 := rfl
theorem pCL_1_1 : pCL 1 1 = -lN 1 := rfl
theorem pCL_1_2147483648 : pCL 1 2147483648 = -lN 2147483648 := rfl
theorem pCL_1_9223372036854775808 : pCL 1 9223372036854775808 = -lN 9223372036854775808 := rfl
theorem upM_h {α : Type} {f : Nat → Nat → α} {a k : Nat} {v : α} : upM f a k v a k = v := by simp [upM]
theorem upM_a {α : Type} {f : Nat → Nat → α} {a k b j : Nat} {v : α} (h : b ≠ a) : upM f a k v b j = f b j := by simp [upM, h]
theorem upM_k {α : Type} {f : Nat → Nat → α} {a k j : Nat} {v : α} (h : j ≠ k) : upM f a k v a j = f a j := by simp [upM, h]
theorem upM_b {α : Type} {f : Nat → Nat → α} {a k b : Nat} {v : α} (h : b ≠ a) : upM f a k v b = f b := by funext j; simp [upM, h]
theorem nI_0' : (nI 0) = 0 := nI_0
theorem pIn_ok {i n : Nat} (h : i < n) (hn : n < 2 ^ 31) : pIn (nI i) n = true := by
  have h1 : ¬ nI i < 0 := nI_pos (by omega)
  have h2 : ¬ n ≤ (nI i).toNatClampNeg := by rw [nI_clamp (by omega)]; omega
  unfold pIn
  rw [decide_eq_false h1, decide_eq_false h2]
  rfl
theorem pIn_ok2 {i : Int32} {n : Nat} (h0 : 0 ≤ i.toInt) (h : i.toInt < n) : pIn i n = true := by
  have h1 : ¬ i < 0 := by
    rw [Int32.lt_iff_toInt_lt, Int32.toInt_zero]
    omega
  have h2 : ¬ n ≤ i.toNatClampNeg := by
    show ¬ n ≤ i.toInt.toNat
    omega
  unfold pIn
  rw [decide_eq_false h1, decide_eq_false h2]
  rfl
theorem cat_i {x : Int32} : Nat.beq (Value.int x).category 1 = true := rfl
theorem cat_r {x : Nat} : Nat.beq (Value.ref x).category 1 = true := rfl
theorem cat_fv_1_3 {w : pWD} {a : Nat} : Nat.beq (pFv w 1 3 a).category 1 = true := by
  show Nat.beq (va_rf (pR w a 3)).category 1 = true
  cases pR w a 3 <;> rfl
theorem cat_fv_1_9 {w : pWD} {a : Nat} : Nat.beq (pFv w 1 9 a).category 1 = true := by
  show Nat.beq (va_rf (pR w a 9)).category 1 = true
  cases pR w a 9 <;> rfl
theorem cat_fv_7_0 {w : pWD} {a : Nat} : Nat.beq (pFv w 7 0 a).category 1 = true := by
  show Nat.beq (va_rf (pR w a 0)).category 1 = true
  cases pR w a 0 <;> rfl
theorem cat_fv_7_10 {w : pWD} {a : Nat} : Nat.beq (pFv w 7 10 a).category 1 = true := by
  show Nat.beq (va_rf (pR w a 10)).category 1 = true
  cases pR w a 10 <;> rfl
theorem cat_fv_7_15 {w : pWD} {a : Nat} : Nat.beq (pFv w 7 15 a).category 1 = true := by
  show Nat.beq (va_rf (pR w a 15)).category 1 = true
  cases pR w a 15 <;> rfl
theorem cat_fv_7_16 {w : pWD} {a : Nat} : Nat.beq (pFv w 7 16 a).category 1 = true := by
  show Nat.beq (va_rf (pR w a 16)).category 1 = true
  cases pR w a 16 <;> rfl
theorem lc0 : lN (((0 : Fin 2) : Nat)) = lN 0 := rfl
theorem lc1 : lN (((1 : Fin 2) : Nat)) = lN 1 := rfl
theorem nbq (n : Nat) : Nat.beq n n = true := Nat.beq_refl n
theorem nI_sub' {a b : Nat} (h : b ≤ a) : nI a - nI b = nI (a - b) := pk_sub h
/-- a small number of an int -/
theorem nI_ex {x : Int32} (h : 0 ≤ x.toInt) : ∃ n : Nat, x = nI n ∧ (n : Int) = x.toInt ∧ n < 2 ^ 31 := by
  have h1 : x.toInt < 2 ^ 31 := Int32.toInt_lt x
  refine ⟨x.toInt.toNat, ?_, by omega, by omega⟩
  apply Int32.toInt_inj.mp
  rw [nI_toInt (by omega)]
  omega
