/-! the law: its loop, its run -/
def lwQ : pQT := fun r w => r = some (.int (nI 1)) ∧ nC w ≤ 600000 ∧ nS w ≤ 7302250
set_option maxRecDepth 100000 in
set_option maxHeartbeats 4000000 in
theorem lw_go {L : Nat} {xs : Nat → Int32} (hL : L ≤ 3072) : ∀ (m i : Nat) (f : Nat → Nat → Int32) (g : Nat → Nat → Int64), L ≤ i + 6 * m → i ≤ 4000 → INV f g → pW (L, xs) 9 210 18 [some (.retAddr 0), some (.ref 0), some (.ref 66), some (.int (nI (i)))] [] (pWo f g) lwQ := by
  intro m
  induction m with
  | zero =>
    intro i f g h1 h2 I
    have hlm : (nI L - nI 6).toInt = (L : Int) - (6 : Nat) := nIsub_ti (by omega) (by omega)
    refine wp_as [] 400 rfl (by first | rfl | (simp (disch := first | decide | omega) only [nmC, upM_h, upM_a, upM_k, nI_clamp, nI_add, nI_1, Nat.reducePow, Nat.reduceLT, Nat.reduceAdd, Nat.reduceMul, ne_eq, Nat.reduceEqDiff, not_false_eq_true, not_true_eq_false, Nat.zero_add, Nat.add_zero, pIn_ok, pIn_ok2, nbq, cat_i, cat_r, cat_l, cat_fv_1_3, cat_fv_1_9, cat_fv_7_0, cat_fv_7_10, cat_fv_7_15, cat_fv_7_16, bo0, bo1, boN, Bool.and_true, Bool.true_and, Bool.and_self, dnI, ble_ok, List.map_nil, List.map_cons, List.sum_nil, List.sum_cons, Bool.not_false]; first | done | rfl | decide)) ?_
    try simp (disch := first | decide | omega) only [nmC, upM_h, upM_a, upM_k, nI_clamp, nI_add, nI_1, Nat.reducePow, Nat.reduceLT, Nat.reduceAdd, Nat.reduceMul, ne_eq, Nat.reduceEqDiff, not_false_eq_true, not_true_eq_false, Nat.zero_add, Nat.add_zero, vpb0, vpb1, vpn]
    refine wp_ift rfl (by first | (simp (disch := first | decide | omega) only [nmC, upM_h, upM_a, upM_k, nI_clamp, nI_add, nI_1, Nat.reducePow, Nat.reduceLT, Nat.reduceAdd, Nat.reduceMul, ne_eq, Nat.reduceEqDiff, not_false_eq_true, not_true_eq_false, Nat.zero_add, Nat.add_zero, pCmp, Int32.toInt_toInt64, lN_ti, ngl_ti, nIsub_ti, ad_ti, ml_ti, nI_toInt, sb_negT, Int32.toInt_zero, Int32.lt_iff_toInt_lt, Int32.le_iff_toInt_le, ← Int32.toInt_inj, Int.cast_ofNat_Int, Nat.reducePow, Nat.reduceLT, lgt_gt, lgt_ge, lgt_lt, lgt_le, lgt_eq, id_eq, hlm]; first | done | omega)) ?_
    refine wp_as [] 400 rfl rfl ?_
    refine wp_re rfl rfl ?_
    exact ⟨rfl, Nat.le_of_ble_eq_true rfl, Nat.le_of_ble_eq_true rfl⟩
  | succ m ih =>
    intro i f g h1 h2 I
    have hlm : (nI L - nI 6).toInt = (L : Int) - (6 : Nat) := nIsub_ti (by omega) (by omega)
    by_cases h : i + 6 ≤ L
    · have hk : ∀ f' g', INV f' g' → pW (L, xs) 9 210 1753 [some (.retAddr 0), some (.ref 0), some (.ref 66), some (.int (nI (i)))] [] (pWo f' g') lwQ := by
        intro f' g' I'
        have hih := ih (i + 6) f' g' (by omega) (by omega) I'
        refine wp_as [18] 400 rfl rfl ?_
        try simp (disch := first | decide | omega) only [nmC, upM_h, upM_a, upM_k, nI_clamp, nI_add, nI_1, Nat.reducePow, Nat.reduceLT, Nat.reduceAdd, Nat.reduceMul, ne_eq, Nat.reduceEqDiff, not_false_eq_true, not_true_eq_false, Nat.zero_add, Nat.add_zero, vpb0, vpb1, vpn]
        exact hih
      have h63 := pk_and (xs i) (m := nI 63) 6 (by decide)
      have hs := Nat.mod_lt (xs i).toBitVec.toNat (show 0 < 2 ^ 6 by decide)
      generalize (xs i).toBitVec.toNat % 2 ^ 6 = s at *
      have hs : s < 64 := hs
      have hst : (nI s).toInt = (s : Int) := nI_toInt (by omega)
      refine wp_as [] 400 rfl (by first | rfl | (simp (disch := first | decide | omega) only [nmC, upM_h, upM_a, upM_k, nI_clamp, nI_add, nI_1, Nat.reducePow, Nat.reduceLT, Nat.reduceAdd, Nat.reduceMul, ne_eq, Nat.reduceEqDiff, not_false_eq_true, not_true_eq_false, Nat.zero_add, Nat.add_zero, pIn_ok, pIn_ok2, nbq, cat_i, cat_r, cat_l, cat_fv_1_3, cat_fv_1_9, cat_fv_7_0, cat_fv_7_10, cat_fv_7_15, cat_fv_7_16, bo0, bo1, boN, Bool.and_true, Bool.true_and, Bool.and_self, dnI, ble_ok, List.map_nil, List.map_cons, List.sum_nil, List.sum_cons, Bool.not_false]; first | done | rfl | decide)) ?_
      try simp (disch := first | decide | omega) only [nmC, upM_h, upM_a, upM_k, nI_clamp, nI_add, nI_1, Nat.reducePow, Nat.reduceLT, Nat.reduceAdd, Nat.reduceMul, ne_eq, Nat.reduceEqDiff, not_false_eq_true, not_true_eq_false, Nat.zero_add, Nat.add_zero, vpb0, vpb1, vpn]
      refine wp_iff rfl (by first | (simp (disch := first | decide | omega) only [nmC, upM_h, upM_a, upM_k, nI_clamp, nI_add, nI_1, Nat.reducePow, Nat.reduceLT, Nat.reduceAdd, Nat.reduceMul, ne_eq, Nat.reduceEqDiff, not_false_eq_true, not_true_eq_false, Nat.zero_add, Nat.add_zero, pCmp, Int32.toInt_toInt64, lN_ti, ngl_ti, nIsub_ti, ad_ti, ml_ti, nI_toInt, sb_negT, Int32.toInt_zero, Int32.lt_iff_toInt_lt, Int32.le_iff_toInt_le, ← Int32.toInt_inj, Int.cast_ofNat_Int, Nat.reducePow, Nat.reduceLT, lgt_gt, lgt_ge, lgt_lt, lgt_le, lgt_eq, id_eq, hlm]; first | done | omega)) ?_
      refine wp_as [] 400 rfl (by first | rfl | (simp (disch := first | decide | omega) only [nmC, upM_h, upM_a, upM_k, nI_clamp, nI_add, nI_1, Nat.reducePow, Nat.reduceLT, Nat.reduceAdd, Nat.reduceMul, ne_eq, Nat.reduceEqDiff, not_false_eq_true, not_true_eq_false, Nat.zero_add, Nat.add_zero, pIn_ok, pIn_ok2, nbq, cat_i, cat_r, cat_l, cat_fv_1_3, cat_fv_1_9, cat_fv_7_0, cat_fv_7_10, cat_fv_7_15, cat_fv_7_16, bo0, bo1, boN, Bool.and_true, Bool.true_and, Bool.and_self, dnI, ble_ok, List.map_nil, List.map_cons, List.sum_nil, List.sum_cons, Bool.not_false]; first | done | rfl | decide)) ?_
      try simp (disch := first | decide | omega) only [nmC, upM_h, upM_a, upM_k, nI_clamp, nI_add, nI_1, Nat.reducePow, Nat.reduceLT, Nat.reduceAdd, Nat.reduceMul, ne_eq, Nat.reduceEqDiff, not_false_eq_true, not_true_eq_false, Nat.zero_add, Nat.add_zero, vpb0, vpb1, vpn, h63]
      refine wp_sw rfl ?_
      by_cases hd : s < 45
      · rcases (show s = 0 ∨ s = 1 ∨ s = 2 ∨ s = 3 ∨ s = 4 ∨ s = 5 ∨ s = 6 ∨ s = 7 ∨ s = 8 ∨ s = 9 ∨ s = 10 ∨ s = 11 ∨ s = 12 ∨ s = 13 ∨ s = 14 ∨ s = 15 ∨ s = 16 ∨ s = 17 ∨ s = 18 ∨ s = 19 ∨ s = 20 ∨ s = 21 ∨ s = 22 ∨ s = 23 ∨ s = 24 ∨ s = 25 ∨ s = 26 ∨ s = 27 ∨ s = 28 ∨ s = 29 ∨ s = 30 ∨ s = 31 ∨ s = 32 ∨ s = 33 ∨ s = 34 ∨ s = 35 ∨ s = 36 ∨ s = 37 ∨ s = 38 ∨ s = 39 ∨ s = 40 ∨ s = 41 ∨ s = 42 ∨ s = 43 ∨ s = 44 by omega) with rfl | rfl | rfl | rfl | rfl | rfl | rfl | rfl | rfl | rfl | rfl | rfl | rfl | rfl | rfl | rfl | rfl | rfl | rfl | rfl | rfl | rfl | rfl | rfl | rfl | rfl | rfl | rfl | rfl | rfl | rfl | rfl | rfl | rfl | rfl | rfl | rfl | rfl | rfl | rfl | rfl | rfl | rfl | rfl | rfl
        · simp (disch := first | decide | omega) only [pSw_h, pSw_t]
          exact lw_0 h hL I hk
        · simp (disch := first | decide | omega) only [pSw_h, pSw_t]
          exact lw_1 h hL I hk
        · simp (disch := first | decide | omega) only [pSw_h, pSw_t]
          exact lw_2 h hL I hk
        · simp (disch := first | decide | omega) only [pSw_h, pSw_t]
          exact lw_3 h hL I hk
        · simp (disch := first | decide | omega) only [pSw_h, pSw_t]
          exact lw_4 h hL I hk
        · simp (disch := first | decide | omega) only [pSw_h, pSw_t]
          exact lw_5 h hL I hk
        · simp (disch := first | decide | omega) only [pSw_h, pSw_t]
          exact lw_6 h hL I hk
        · simp (disch := first | decide | omega) only [pSw_h, pSw_t]
          exact lw_7 h hL I hk
        · simp (disch := first | decide | omega) only [pSw_h, pSw_t]
          exact lw_8 h hL I hk
        · simp (disch := first | decide | omega) only [pSw_h, pSw_t]
          exact lw_9 h hL I hk
        · simp (disch := first | decide | omega) only [pSw_h, pSw_t]
          exact lw_10 h hL I hk
        · simp (disch := first | decide | omega) only [pSw_h, pSw_t]
          exact lw_11 h hL I hk
        · simp (disch := first | decide | omega) only [pSw_h, pSw_t]
          exact lw_12 h hL I hk
        · simp (disch := first | decide | omega) only [pSw_h, pSw_t]
          exact lw_13 h hL I hk
        · simp (disch := first | decide | omega) only [pSw_h, pSw_t]
          exact lw_14 h hL I hk
        · simp (disch := first | decide | omega) only [pSw_h, pSw_t]
          exact lw_15 h hL I hk
        · simp (disch := first | decide | omega) only [pSw_h, pSw_t]
          exact lw_16 h hL I hk
        · simp (disch := first | decide | omega) only [pSw_h, pSw_t]
          exact lw_17 h hL I hk
        · simp (disch := first | decide | omega) only [pSw_h, pSw_t]
          exact lw_18 h hL I hk
        · simp (disch := first | decide | omega) only [pSw_h, pSw_t]
          exact lw_19 h hL I hk
        · simp (disch := first | decide | omega) only [pSw_h, pSw_t]
          exact lw_20 h hL I hk
        · simp (disch := first | decide | omega) only [pSw_h, pSw_t]
          exact lw_21 h hL I hk
        · simp (disch := first | decide | omega) only [pSw_h, pSw_t]
          exact lw_22 h hL I hk
        · simp (disch := first | decide | omega) only [pSw_h, pSw_t]
          exact lw_23 h hL I hk
        · simp (disch := first | decide | omega) only [pSw_h, pSw_t]
          exact lw_24 h hL I hk
        · simp (disch := first | decide | omega) only [pSw_h, pSw_t]
          exact lw_25 h hL I hk
        · simp (disch := first | decide | omega) only [pSw_h, pSw_t]
          exact lw_26 h hL I hk
        · simp (disch := first | decide | omega) only [pSw_h, pSw_t]
          exact lw_27 h hL I hk
        · simp (disch := first | decide | omega) only [pSw_h, pSw_t]
          exact lw_28 h hL I hk
        · simp (disch := first | decide | omega) only [pSw_h, pSw_t]
          exact lw_29 h hL I hk
        · simp (disch := first | decide | omega) only [pSw_h, pSw_t]
          exact lw_30 h hL I hk
        · simp (disch := first | decide | omega) only [pSw_h, pSw_t]
          exact lw_31 h hL I hk
        · simp (disch := first | decide | omega) only [pSw_h, pSw_t]
          exact lw_32 h hL I hk
        · simp (disch := first | decide | omega) only [pSw_h, pSw_t]
          exact lw_33 h hL I hk
        · simp (disch := first | decide | omega) only [pSw_h, pSw_t]
          exact lw_34 h hL I hk
        · simp (disch := first | decide | omega) only [pSw_h, pSw_t]
          exact lw_35 h hL I hk
        · simp (disch := first | decide | omega) only [pSw_h, pSw_t]
          exact lw_36 h hL I hk
        · simp (disch := first | decide | omega) only [pSw_h, pSw_t]
          exact lw_37 h hL I hk
        · simp (disch := first | decide | omega) only [pSw_h, pSw_t]
          exact lw_38 h hL I hk
        · simp (disch := first | decide | omega) only [pSw_h, pSw_t]
          exact lw_39 h hL I hk
        · simp (disch := first | decide | omega) only [pSw_h, pSw_t]
          exact lw_40 h hL I hk
        · simp (disch := first | decide | omega) only [pSw_h, pSw_t]
          exact lw_41 h hL I hk
        · simp (disch := first | decide | omega) only [pSw_h, pSw_t]
          exact lw_42 h hL I hk
        · simp (disch := first | decide | omega) only [pSw_h, pSw_t]
          exact lw_43 h hL I hk
        · simp (disch := first | decide | omega) only [pSw_h, pSw_t]
          exact lw_44 h hL I hk
      · simp (disch := first | decide | omega) only [pSw_u, pSw_n]
        exact hk f g I
    · skip
      refine wp_as [] 400 rfl (by first | rfl | (simp (disch := first | decide | omega) only [nmC, upM_h, upM_a, upM_k, nI_clamp, nI_add, nI_1, Nat.reducePow, Nat.reduceLT, Nat.reduceAdd, Nat.reduceMul, ne_eq, Nat.reduceEqDiff, not_false_eq_true, not_true_eq_false, Nat.zero_add, Nat.add_zero, pIn_ok, pIn_ok2, nbq, cat_i, cat_r, cat_l, cat_fv_1_3, cat_fv_1_9, cat_fv_7_0, cat_fv_7_10, cat_fv_7_15, cat_fv_7_16, bo0, bo1, boN, Bool.and_true, Bool.true_and, Bool.and_self, dnI, ble_ok, List.map_nil, List.map_cons, List.sum_nil, List.sum_cons, Bool.not_false]; first | done | rfl | decide)) ?_
      try simp (disch := first | decide | omega) only [nmC, upM_h, upM_a, upM_k, nI_clamp, nI_add, nI_1, Nat.reducePow, Nat.reduceLT, Nat.reduceAdd, Nat.reduceMul, ne_eq, Nat.reduceEqDiff, not_false_eq_true, not_true_eq_false, Nat.zero_add, Nat.add_zero, vpb0, vpb1, vpn]
      refine wp_ift rfl (by first | (simp (disch := first | decide | omega) only [nmC, upM_h, upM_a, upM_k, nI_clamp, nI_add, nI_1, Nat.reducePow, Nat.reduceLT, Nat.reduceAdd, Nat.reduceMul, ne_eq, Nat.reduceEqDiff, not_false_eq_true, not_true_eq_false, Nat.zero_add, Nat.add_zero, pCmp, Int32.toInt_toInt64, lN_ti, ngl_ti, nIsub_ti, ad_ti, ml_ti, nI_toInt, sb_negT, Int32.toInt_zero, Int32.lt_iff_toInt_lt, Int32.le_iff_toInt_le, ← Int32.toInt_inj, Int.cast_ofNat_Int, Nat.reducePow, Nat.reduceLT, lgt_gt, lgt_ge, lgt_lt, lgt_le, lgt_eq, id_eq, hlm]; first | done | omega)) ?_
      refine wp_as [] 400 rfl rfl ?_
      refine wp_re rfl rfl ?_
      exact ⟨rfl, Nat.le_of_ble_eq_true rfl, Nat.le_of_ble_eq_true rfl⟩
set_option maxRecDepth 100000 in
set_option maxHeartbeats 4000000 in
theorem law_run (L : Nat) (xs : Nat → Int32) (hL : L ≤ 3072) : ∃ n w', pEx (L, xs) n 9 210 0 (pEn 210 [.retAddr 0]) [] ([], [], fun _ _ => 0, fun _ _ => 0) = some (some (.int (nI 1)), w') ∧ nC w' ≤ 600000 ∧ nS w' ≤ 7302250 := by
  have h : pW (L, xs) 9 210 0 (pEn 210 [.retAddr 0]) [] ([], [], fun _ _ => 0, fun _ _ => 0) lwQ := by
    show pW (L, xs) 9 210 0 [some (.retAddr 0), none, none, none] [] ([], [], fun _ _ => 0, fun _ _ => 0) lwQ
    refine wp_as [] 400 rfl rfl ?_
    change pW _ _ 210 4 [some (.retAddr 0), none, none, none] [.ref 0, .ref 0] ([.inl 6], [[none, none, none, none, none, none, none, none]], (clM (fun _ _ => 0) 0 0), (clM (fun _ _ => 0) 0 0)) _
    refine wp_cc rfl (by first | rfl | (simp (disch := first | decide | omega) only [nmC, upM_h, upM_a, upM_k, nI_clamp, nI_add, nI_1, Nat.reducePow, Nat.reduceLT, Nat.reduceAdd, Nat.reduceMul, ne_eq, Nat.reduceEqDiff, not_false_eq_true, not_true_eq_false, Nat.zero_add, Nat.add_zero, pIn_ok, dnI, ble_ok, nbq, cat_i, cat_r, bo0, bo1, List.map_nil, List.map_cons, List.sum_nil, List.sum_cons, Bool.not_false, Bool.and_true, Bool.true_and, Bool.and_self, decide_true]; first | done | rfl | decide)) (t_inX (d := 5) (fun k => clM_h) (fun f1 g1 a1 a2 a3 a4 a5 a6 a7 => ?_))
    change pW _ _ 210 7 [some (.retAddr 0), none, none, none] [.ref 0] ([.inl 6, .inl 3, .inr (.int, 4), .inr (.int, 4), .inr (.int, 4), .inr (.int, 16), .inr (.boolean, 4), .inl 2, .inr (.int, 15), .inl 2, .inr (.int, 24), .inl 2, .inr (.int, 24), .inl 3, .inr (.int, 4), .inr (.int, 4), .inr (.int, 4), .inr (.int, 16), .inr (.boolean, 4), .inl 2, .inr (.int, 15), .inl 2, .inr (.int, 24), .inl 2, .inr (.int, 24), .inl 3, .inr (.int, 4), .inr (.int, 4), .inr (.int, 4), .inr (.int, 16), .inr (.boolean, 4), .inl 2, .inr (.int, 15), .inl 2, .inr (.int, 24), .inl 2, .inr (.int, 24), .inl 0, .inl 1, .inl 0, .inr (.int, 4), .inr (.int, 4), .inr (.long, 16), .inr (.long, 16), .inr (.long, 4), .inr (.long, 4), .inr (.int, 4), .inr (.long, 4), .inr (.long, 4), .inr (.long, 4), .inr (.int, 4), .inl 5, .inr (.byte, 60), .inr (.object (pNm 4), 6), .inl 4, .inr (.long, 60), .inl 4, .inr (.long, 60), .inl 4, .inr (.long, 60), .inl 4, .inr (.long, 60), .inl 4, .inr (.long, 60), .inl 4, .inr (.long, 60)], [[some 1, some 13, some 25, none, some 37, some 38, some 51, some 53], [none, none, none, none, none, none, none, some 2, some 3, some 4, some 5, some 6, some 7, some 9, some 11], [], [], [], [], [], [none, some 8, none], [], [none, some 10, none], [], [none, some 12, none], [], [none, none, none, none, none, none, none, some 14, some 15, some 16, some 17, some 18, some 19, some 21, some 23], [], [], [], [], [], [none, some 20, none], [], [none, some 22, none], [], [none, some 24, none], [], [none, none, none, none, none, none, none, some 26, some 27, some 28, some 29, some 30, some 31, some 33, some 35], [], [], [], [], [], [none, some 32, none], [], [none, some 34, none], [], [none, some 36, none], [], [none, none, none, none], [some 39, some 40, some 41, some 42, some 43, some 44, some 45, none, none, some 46, some 47, none, some 48, some 49, none, some 50], [none, none, none, none], [], [], [], [], [], [], [], [], [], [], [], [some 52, none, none], [], [some 54, some 56, some 58, some 60, some 62, some 64], [none, none, some 55], [], [none, none, some 57], [], [none, none, some 59], [], [none, none, some 61], [], [none, none, some 63], [], [none, none, some 65], []], f1, g1) _
    refine wp_as [] 400 rfl rfl ?_
    change pW _ _ 210 12 [some (.retAddr 0), some (.ref 0), none, none] [.ref 66, .ref 66] ([.inl 6, .inl 3, .inr (.int, 4), .inr (.int, 4), .inr (.int, 4), .inr (.int, 16), .inr (.boolean, 4), .inl 2, .inr (.int, 15), .inl 2, .inr (.int, 24), .inl 2, .inr (.int, 24), .inl 3, .inr (.int, 4), .inr (.int, 4), .inr (.int, 4), .inr (.int, 16), .inr (.boolean, 4), .inl 2, .inr (.int, 15), .inl 2, .inr (.int, 24), .inl 2, .inr (.int, 24), .inl 3, .inr (.int, 4), .inr (.int, 4), .inr (.int, 4), .inr (.int, 16), .inr (.boolean, 4), .inl 2, .inr (.int, 15), .inl 2, .inr (.int, 24), .inl 2, .inr (.int, 24), .inl 0, .inl 1, .inl 0, .inr (.int, 4), .inr (.int, 4), .inr (.long, 16), .inr (.long, 16), .inr (.long, 4), .inr (.long, 4), .inr (.int, 4), .inr (.long, 4), .inr (.long, 4), .inr (.long, 4), .inr (.int, 4), .inl 5, .inr (.byte, 60), .inr (.object (pNm 4), 6), .inl 4, .inr (.long, 60), .inl 4, .inr (.long, 60), .inl 4, .inr (.long, 60), .inl 4, .inr (.long, 60), .inl 4, .inr (.long, 60), .inl 4, .inr (.long, 60), .inl 7], [[some 1, some 13, some 25, none, some 37, some 38, some 51, some 53], [none, none, none, none, none, none, none, some 2, some 3, some 4, some 5, some 6, some 7, some 9, some 11], [], [], [], [], [], [none, some 8, none], [], [none, some 10, none], [], [none, some 12, none], [], [none, none, none, none, none, none, none, some 14, some 15, some 16, some 17, some 18, some 19, some 21, some 23], [], [], [], [], [], [none, some 20, none], [], [none, some 22, none], [], [none, some 24, none], [], [none, none, none, none, none, none, none, some 26, some 27, some 28, some 29, some 30, some 31, some 33, some 35], [], [], [], [], [], [none, some 32, none], [], [none, some 34, none], [], [none, some 36, none], [], [none, none, none, none], [some 39, some 40, some 41, some 42, some 43, some 44, some 45, none, none, some 46, some 47, none, some 48, some 49, none, some 50], [none, none, none, none], [], [], [], [], [], [], [], [], [], [], [], [some 52, none, none], [], [some 54, some 56, some 58, some 60, some 62, some 64], [none, none, some 55], [], [none, none, some 57], [], [none, none, some 59], [], [none, none, some 61], [], [none, none, some 63], [], [none, none, some 65], [], [none, none, none, none, none, none, none, none, none, none, none, none, none, none, none, none, none, none, none, none, none, none, none, none, none]], (clM f1 66 0), (clM g1 66 0)) _
    refine wp_cc rfl (by first | rfl | (simp (disch := first | decide | omega) only [nmC, upM_h, upM_a, upM_k, nI_clamp, nI_add, nI_1, Nat.reducePow, Nat.reduceLT, Nat.reduceAdd, Nat.reduceMul, ne_eq, Nat.reduceEqDiff, not_false_eq_true, not_true_eq_false, Nat.zero_add, Nat.add_zero, pIn_ok, dnI, ble_ok, nbq, cat_i, cat_r, bo0, bo1, List.map_nil, List.map_cons, List.sum_nil, List.sum_cons, Bool.not_false, Bool.and_true, Bool.true_and, Bool.and_self, decide_true]; first | done | rfl | decide)) (t_inM (fun k => clM_h) (fun f2 g2 b1 b2 b3 b4 b5 b6 b7 b8 => ?_))
    change pW _ _ 210 15 [some (.retAddr 0), some (.ref 0), none, none] [.ref 66] (pWo f2 g2) _
    refine wp_as [18] 400 rfl rfl ?_
    try simp (disch := first | decide | omega) only [nmC, upM_h, upM_a, upM_k, nI_clamp, nI_add, nI_1, Nat.reducePow, Nat.reduceLT, Nat.reduceAdd, Nat.reduceMul, ne_eq, Nat.reduceEqDiff, not_false_eq_true, not_true_eq_false, Nat.zero_add, Nat.add_zero, vpb0, vpb1, vpn]
    have e : ∀ a, a < 66 → f2 a = f1 a := fun a ha => by rw [b1 a ha, clM_b (by omega)]
    have eg : ∀ a, a < 66 → g2 a = g1 a := fun a ha => by rw [b2 a ha, clM_b (by omega)]
    refine lw_go hL L 0 f2 g2 (by omega) (by omega) ⟨⟨nu0, nI 1, nI 0, wf0, a1.fr (fun a c1 c2 => e a (by omega)), b3⟩, ⟨0, fun _ => 0, by omega, ?_, ?_, fun i hi => absurd hi (Nat.not_lt_zero i), fun i hi => absurd hi (Nat.not_lt_zero i), fun i hi => absurd hi (Nat.not_lt_zero i)⟩, ⟨a2.fr (fun a c1 c2 => e a (by omega)), .inl ⟨?_, ?_⟩⟩, fun t ht => ⟨0, 0, by omega, by omega, fun _ => rfl, ?_, ?_, ?_, ?_, fun i hi => ?_⟩, a3.fr (fun a c1 c2 => e a (by omega))⟩
    · rw [e 51 (by omega), a5]; exact z0
    · rw [b5]; exact z0
    · rw [e 0 (by omega), a4]; exact z0
    · rw [b4]; exact z0
    · rw [e _ (by omega), (a6 t ht).1]; decide
    · rw [b6]; exact z0
    · rw [e _ (by omega), (a6 t ht).2]; exact z0
    · rw [b7]; exact z0
    · rw [eg _ (by omega), a7 t i ht, b8]
  obtain ⟨n, r, w', h1, h2, h3, h4⟩ := h
  exact ⟨n, w', by rw [h1, h2], h3, h4⟩
