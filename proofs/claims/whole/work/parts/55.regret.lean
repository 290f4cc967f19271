/-! the calls: regret -/
theorem lN_dv {a b : Nat} (ha : a < 2 ^ 63) (hb : b < 2 ^ 63) : lN a / lN b = lN (a / b) := (Int64.ofNat_div ha hb).symm
theorem lN_subI {a b : Nat} : lN a - lN b = iL ((a : Int) - (b : Int)) := by rw [iL_lN, iL_lN, iL_sub]
theorem iL_lNm {W : Int} {q : Nat} : iL W * lN q = iL (W * (q : Int)) := by rw [iL_lN, iL_mul]
theorem t_dvZ {X : pSX} {d : Nat} {f : Nat → Nat → Int32} {g : Nat → Nat → Int64} {Q : pQT} {A : Int} {b : Nat} (hA : -2 ^ 63 < A) (hA2 : A < 2 ^ 63) (hb : b < 2 ^ 63) (hQ : Q (some (.long (lN (Nat.gcd A.natAbs b)))) (pWo f g)) : pM X d 145 [.long (iL A), .long (lN b)] (pWo f g) Q := by
  rw [iL_lN]
  exact t_dv hA hA2 (by omega) (by omega) hQ
theorem t_dvN {X : pSX} {d : Nat} {f : Nat → Nat → Int32} {g : Nat → Nat → Int64} {Q : pQT} {a b : Nat} (ha : a < 2 ^ 63) (hb : b < 2 ^ 63) (hQ : Q (some (.long (lN (Nat.gcd a b)))) (pWo f g)) : pM X d 145 [.long (lN a), .long (lN b)] (pWo f g) Q := by
  rw [iL_lN, iL_lN]
  exact t_dv (by omega) (by omega) (by omega) (by omega) hQ
theorem t_mpofZ_0 {X : pSX} {d : Nat} {f : Nat → Nat → Int32} {g : Nat → Nat → Int64} {Q : pQT} {A : Int} {b : Nat} (hA : -2 ^ 63 < A) (hA2 : A < 2 ^ 63) (hb : 0 < b) (hb2 : b < 2 ^ 63) (hQ : Q (some (.long (pof A b 0))) (pWo f g)) : pM X (d + 1) 146 [.long (iL A), .long (lN b), .int (nI 0)] (pWo f g) Q := by
  rw [iL_lN]
  exact t_mpof_0 hA hA2 (by omega) (by omega) hQ
theorem t_mpofZ_1 {X : pSX} {d : Nat} {f : Nat → Nat → Int32} {g : Nat → Nat → Int64} {Q : pQT} {A : Int} {b : Nat} (hA : -2 ^ 63 < A) (hA2 : A < 2 ^ 63) (hb : 0 < b) (hb2 : b < 2 ^ 63) (hQ : Q (some (.long (pof A b 1))) (pWo f g)) : pM X (d + 1) 146 [.long (iL A), .long (lN b), .int (nI 1)] (pWo f g) Q := by
  rw [iL_lN]
  exact t_mpof_1 hA hA2 (by omega) (by omega) hQ
/-- whole and rest, over one number -/
theorem rg_eq {i b l o c : Nat} {Z : Int} (hb : 0 < b) (ho : 0 < o) (hZ : Z = ((i % b * o : Nat) : Int) - ((l % o * b : Nat) : Int)) (hc : c = Nat.gcd Z.natAbs (b * o)) :
    ∃ zc : Int, zc * c = Z ∧ 0 < c ∧ c ≤ b * o ∧ 0 < b * o / c ∧ b * o / c ≤ b * o ∧ (((i / b : Nat) : Int) - ((l / o : Nat) : Int)) * ((b * o / c : Nat) : Int) * c + zc * c = ((i * o : Nat) : Int) - ((l * b : Nat) : Int) ∧ ((b * o / c : Nat) : Int) * c = ((b * o : Nat) : Int) := by
  have hbo : 0 < b * o := Nat.mul_pos hb ho
  have hcp : 0 < c := hc ▸ Nat.gcd_pos_of_pos_right _ hbo
  have hcd : c ∣ b * o := hc ▸ Nat.gcd_dvd_right _ _
  have hcz : (c : Int) ∣ Z := Int.ofNat_dvd_left.mpr (hc ▸ Nat.gcd_dvd_left _ _)
  have hcl : c ≤ b * o := Nat.le_of_dvd hbo hcd
  obtain ⟨zc, hz⟩ := hcz
  have hq : b * o / c * c = b * o := Nat.div_mul_cancel hcd
  have e1 : ((b * o / c : Nat) : Int) * c = ((b * o : Nat) : Int) := by rw [← Int.natCast_mul, hq]
  refine ⟨zc, by rw [hz, Int.mul_comm], hcp, hcl, Nat.div_pos hcl hcp, Nat.div_le_self _ _, ?_, e1⟩
  rw [Int.mul_assoc, e1, Int.mul_comm zc, ← hz, hZ]
  have d1 : ((i : Nat) : Int) = (b : Int) * ((i / b : Nat) : Int) + ((i % b : Nat) : Int) := by rw [← Int.natCast_mul, ← Int.natCast_add, Nat.div_add_mod]
  have d2 : ((l : Nat) : Int) = (o : Int) * ((l / o : Nat) : Int) + ((l % o : Nat) : Int) := by rw [← Int.natCast_mul, ← Int.natCast_add, Nat.div_add_mod]
  simp only [Int.natCast_mul]
  rw [d1, d2]
  generalize ((i / b : Nat) : Int) = x
  generalize ((l / o : Nat) : Int) = y
  generalize ((i % b : Nat) : Int) = u
  generalize ((l % o : Nat) : Int) = v
  grind
set_option maxRecDepth 100000 in
set_option maxHeartbeats 4000000 in
theorem t_rgB_0 {X : pSX} {d : Nat} {f : Nat → Nat → Int32} {g : Nat → Nat → Int64} {Q : pQT} {s i b l o : Nat} {y : Int64} (hi : i < 2 ^ 36) (hl : l < 2 ^ 36) (hb : 0 < b) (hb2 : b < 2 ^ 24) (ho : 0 < o) (ho2 : o < 2 ^ 24)
    (hQ : Q (some (.long (pof (((i * o : Nat) : Int) - ((l * b : Nat) : Int)) ((b * o : Nat) : Int) 0))) (pWo f g)) : pW X (d + 2) 164 105 [some (.ref 66), some (.int (nI s)), some (.int (nI 0)), some (.long (lN i)), none, some (.long (lN b)), none, some (.long y), none, some (.long (lN l)), none, some (.long (lN o)), none, none, none, none, none, none, none] [] (pWo f g) Q := by
  have hm1 := Nat.mod_lt i hb
  have hm2 := Nat.mod_lt l ho
  have hd1 := Nat.div_le_self i b
  have hd2 := Nat.div_le_self l o
  have p1 : i % b * o ≤ 2 ^ 24 * 2 ^ 24 := Nat.mul_le_mul (by omega) (by omega)
  have p2 : l % o * b ≤ 2 ^ 24 * 2 ^ 24 := Nat.mul_le_mul (by omega) (by omega)
  have p3 : b * o ≤ 2 ^ 24 * 2 ^ 24 := Nat.mul_le_mul (by omega) (by omega)
  have p4 : 0 < b * o := Nat.mul_pos hb ho
  have p5 : i * o ≤ 2 ^ 36 * 2 ^ 24 := Nat.mul_le_mul (by omega) (by omega)
  have p6 : l * b ≤ 2 ^ 36 * 2 ^ 24 := Nat.mul_le_mul (by omega) (by omega)
  generalize hZ : ((i % b * o : Nat) : Int) - ((l % o * b : Nat) : Int) = Z
  generalize hc : Nat.gcd Z.natAbs (b * o) = c
  obtain ⟨zc, z1, z2, z3, z4, z5, z6, z7⟩ := rg_eq hb ho hZ.symm hc.symm
  generalize hq : b * o / c = q at *
  generalize hW : ((i / b : Nat) : Int) - ((l / o : Nat) : Int) = W at *
  have hZb : -2 ^ 49 < Z ∧ Z < 2 ^ 49 := by omega
  have zz : iL Z / lN c = iL zc := by rw [iL_lN]; exact iL_dv z1.symm (by omega) (by omega) (by omega) (by rw [z1]; omega) (by rw [z1]; omega)
  have s1 : lN (i / b) - lN (l / o) = iL W := by rw [lN_subI, hW]
  have s2 : lN (i % b * o) - lN (l % o * b) = iL Z := by rw [lN_subI, hZ]
  have s3 : lN i - lN (i / b * b) = lN (i % b) := by rw [← lN_mul, ← lN_dv (by omega) (by omega), lN_rem (by omega) (by omega)]
  have s4 : lN l - lN (l / o * o) = lN (l % o) := by rw [← lN_mul, ← lN_dv (by omega) (by omega), lN_rem (by omega) (by omega)]
  have hA0 : (W * (q : Int) + zc) * (c : Int) = ((i * o : Nat) : Int) - ((l * b : Nat) : Int) := by rw [Int.add_mul]; exact z6
  have hA1 : (W * (q : Int) + zc).natAbs * c ≤ 2 ^ 61 := by
    have := congrArg Int.natAbs hA0
    rw [Int.natAbs_mul, Int.natAbs_natCast] at this
    omega
  have hA2 : (W * (q : Int) + zc).natAbs ≤ 2 ^ 61 := Nat.le_trans (Nat.le_mul_of_pos_right _ z2) hA1
  have hA3 : -2 ^ 62 < W * (q : Int) + zc ∧ W * (q : Int) + zc < 2 ^ 62 := by omega
  repeat' first
    | (refine wp_as [] 400 rfl (by first | rfl | (simp (disch := first | decide | omega) only [nmC, upM_h, upM_a, upM_k, nI_clamp, nI_add, nI_1, Nat.reducePow, Nat.reduceLT, Nat.reduceAdd, Nat.reduceMul, ne_eq, Nat.reduceEqDiff, not_false_eq_true, not_true_eq_false, Nat.zero_add, Nat.add_zero, pIn_ok, pIn_ok2, nbq, cat_i, cat_r, cat_l, cat_fv_1_3, cat_fv_1_9, cat_fv_7_0, cat_fv_7_10, cat_fv_7_15, cat_fv_7_16, bo0, bo1, boN, Bool.and_true, Bool.true_and, Bool.and_self, dnI, ble_ok, List.map_nil, List.map_cons, List.sum_nil, List.sum_cons, Bool.not_false, lN_dv, nz_ok, lN_mul, s1, s2, s3, s4, iL_lNm, iL_add, hc, hq, zz]; first | done | rfl | decide)) ?_; try simp (disch := first | decide | omega) only [nmC, upM_h, upM_a, upM_k, nI_clamp, nI_add, nI_1, Nat.reducePow, Nat.reduceLT, Nat.reduceAdd, Nat.reduceMul, ne_eq, Nat.reduceEqDiff, not_false_eq_true, not_true_eq_false, Nat.zero_add, Nat.add_zero, vpb0, vpb1, vpn, lN_dv, nz_ok, lN_mul, s1, s2, s3, s4, iL_lNm, iL_add, hc, hq, zz])
    | (refine wp_cc rfl (by first | rfl | (simp (disch := first | decide | omega) only [nmC, upM_h, upM_a, upM_k, nI_clamp, nI_add, nI_1, Nat.reducePow, Nat.reduceLT, Nat.reduceAdd, Nat.reduceMul, ne_eq, Nat.reduceEqDiff, not_false_eq_true, not_true_eq_false, Nat.zero_add, Nat.add_zero, pIn_ok, pIn_ok2, nbq, cat_i, cat_r, cat_l, cat_fv_1_3, cat_fv_1_9, cat_fv_7_0, cat_fv_7_10, cat_fv_7_15, cat_fv_7_16, bo0, bo1, boN, Bool.and_true, Bool.true_and, Bool.and_self, dnI, ble_ok, List.map_nil, List.map_cons, List.sum_nil, List.sum_cons, Bool.not_false, lN_dv, nz_ok, lN_mul, s1, s2, s3, s4, iL_lNm, iL_add, hc, hq, zz]; first | done | rfl | decide)) (t_dvZ (by omega) (by omega) (by omega) ?_); try simp (disch := first | decide | omega) only [nmC, upM_h, upM_a, upM_k, nI_clamp, nI_add, nI_1, Nat.reducePow, Nat.reduceLT, Nat.reduceAdd, Nat.reduceMul, ne_eq, Nat.reduceEqDiff, not_false_eq_true, not_true_eq_false, Nat.zero_add, Nat.add_zero, vpb0, vpb1, vpn, lN_dv, nz_ok, lN_mul, s1, s2, s3, s4, iL_lNm, iL_add, hc, hq, zz])
    | (refine wp_cc rfl (by first | rfl | (simp (disch := first | decide | omega) only [nmC, upM_h, upM_a, upM_k, nI_clamp, nI_add, nI_1, Nat.reducePow, Nat.reduceLT, Nat.reduceAdd, Nat.reduceMul, ne_eq, Nat.reduceEqDiff, not_false_eq_true, not_true_eq_false, Nat.zero_add, Nat.add_zero, pIn_ok, pIn_ok2, nbq, cat_i, cat_r, cat_l, cat_fv_1_3, cat_fv_1_9, cat_fv_7_0, cat_fv_7_10, cat_fv_7_15, cat_fv_7_16, bo0, bo1, boN, Bool.and_true, Bool.true_and, Bool.and_self, dnI, ble_ok, List.map_nil, List.map_cons, List.sum_nil, List.sum_cons, Bool.not_false, lN_dv, nz_ok, lN_mul, s1, s2, s3, s4, iL_lNm, iL_add, hc, hq, zz]; first | done | rfl | decide)) (t_mpofZ_0 (by omega) (by omega) (by omega) (by omega) ?_); try simp (disch := first | decide | omega) only [nmC, upM_h, upM_a, upM_k, nI_clamp, nI_add, nI_1, Nat.reducePow, Nat.reduceLT, Nat.reduceAdd, Nat.reduceMul, ne_eq, Nat.reduceEqDiff, not_false_eq_true, not_true_eq_false, Nat.zero_add, Nat.add_zero, vpb0, vpb1, vpn, lN_dv, nz_ok, lN_mul, s1, s2, s3, s4, iL_lNm, iL_add, hc, hq, zz])
    | (refine wp_re rfl (by first | rfl | (simp (disch := first | decide | omega) only [nmC, upM_h, upM_a, upM_k, nI_clamp, nI_add, nI_1, Nat.reducePow, Nat.reduceLT, Nat.reduceAdd, Nat.reduceMul, ne_eq, Nat.reduceEqDiff, not_false_eq_true, not_true_eq_false, Nat.zero_add, Nat.add_zero, pIn_ok, pIn_ok2, nbq, cat_i, cat_r, cat_l, cat_fv_1_3, cat_fv_1_9, cat_fv_7_0, cat_fv_7_10, cat_fv_7_15, cat_fv_7_16, bo0, bo1, boN, Bool.and_true, Bool.true_and, Bool.and_self, dnI, ble_ok, List.map_nil, List.map_cons, List.sum_nil, List.sum_cons, Bool.not_false, lN_dv, nz_ok, lN_mul, s1, s2, s3, s4, iL_lNm, iL_add, hc, hq, zz]; first | done | rfl | decide)) ?_)
    | (refine wp_ift rfl (by first | (simp (disch := first | decide | omega) only [nmC, upM_h, upM_a, upM_k, nI_clamp, nI_add, nI_1, Nat.reducePow, Nat.reduceLT, Nat.reduceAdd, Nat.reduceMul, ne_eq, Nat.reduceEqDiff, not_false_eq_true, not_true_eq_false, Nat.zero_add, Nat.add_zero, pCmp, Int32.toInt_toInt64, lN_ti, ngl_ti, nIsub_ti, ad_ti, ml_ti, nI_toInt, sb_negT, Int32.toInt_zero, Int32.lt_iff_toInt_lt, Int32.le_iff_toInt_le, ← Int32.toInt_inj, Int.cast_ofNat_Int, Nat.reducePow, Nat.reduceLT, lgt_gt, lgt_ge, lgt_lt, lgt_le, lgt_eq, id_eq, lN_dv, nz_ok, lN_mul, s1, s2, s3, s4, iL_lNm, iL_add, hc, hq, zz]; first | done | omega)) ?_; try simp (disch := first | decide | omega) only [nmC, upM_h, upM_a, upM_k, nI_clamp, nI_add, nI_1, Nat.reducePow, Nat.reduceLT, Nat.reduceAdd, Nat.reduceMul, ne_eq, Nat.reduceEqDiff, not_false_eq_true, not_true_eq_false, Nat.zero_add, Nat.add_zero, vpb0, vpb1, vpn, lN_dv, nz_ok, lN_mul, s1, s2, s3, s4, iL_lNm, iL_add, hc, hq, zz])
    | (refine wp_iff rfl (by first | (simp (disch := first | decide | omega) only [nmC, upM_h, upM_a, upM_k, nI_clamp, nI_add, nI_1, Nat.reducePow, Nat.reduceLT, Nat.reduceAdd, Nat.reduceMul, ne_eq, Nat.reduceEqDiff, not_false_eq_true, not_true_eq_false, Nat.zero_add, Nat.add_zero, pCmp, Int32.toInt_toInt64, lN_ti, ngl_ti, nIsub_ti, ad_ti, ml_ti, nI_toInt, sb_negT, Int32.toInt_zero, Int32.lt_iff_toInt_lt, Int32.le_iff_toInt_le, ← Int32.toInt_inj, Int.cast_ofNat_Int, Nat.reducePow, Nat.reduceLT, lgt_gt, lgt_ge, lgt_lt, lgt_le, lgt_eq, id_eq, lN_dv, nz_ok, lN_mul, s1, s2, s3, s4, iL_lNm, iL_add, hc, hq, zz]; first | done | omega)) ?_; try simp (disch := first | decide | omega) only [nmC, upM_h, upM_a, upM_k, nI_clamp, nI_add, nI_1, Nat.reducePow, Nat.reduceLT, Nat.reduceAdd, Nat.reduceMul, ne_eq, Nat.reduceEqDiff, not_false_eq_true, not_true_eq_false, Nat.zero_add, Nat.add_zero, vpb0, vpb1, vpn, lN_dv, nz_ok, lN_mul, s1, s2, s3, s4, iL_lNm, iL_add, hc, hq, zz])
    | (refine wp_sw rfl ?_; simp (disch := first | decide | omega) only [pSw_h, pSw_t, pSw_u, pSw_n])
    | (refine wp_if rfl (fun hbr => ?_) (fun hbr => ?_) <;> (try simp (disch := first | decide | omega) only [nmC, upM_h, upM_a, upM_k, nI_clamp, nI_add, nI_1, Nat.reducePow, Nat.reduceLT, Nat.reduceAdd, Nat.reduceMul, ne_eq, Nat.reduceEqDiff, not_false_eq_true, not_true_eq_false, Nat.zero_add, Nat.add_zero, pCmp, Int32.toInt_toInt64, lN_ti, ngl_ti, nIsub_ti, ad_ti, ml_ti, nI_toInt, sb_negT, Int32.toInt_zero, Int32.lt_iff_toInt_lt, Int32.le_iff_toInt_le, ← Int32.toInt_inj, Int.cast_ofNat_Int, Nat.reducePow, Nat.reduceLT, lgt_gt, lgt_ge, lgt_lt, lgt_le, lgt_eq, lN_dv, nz_ok, lN_mul, s1, s2, s3, s4, iL_lNm, iL_add, hc, hq, zz] at hbr) <;> (try simp (disch := first | decide | omega) only [nmC, upM_h, upM_a, upM_k, nI_clamp, nI_add, nI_1, Nat.reducePow, Nat.reduceLT, Nat.reduceAdd, Nat.reduceMul, ne_eq, Nat.reduceEqDiff, not_false_eq_true, not_true_eq_false, Nat.zero_add, Nat.add_zero, vpb0, vpb1, vpn, lN_dv, nz_ok, lN_mul, s1, s2, s3, s4, iL_lNm, iL_add, hc, hq, zz]) <;> (try (exfalso; omega)))
  have e := pof_eq (A := W * (q : Int) + zc) (B := (q : Int)) (A' := ((i * o : Nat) : Int) - ((l * b : Nat) : Int)) (B' := ((b * o : Nat) : Int)) (by omega) (by omega) (by
    rw [← hA0, ← z7, Int.mul_assoc, Int.mul_comm (c : Int) (q : Int)]) (by omega) (by omega) (by omega) (by omega) (by omega) (by omega) 0
  rw [e]
  exact hQ
set_option maxRecDepth 100000 in
set_option maxHeartbeats 4000000 in
theorem t_rgB_1 {X : pSX} {d : Nat} {f : Nat → Nat → Int32} {g : Nat → Nat → Int64} {Q : pQT} {s i b l o : Nat} {y : Int64} (hi : i < 2 ^ 36) (hl : l < 2 ^ 36) (hb : 0 < b) (hb2 : b < 2 ^ 24) (ho : 0 < o) (ho2 : o < 2 ^ 24)
    (hQ : Q (some (.long (pof (((i * o : Nat) : Int) - ((l * b : Nat) : Int)) ((b * o : Nat) : Int) 1))) (pWo f g)) : pW X (d + 2) 164 105 [some (.ref 66), some (.int (nI s)), some (.int (nI 1)), some (.long (lN i)), none, some (.long (lN b)), none, some (.long y), none, some (.long (lN l)), none, some (.long (lN o)), none, none, none, none, none, none, none] [] (pWo f g) Q := by
  have hm1 := Nat.mod_lt i hb
  have hm2 := Nat.mod_lt l ho
  have hd1 := Nat.div_le_self i b
  have hd2 := Nat.div_le_self l o
  have p1 : i % b * o ≤ 2 ^ 24 * 2 ^ 24 := Nat.mul_le_mul (by omega) (by omega)
  have p2 : l % o * b ≤ 2 ^ 24 * 2 ^ 24 := Nat.mul_le_mul (by omega) (by omega)
  have p3 : b * o ≤ 2 ^ 24 * 2 ^ 24 := Nat.mul_le_mul (by omega) (by omega)
  have p4 : 0 < b * o := Nat.mul_pos hb ho
  have p5 : i * o ≤ 2 ^ 36 * 2 ^ 24 := Nat.mul_le_mul (by omega) (by omega)
  have p6 : l * b ≤ 2 ^ 36 * 2 ^ 24 := Nat.mul_le_mul (by omega) (by omega)
  generalize hZ : ((i % b * o : Nat) : Int) - ((l % o * b : Nat) : Int) = Z
  generalize hc : Nat.gcd Z.natAbs (b * o) = c
  obtain ⟨zc, z1, z2, z3, z4, z5, z6, z7⟩ := rg_eq hb ho hZ.symm hc.symm
  generalize hq : b * o / c = q at *
  generalize hW : ((i / b : Nat) : Int) - ((l / o : Nat) : Int) = W at *
  have hZb : -2 ^ 49 < Z ∧ Z < 2 ^ 49 := by omega
  have zz : iL Z / lN c = iL zc := by rw [iL_lN]; exact iL_dv z1.symm (by omega) (by omega) (by omega) (by rw [z1]; omega) (by rw [z1]; omega)
  have s1 : lN (i / b) - lN (l / o) = iL W := by rw [lN_subI, hW]
  have s2 : lN (i % b * o) - lN (l % o * b) = iL Z := by rw [lN_subI, hZ]
  have s3 : lN i - lN (i / b * b) = lN (i % b) := by rw [← lN_mul, ← lN_dv (by omega) (by omega), lN_rem (by omega) (by omega)]
  have s4 : lN l - lN (l / o * o) = lN (l % o) := by rw [← lN_mul, ← lN_dv (by omega) (by omega), lN_rem (by omega) (by omega)]
  have hA0 : (W * (q : Int) + zc) * (c : Int) = ((i * o : Nat) : Int) - ((l * b : Nat) : Int) := by rw [Int.add_mul]; exact z6
  have hA1 : (W * (q : Int) + zc).natAbs * c ≤ 2 ^ 61 := by
    have := congrArg Int.natAbs hA0
    rw [Int.natAbs_mul, Int.natAbs_natCast] at this
    omega
  have hA2 : (W * (q : Int) + zc).natAbs ≤ 2 ^ 61 := Nat.le_trans (Nat.le_mul_of_pos_right _ z2) hA1
  have hA3 : -2 ^ 62 < W * (q : Int) + zc ∧ W * (q : Int) + zc < 2 ^ 62 := by omega
  repeat' first
    | (refine wp_as [] 400 rfl (by first | rfl | (simp (disch := first | decide | omega) only [nmC, upM_h, upM_a, upM_k, nI_clamp, nI_add, nI_1, Nat.reducePow, Nat.reduceLT, Nat.reduceAdd, Nat.reduceMul, ne_eq, Nat.reduceEqDiff, not_false_eq_true, not_true_eq_false, Nat.zero_add, Nat.add_zero, pIn_ok, pIn_ok2, nbq, cat_i, cat_r, cat_l, cat_fv_1_3, cat_fv_1_9, cat_fv_7_0, cat_fv_7_10, cat_fv_7_15, cat_fv_7_16, bo0, bo1, boN, Bool.and_true, Bool.true_and, Bool.and_self, dnI, ble_ok, List.map_nil, List.map_cons, List.sum_nil, List.sum_cons, Bool.not_false, lN_dv, nz_ok, lN_mul, s1, s2, s3, s4, iL_lNm, iL_add, hc, hq, zz]; first | done | rfl | decide)) ?_; try simp (disch := first | decide | omega) only [nmC, upM_h, upM_a, upM_k, nI_clamp, nI_add, nI_1, Nat.reducePow, Nat.reduceLT, Nat.reduceAdd, Nat.reduceMul, ne_eq, Nat.reduceEqDiff, not_false_eq_true, not_true_eq_false, Nat.zero_add, Nat.add_zero, vpb0, vpb1, vpn, lN_dv, nz_ok, lN_mul, s1, s2, s3, s4, iL_lNm, iL_add, hc, hq, zz])
    | (refine wp_cc rfl (by first | rfl | (simp (disch := first | decide | omega) only [nmC, upM_h, upM_a, upM_k, nI_clamp, nI_add, nI_1, Nat.reducePow, Nat.reduceLT, Nat.reduceAdd, Nat.reduceMul, ne_eq, Nat.reduceEqDiff, not_false_eq_true, not_true_eq_false, Nat.zero_add, Nat.add_zero, pIn_ok, pIn_ok2, nbq, cat_i, cat_r, cat_l, cat_fv_1_3, cat_fv_1_9, cat_fv_7_0, cat_fv_7_10, cat_fv_7_15, cat_fv_7_16, bo0, bo1, boN, Bool.and_true, Bool.true_and, Bool.and_self, dnI, ble_ok, List.map_nil, List.map_cons, List.sum_nil, List.sum_cons, Bool.not_false, lN_dv, nz_ok, lN_mul, s1, s2, s3, s4, iL_lNm, iL_add, hc, hq, zz]; first | done | rfl | decide)) (t_dvZ (by omega) (by omega) (by omega) ?_); try simp (disch := first | decide | omega) only [nmC, upM_h, upM_a, upM_k, nI_clamp, nI_add, nI_1, Nat.reducePow, Nat.reduceLT, Nat.reduceAdd, Nat.reduceMul, ne_eq, Nat.reduceEqDiff, not_false_eq_true, not_true_eq_false, Nat.zero_add, Nat.add_zero, vpb0, vpb1, vpn, lN_dv, nz_ok, lN_mul, s1, s2, s3, s4, iL_lNm, iL_add, hc, hq, zz])
    | (refine wp_cc rfl (by first | rfl | (simp (disch := first | decide | omega) only [nmC, upM_h, upM_a, upM_k, nI_clamp, nI_add, nI_1, Nat.reducePow, Nat.reduceLT, Nat.reduceAdd, Nat.reduceMul, ne_eq, Nat.reduceEqDiff, not_false_eq_true, not_true_eq_false, Nat.zero_add, Nat.add_zero, pIn_ok, pIn_ok2, nbq, cat_i, cat_r, cat_l, cat_fv_1_3, cat_fv_1_9, cat_fv_7_0, cat_fv_7_10, cat_fv_7_15, cat_fv_7_16, bo0, bo1, boN, Bool.and_true, Bool.true_and, Bool.and_self, dnI, ble_ok, List.map_nil, List.map_cons, List.sum_nil, List.sum_cons, Bool.not_false, lN_dv, nz_ok, lN_mul, s1, s2, s3, s4, iL_lNm, iL_add, hc, hq, zz]; first | done | rfl | decide)) (t_mpofZ_1 (by omega) (by omega) (by omega) (by omega) ?_); try simp (disch := first | decide | omega) only [nmC, upM_h, upM_a, upM_k, nI_clamp, nI_add, nI_1, Nat.reducePow, Nat.reduceLT, Nat.reduceAdd, Nat.reduceMul, ne_eq, Nat.reduceEqDiff, not_false_eq_true, not_true_eq_false, Nat.zero_add, Nat.add_zero, vpb0, vpb1, vpn, lN_dv, nz_ok, lN_mul, s1, s2, s3, s4, iL_lNm, iL_add, hc, hq, zz])
    | (refine wp_re rfl (by first | rfl | (simp (disch := first | decide | omega) only [nmC, upM_h, upM_a, upM_k, nI_clamp, nI_add, nI_1, Nat.reducePow, Nat.reduceLT, Nat.reduceAdd, Nat.reduceMul, ne_eq, Nat.reduceEqDiff, not_false_eq_true, not_true_eq_false, Nat.zero_add, Nat.add_zero, pIn_ok, pIn_ok2, nbq, cat_i, cat_r, cat_l, cat_fv_1_3, cat_fv_1_9, cat_fv_7_0, cat_fv_7_10, cat_fv_7_15, cat_fv_7_16, bo0, bo1, boN, Bool.and_true, Bool.true_and, Bool.and_self, dnI, ble_ok, List.map_nil, List.map_cons, List.sum_nil, List.sum_cons, Bool.not_false, lN_dv, nz_ok, lN_mul, s1, s2, s3, s4, iL_lNm, iL_add, hc, hq, zz]; first | done | rfl | decide)) ?_)
    | (refine wp_ift rfl (by first | (simp (disch := first | decide | omega) only [nmC, upM_h, upM_a, upM_k, nI_clamp, nI_add, nI_1, Nat.reducePow, Nat.reduceLT, Nat.reduceAdd, Nat.reduceMul, ne_eq, Nat.reduceEqDiff, not_false_eq_true, not_true_eq_false, Nat.zero_add, Nat.add_zero, pCmp, Int32.toInt_toInt64, lN_ti, ngl_ti, nIsub_ti, ad_ti, ml_ti, nI_toInt, sb_negT, Int32.toInt_zero, Int32.lt_iff_toInt_lt, Int32.le_iff_toInt_le, ← Int32.toInt_inj, Int.cast_ofNat_Int, Nat.reducePow, Nat.reduceLT, lgt_gt, lgt_ge, lgt_lt, lgt_le, lgt_eq, id_eq, lN_dv, nz_ok, lN_mul, s1, s2, s3, s4, iL_lNm, iL_add, hc, hq, zz]; first | done | omega)) ?_; try simp (disch := first | decide | omega) only [nmC, upM_h, upM_a, upM_k, nI_clamp, nI_add, nI_1, Nat.reducePow, Nat.reduceLT, Nat.reduceAdd, Nat.reduceMul, ne_eq, Nat.reduceEqDiff, not_false_eq_true, not_true_eq_false, Nat.zero_add, Nat.add_zero, vpb0, vpb1, vpn, lN_dv, nz_ok, lN_mul, s1, s2, s3, s4, iL_lNm, iL_add, hc, hq, zz])
    | (refine wp_iff rfl (by first | (simp (disch := first | decide | omega) only [nmC, upM_h, upM_a, upM_k, nI_clamp, nI_add, nI_1, Nat.reducePow, Nat.reduceLT, Nat.reduceAdd, Nat.reduceMul, ne_eq, Nat.reduceEqDiff, not_false_eq_true, not_true_eq_false, Nat.zero_add, Nat.add_zero, pCmp, Int32.toInt_toInt64, lN_ti, ngl_ti, nIsub_ti, ad_ti, ml_ti, nI_toInt, sb_negT, Int32.toInt_zero, Int32.lt_iff_toInt_lt, Int32.le_iff_toInt_le, ← Int32.toInt_inj, Int.cast_ofNat_Int, Nat.reducePow, Nat.reduceLT, lgt_gt, lgt_ge, lgt_lt, lgt_le, lgt_eq, id_eq, lN_dv, nz_ok, lN_mul, s1, s2, s3, s4, iL_lNm, iL_add, hc, hq, zz]; first | done | omega)) ?_; try simp (disch := first | decide | omega) only [nmC, upM_h, upM_a, upM_k, nI_clamp, nI_add, nI_1, Nat.reducePow, Nat.reduceLT, Nat.reduceAdd, Nat.reduceMul, ne_eq, Nat.reduceEqDiff, not_false_eq_true, not_true_eq_false, Nat.zero_add, Nat.add_zero, vpb0, vpb1, vpn, lN_dv, nz_ok, lN_mul, s1, s2, s3, s4, iL_lNm, iL_add, hc, hq, zz])
    | (refine wp_sw rfl ?_; simp (disch := first | decide | omega) only [pSw_h, pSw_t, pSw_u, pSw_n])
    | (refine wp_if rfl (fun hbr => ?_) (fun hbr => ?_) <;> (try simp (disch := first | decide | omega) only [nmC, upM_h, upM_a, upM_k, nI_clamp, nI_add, nI_1, Nat.reducePow, Nat.reduceLT, Nat.reduceAdd, Nat.reduceMul, ne_eq, Nat.reduceEqDiff, not_false_eq_true, not_true_eq_false, Nat.zero_add, Nat.add_zero, pCmp, Int32.toInt_toInt64, lN_ti, ngl_ti, nIsub_ti, ad_ti, ml_ti, nI_toInt, sb_negT, Int32.toInt_zero, Int32.lt_iff_toInt_lt, Int32.le_iff_toInt_le, ← Int32.toInt_inj, Int.cast_ofNat_Int, Nat.reducePow, Nat.reduceLT, lgt_gt, lgt_ge, lgt_lt, lgt_le, lgt_eq, lN_dv, nz_ok, lN_mul, s1, s2, s3, s4, iL_lNm, iL_add, hc, hq, zz] at hbr) <;> (try simp (disch := first | decide | omega) only [nmC, upM_h, upM_a, upM_k, nI_clamp, nI_add, nI_1, Nat.reducePow, Nat.reduceLT, Nat.reduceAdd, Nat.reduceMul, ne_eq, Nat.reduceEqDiff, not_false_eq_true, not_true_eq_false, Nat.zero_add, Nat.add_zero, vpb0, vpb1, vpn, lN_dv, nz_ok, lN_mul, s1, s2, s3, s4, iL_lNm, iL_add, hc, hq, zz]) <;> (try (exfalso; omega)))
  have e := pof_eq (A := W * (q : Int) + zc) (B := (q : Int)) (A' := ((i * o : Nat) : Int) - ((l * b : Nat) : Int)) (B' := ((b * o : Nat) : Int)) (by omega) (by omega) (by
    rw [← hA0, ← z7, Int.mul_assoc, Int.mul_comm (c : Int) (q : Int)]) (by omega) (by omega) (by omega) (by omega) (by omega) (by omega) 1
  rw [e]
  exact hQ
