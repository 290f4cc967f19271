/-! the calls: orders, weights, what is seen and planned -/
theorem ca_r {j : Nat} (hj : j < 4) : ca (12 + j) = (3, j) := by
  unfold ca; rw [if_neg (by omega), if_neg (by omega), if_neg (by omega), if_neg (by omega), if_pos (by omega)]; congr 1; omega
theorem ca_s {i j : Nat} (hi : i < 5) (hj : j < 2) : ca (42 + 2 * i + j) = (7, i * 3 + j) := by
  unfold ca; rw [if_neg (by omega), if_neg (by omega), if_neg (by omega), if_neg (by omega), if_neg (by omega), if_neg (by omega), if_neg (by omega), if_neg (by omega), if_pos (by omega)]; congr 1; omega
theorem ca_p {i j : Nat} (hi : i < 8) (hj : j < 2) : ca (53 + 2 * i + j) = (9, i * 3 + j) := by
  unfold ca; rw [if_neg (by omega), if_neg (by omega), if_neg (by omega), if_neg (by omega), if_neg (by omega), if_neg (by omega), if_neg (by omega), if_neg (by omega), if_neg (by omega), if_neg (by omega), if_pos (by omega)]; congr 1; omega
theorem HC.jk {ν : Nat → Nat} {sd bl : Int32} {f : Nat → Nat → Int32} {b a a' j : Nat} {x : Int32} (h : HC ν sd bl f b) (ha : b + a' = a) (hn : ∀ k, dom ν k → ca k ≠ (a', j)) (hj : j ≠ 0) : HC ν sd bl (upM f a j x) b := by
  subst ha
  have key : ∀ c i, (c, i) ≠ (a', j) → upM f (b + a') j x (b + c) i = f (b + c) i := fun c i hc => by
    by_cases e : c = a'
    · subst e; exact upM_k (fun z => hc (by rw [z]))
    · exact upM_a (by omega)
  exact ⟨fun k hk => (key _ _ (hn k hk)).trans (h.1 k hk), (key 6 0 (fun z => hj (congrArg Prod.snd z).symm)).trans h.2.1, (key 8 0 (fun z => hj (congrArg Prod.snd z).symm)).trans h.2.2.1, (key 10 0 (fun z => hj (congrArg Prod.snd z).symm)).trans h.2.2.2⟩
theorem ca_nj0 : ∀ k : Fin 97, (ca k.val).1 = 7 ∨ (ca k.val).1 = 9 → (ca k.val).2 % 3 ≠ 2 := by decide +kernel
theorem ca_nj {ν : Nat → Nat} {i : Nat} (k : Nat) (hk : dom ν k) : ca k ≠ (7, i * 3 + 2) ∧ ca k ≠ (9, i * 3 + 2) := by
  have h := ca_nj0 ⟨k, hk.1⟩
  dsimp only at h
  exact ⟨fun e => by rw [e] at h; exact h (.inl rfl) (by show (i * 3 + 2) % 3 = 2; omega), fun e => by rw [e] at h; exact h (.inr rfl) (by show (i * 3 + 2) % 3 = 2; omega)⟩
theorem WF.ord {ν : Nat → Nat} (w : WF ν) {n v : Nat} (hn : n ≤ ν 1) (hv : n + v ≤ ν 1) : WF (upN ν (12 + n) v) := by
  obtain ⟨w0, w1, w1', w2, w3, w6, w7, w8, w8a, w8b, wr, wi, wk, ws, ws2, wp, wp2, w71, wl, wl2⟩ := w
  have e : ∀ i, i < 12 ∨ 16 ≤ i → upN ν (12 + n) v i = ν i := fun i hi => upN_n (by omega)
  refine ⟨?_, ?_, ?_, ?_, fun j hj => ?_, ?_, ?_, fun j hj => ?_, ?_, ?_, ?_, fun i hi => ?_, fun i hi hi2 => ?_, ?_, fun j hj => ?_, ?_, fun j hj => ?_, ?_, ?_, fun j hj => ?_⟩
  · rw [e _ (by omega)]; exact w0
  · rw [e _ (by omega)]; exact w1
  · rw [e _ (by omega)]; exact w1'
  · rw [e _ (by omega), e 1 (by omega)]; exact w2
  · rw [e _ (by omega)]; exact w3 j hj
  · rw [e _ (by omega)]; exact w6
  · rw [e _ (by omega)]; exact w7
  · rw [e _ (by omega)]; exact w8 j hj
  · rw [e _ (by omega), e _ (by omega), e _ (by omega), e _ (by omega)]; exact w8a
  · rw [e _ (by omega), e _ (by omega), e _ (by omega), e _ (by omega)]; exact w8b
  · rw [e 1 (by omega)]
    refine ⟨fun s hs => ?_, fun s hs => ?_⟩
    · have := wr.1 s hs
      unfold rlN upN at *
      rw [if_pos (by omega)] at this ⊢
      split <;> omega
    · have := wr.2 s hs
      unfold rlN upN at *
      split
      · rename_i h5
        rw [if_pos h5] at this
        rw [if_neg (by omega)]; exact this
      · rfl
  · rw [e _ (by omega)]; exact wi i hi
  · rw [e _ (by omega)] at hi2
    rw [e 1 (by omega), rlN_up (by omega)]; exact wk i hi hi2
  · rw [e _ (by omega)]; exact ws
  · rw [e 41 (by omega)] at hj
    rw [e _ (by omega), e _ (by omega), e 1 (by omega)]; exact ws2 j hj
  · rw [e _ (by omega)]; exact wp
  · rw [e 52 (by omega)] at hj
    rw [e _ (by omega), e _ (by omega)]; exact wp2 j hj
  · rw [e _ (by omega)]; exact w71
  · rw [e _ (by omega)]; exact wl
  · rw [e 72 (by omega)] at hj
    rw [e _ (by omega), e _ (by omega), e _ (by omega)]; exact wl2 j hj
/-- numbers above the kept rules -/
theorem WF.hi {ν ν' : Nat → Nat} (w : WF ν) (e : ∀ i, i < 41 → ν' i = ν i) (hs : ν' 41 ≤ 5) (hs2 : ∀ k, k < ν' 41 → ν' (42 + 2 * k) + ν' (43 + 2 * k) ≤ ν 1) (hp : ν' 52 ≤ 8) (hp2 : ∀ k, k < ν' 52 → ν' (53 + 2 * k) ≤ 2 ∧ ν' (54 + 2 * k) ≤ 3)
    (h71 : ν' 71 ≤ 9999) (hl : ν' 72 ≤ 8) (hl2 : ∀ k, k < ν' 72 → ν' (73 + 3 * k) ≤ 3 ∧ ν' (74 + 3 * k) ≤ 3 ∧ ν' (75 + 3 * k) ≤ 3) : WF ν' := by
  obtain ⟨w0, w1, w1', w2, w3, w6, w7, w8, w8a, w8b, wr, wi, wk, -⟩ := w
  have er : ∀ o, o + 5 ≤ 41 → rlN ν' o = rlN ν o := fun o ho => by
    funext s; unfold rlN; split
    · rw [e _ (by omega)]
    · rfl
  refine ⟨?_, ?_, ?_, ?_, fun j hj => ?_, ?_, ?_, fun j hj => ?_, ?_, ?_, ?_, fun i hi => ?_, fun i hi hi2 => ?_, hs, fun j hj => ?_, hp, hp2, h71, hl, hl2⟩
  · rw [e _ (by omega)]; exact w0
  · rw [e _ (by omega)]; exact w1
  · rw [e _ (by omega)]; exact w1'
  · rw [e _ (by omega), e 1 (by omega)]; exact w2
  · rw [e _ (by omega)]; exact w3 j hj
  · rw [e _ (by omega)]; exact w6
  · rw [e _ (by omega)]; exact w7
  · rw [e _ (by omega)]; exact w8 j hj
  · rw [e _ (by omega), e _ (by omega), e _ (by omega), e _ (by omega)]; exact w8a
  · rw [e _ (by omega), e _ (by omega), e _ (by omega), e _ (by omega)]; exact w8b
  · rw [e 1 (by omega), er 12 (by omega)]; exact wr
  · rw [e _ (by omega)]; exact wi i hi
  · rw [e _ (by omega)] at hi2
    rw [e 1 (by omega), er _ (by omega)]; exact wk i hi hi2
  · rw [e 1 (by omega)]; exact hs2 j hj
def smN (p : Nat → Nat) : Nat → Nat
  | 0 => 0
  | n + 1 => smN p n + p n
set_option maxRecDepth 100000 in
set_option maxHeartbeats 4000000 in
theorem t_kr {X : pSX} {d : Nat} {f : Nat → Nat → Int32} {g : Nat → Nat → Int64} {Q : pQT} {ν : Nat → Nat} (hi : ∀ j, j < 4 → f 6 j = nI (ν (17 + j))) (h1 : ∀ i, i < 4 → ν (17 + i) ≤ 1) (hQ : Q (some (.int (nI (smN (fun i => ν (17 + i)) 4)))) (pWo f g)) : pM X d 47 [.ref 1] (pWo f g) Q := by
  refine pM_start (en_47 _) ?_
  first
    | (refine wp_as [4] 400 rfl (by first | rfl | (simp (disch := first | decide | omega) only [nmC, upM_h, upM_a, upM_k, nI_clamp, nI_add, nI_1, Nat.reducePow, Nat.reduceLT, Nat.reduceAdd, Nat.reduceMul, ne_eq, Nat.reduceEqDiff, not_false_eq_true, not_true_eq_false, Nat.zero_add, Nat.add_zero, pIn_ok, pIn_ok2, nbq, cat_i, cat_r, cat_l, cat_fv_1_3, cat_fv_1_9, cat_fv_7_0, cat_fv_7_10, cat_fv_7_15, cat_fv_7_16, bo0, bo1, boN, Bool.and_true, Bool.true_and, Bool.and_self, dnI, ble_ok, List.map_nil, List.map_cons, List.sum_nil, List.sum_cons, Bool.not_false, hi]; first | done | rfl | decide)) ?_; try simp (disch := first | decide | omega) only [nmC, upM_h, upM_a, upM_k, nI_clamp, nI_add, nI_1, Nat.reducePow, Nat.reduceLT, Nat.reduceAdd, Nat.reduceMul, ne_eq, Nat.reduceEqDiff, not_false_eq_true, not_true_eq_false, Nat.zero_add, Nat.add_zero, vpb0, vpb1, vpn, hi])
    | (refine wp_re rfl (by first | rfl | (simp (disch := first | decide | omega) only [nmC, upM_h, upM_a, upM_k, nI_clamp, nI_add, nI_1, Nat.reducePow, Nat.reduceLT, Nat.reduceAdd, Nat.reduceMul, ne_eq, Nat.reduceEqDiff, not_false_eq_true, not_true_eq_false, Nat.zero_add, Nat.add_zero, pIn_ok, pIn_ok2, nbq, cat_i, cat_r, cat_l, cat_fv_1_3, cat_fv_1_9, cat_fv_7_0, cat_fv_7_10, cat_fv_7_15, cat_fv_7_16, bo0, bo1, boN, Bool.and_true, Bool.true_and, Bool.and_self, dnI, ble_ok, List.map_nil, List.map_cons, List.sum_nil, List.sum_cons, Bool.not_false, hi]; first | done | rfl | decide)) ?_)
    | (refine wp_ift rfl (by first | (simp (disch := first | decide | omega) only [nmC, upM_h, upM_a, upM_k, nI_clamp, nI_add, nI_1, Nat.reducePow, Nat.reduceLT, Nat.reduceAdd, Nat.reduceMul, ne_eq, Nat.reduceEqDiff, not_false_eq_true, not_true_eq_false, Nat.zero_add, Nat.add_zero, pCmp, Int32.toInt_toInt64, lN_ti, ngl_ti, nIsub_ti, ad_ti, ml_ti, nI_toInt, sb_negT, Int32.toInt_zero, Int32.lt_iff_toInt_lt, Int32.le_iff_toInt_le, ← Int32.toInt_inj, Int.cast_ofNat_Int, Nat.reducePow, Nat.reduceLT, lgt_gt, lgt_ge, lgt_lt, lgt_le, lgt_eq, id_eq, hi]; first | done | omega)) ?_; try simp (disch := first | decide | omega) only [nmC, upM_h, upM_a, upM_k, nI_clamp, nI_add, nI_1, Nat.reducePow, Nat.reduceLT, Nat.reduceAdd, Nat.reduceMul, ne_eq, Nat.reduceEqDiff, not_false_eq_true, not_true_eq_false, Nat.zero_add, Nat.add_zero, vpb0, vpb1, vpn, hi])
    | (refine wp_iff rfl (by first | (simp (disch := first | decide | omega) only [nmC, upM_h, upM_a, upM_k, nI_clamp, nI_add, nI_1, Nat.reducePow, Nat.reduceLT, Nat.reduceAdd, Nat.reduceMul, ne_eq, Nat.reduceEqDiff, not_false_eq_true, not_true_eq_false, Nat.zero_add, Nat.add_zero, pCmp, Int32.toInt_toInt64, lN_ti, ngl_ti, nIsub_ti, ad_ti, ml_ti, nI_toInt, sb_negT, Int32.toInt_zero, Int32.lt_iff_toInt_lt, Int32.le_iff_toInt_le, ← Int32.toInt_inj, Int.cast_ofNat_Int, Nat.reducePow, Nat.reduceLT, lgt_gt, lgt_ge, lgt_lt, lgt_le, lgt_eq, id_eq, hi]; first | done | omega)) ?_; try simp (disch := first | decide | omega) only [nmC, upM_h, upM_a, upM_k, nI_clamp, nI_add, nI_1, Nat.reducePow, Nat.reduceLT, Nat.reduceAdd, Nat.reduceMul, ne_eq, Nat.reduceEqDiff, not_false_eq_true, not_true_eq_false, Nat.zero_add, Nat.add_zero, vpb0, vpb1, vpn, hi])
    | (refine wp_sw rfl ?_; simp (disch := first | decide | omega) only [pSw_h, pSw_t, pSw_u, pSw_n])
    | (refine wp_if rfl (fun hbr => ?_) (fun hbr => ?_) <;> (try simp (disch := first | decide | omega) only [nmC, upM_h, upM_a, upM_k, nI_clamp, nI_add, nI_1, Nat.reducePow, Nat.reduceLT, Nat.reduceAdd, Nat.reduceMul, ne_eq, Nat.reduceEqDiff, not_false_eq_true, not_true_eq_false, Nat.zero_add, Nat.add_zero, pCmp, Int32.toInt_toInt64, lN_ti, ngl_ti, nIsub_ti, ad_ti, ml_ti, nI_toInt, sb_negT, Int32.toInt_zero, Int32.lt_iff_toInt_lt, Int32.le_iff_toInt_le, ← Int32.toInt_inj, Int.cast_ofNat_Int, Nat.reducePow, Nat.reduceLT, lgt_gt, lgt_ge, lgt_lt, lgt_le, lgt_eq, hi] at hbr) <;> (try simp (disch := first | decide | omega) only [nmC, upM_h, upM_a, upM_k, nI_clamp, nI_add, nI_1, Nat.reducePow, Nat.reduceLT, Nat.reduceAdd, Nat.reduceMul, ne_eq, Nat.reduceEqDiff, not_false_eq_true, not_true_eq_false, Nat.zero_add, Nat.add_zero, vpb0, vpb1, vpn, hi]) <;> (try (exfalso; omega)))
  have hle : ∀ n, n ≤ 4 → smN (fun i => ν (17 + i)) n ≤ n := fun n => by
    induction n with
    | zero => intro _; exact Nat.le_refl 0
    | succ n ih => intro h; have := ih (by omega); have := h1 n (by omega); unfold smN; omega
  refine lpN (fun i (_ : Unit) => True) (fun i _ => pW X d 47 4 [some (.ref 1), some (.int (nI (smN (fun i => ν (17 + i)) i))), some (.int (nI i))] [] (pWo f g) Q) 4 ?_ ?_ 0 () (by omega) trivial
  · intro i _ hi4 _ hk
    have h9 := hk () trivial
    have h1i := h1 i hi4
    have hli := hle i (by omega)
    simp only [smN] at h9
    have : ν (17 + i) = 0 ∨ ν (17 + i) = 1 := by omega
    rcases this with e | e
    · rw [e] at h9
      repeat' first
        | (exact h9)
        | (refine wp_as [4] 400 rfl (by first | rfl | (simp (disch := first | decide | omega) only [nmC, upM_h, upM_a, upM_k, nI_clamp, nI_add, nI_1, Nat.reducePow, Nat.reduceLT, Nat.reduceAdd, Nat.reduceMul, ne_eq, Nat.reduceEqDiff, not_false_eq_true, not_true_eq_false, Nat.zero_add, Nat.add_zero, pIn_ok, pIn_ok2, nbq, cat_i, cat_r, cat_l, cat_fv_1_3, cat_fv_1_9, cat_fv_7_0, cat_fv_7_10, cat_fv_7_15, cat_fv_7_16, bo0, bo1, boN, Bool.and_true, Bool.true_and, Bool.and_self, dnI, ble_ok, List.map_nil, List.map_cons, List.sum_nil, List.sum_cons, Bool.not_false, hi, e]; first | done | rfl | decide)) ?_; try simp (disch := first | decide | omega) only [nmC, upM_h, upM_a, upM_k, nI_clamp, nI_add, nI_1, Nat.reducePow, Nat.reduceLT, Nat.reduceAdd, Nat.reduceMul, ne_eq, Nat.reduceEqDiff, not_false_eq_true, not_true_eq_false, Nat.zero_add, Nat.add_zero, vpb0, vpb1, vpn, hi, e])
        | (refine wp_re rfl (by first | rfl | (simp (disch := first | decide | omega) only [nmC, upM_h, upM_a, upM_k, nI_clamp, nI_add, nI_1, Nat.reducePow, Nat.reduceLT, Nat.reduceAdd, Nat.reduceMul, ne_eq, Nat.reduceEqDiff, not_false_eq_true, not_true_eq_false, Nat.zero_add, Nat.add_zero, pIn_ok, pIn_ok2, nbq, cat_i, cat_r, cat_l, cat_fv_1_3, cat_fv_1_9, cat_fv_7_0, cat_fv_7_10, cat_fv_7_15, cat_fv_7_16, bo0, bo1, boN, Bool.and_true, Bool.true_and, Bool.and_self, dnI, ble_ok, List.map_nil, List.map_cons, List.sum_nil, List.sum_cons, Bool.not_false, hi, e]; first | done | rfl | decide)) ?_)
        | (refine wp_ift rfl (by first | (simp (disch := first | decide | omega) only [nmC, upM_h, upM_a, upM_k, nI_clamp, nI_add, nI_1, Nat.reducePow, Nat.reduceLT, Nat.reduceAdd, Nat.reduceMul, ne_eq, Nat.reduceEqDiff, not_false_eq_true, not_true_eq_false, Nat.zero_add, Nat.add_zero, pCmp, Int32.toInt_toInt64, lN_ti, ngl_ti, nIsub_ti, ad_ti, ml_ti, nI_toInt, sb_negT, Int32.toInt_zero, Int32.lt_iff_toInt_lt, Int32.le_iff_toInt_le, ← Int32.toInt_inj, Int.cast_ofNat_Int, Nat.reducePow, Nat.reduceLT, lgt_gt, lgt_ge, lgt_lt, lgt_le, lgt_eq, id_eq, hi, e]; first | done | omega)) ?_; try simp (disch := first | decide | omega) only [nmC, upM_h, upM_a, upM_k, nI_clamp, nI_add, nI_1, Nat.reducePow, Nat.reduceLT, Nat.reduceAdd, Nat.reduceMul, ne_eq, Nat.reduceEqDiff, not_false_eq_true, not_true_eq_false, Nat.zero_add, Nat.add_zero, vpb0, vpb1, vpn, hi, e])
        | (refine wp_iff rfl (by first | (simp (disch := first | decide | omega) only [nmC, upM_h, upM_a, upM_k, nI_clamp, nI_add, nI_1, Nat.reducePow, Nat.reduceLT, Nat.reduceAdd, Nat.reduceMul, ne_eq, Nat.reduceEqDiff, not_false_eq_true, not_true_eq_false, Nat.zero_add, Nat.add_zero, pCmp, Int32.toInt_toInt64, lN_ti, ngl_ti, nIsub_ti, ad_ti, ml_ti, nI_toInt, sb_negT, Int32.toInt_zero, Int32.lt_iff_toInt_lt, Int32.le_iff_toInt_le, ← Int32.toInt_inj, Int.cast_ofNat_Int, Nat.reducePow, Nat.reduceLT, lgt_gt, lgt_ge, lgt_lt, lgt_le, lgt_eq, id_eq, hi, e]; first | done | omega)) ?_; try simp (disch := first | decide | omega) only [nmC, upM_h, upM_a, upM_k, nI_clamp, nI_add, nI_1, Nat.reducePow, Nat.reduceLT, Nat.reduceAdd, Nat.reduceMul, ne_eq, Nat.reduceEqDiff, not_false_eq_true, not_true_eq_false, Nat.zero_add, Nat.add_zero, vpb0, vpb1, vpn, hi, e])
        | (refine wp_sw rfl ?_; simp (disch := first | decide | omega) only [pSw_h, pSw_t, pSw_u, pSw_n])
        | (refine wp_if rfl (fun hbr => ?_) (fun hbr => ?_) <;> (try simp (disch := first | decide | omega) only [nmC, upM_h, upM_a, upM_k, nI_clamp, nI_add, nI_1, Nat.reducePow, Nat.reduceLT, Nat.reduceAdd, Nat.reduceMul, ne_eq, Nat.reduceEqDiff, not_false_eq_true, not_true_eq_false, Nat.zero_add, Nat.add_zero, pCmp, Int32.toInt_toInt64, lN_ti, ngl_ti, nIsub_ti, ad_ti, ml_ti, nI_toInt, sb_negT, Int32.toInt_zero, Int32.lt_iff_toInt_lt, Int32.le_iff_toInt_le, ← Int32.toInt_inj, Int.cast_ofNat_Int, Nat.reducePow, Nat.reduceLT, lgt_gt, lgt_ge, lgt_lt, lgt_le, lgt_eq, hi, e] at hbr) <;> (try simp (disch := first | decide | omega) only [nmC, upM_h, upM_a, upM_k, nI_clamp, nI_add, nI_1, Nat.reducePow, Nat.reduceLT, Nat.reduceAdd, Nat.reduceMul, ne_eq, Nat.reduceEqDiff, not_false_eq_true, not_true_eq_false, Nat.zero_add, Nat.add_zero, vpb0, vpb1, vpn, hi, e]) <;> (try (exfalso; omega)))
    · rw [e] at h9
      repeat' first
        | (exact h9)
        | (refine wp_as [4] 400 rfl (by first | rfl | (simp (disch := first | decide | omega) only [nmC, upM_h, upM_a, upM_k, nI_clamp, nI_add, nI_1, Nat.reducePow, Nat.reduceLT, Nat.reduceAdd, Nat.reduceMul, ne_eq, Nat.reduceEqDiff, not_false_eq_true, not_true_eq_false, Nat.zero_add, Nat.add_zero, pIn_ok, pIn_ok2, nbq, cat_i, cat_r, cat_l, cat_fv_1_3, cat_fv_1_9, cat_fv_7_0, cat_fv_7_10, cat_fv_7_15, cat_fv_7_16, bo0, bo1, boN, Bool.and_true, Bool.true_and, Bool.and_self, dnI, ble_ok, List.map_nil, List.map_cons, List.sum_nil, List.sum_cons, Bool.not_false, hi, e]; first | done | rfl | decide)) ?_; try simp (disch := first | decide | omega) only [nmC, upM_h, upM_a, upM_k, nI_clamp, nI_add, nI_1, Nat.reducePow, Nat.reduceLT, Nat.reduceAdd, Nat.reduceMul, ne_eq, Nat.reduceEqDiff, not_false_eq_true, not_true_eq_false, Nat.zero_add, Nat.add_zero, vpb0, vpb1, vpn, hi, e])
        | (refine wp_re rfl (by first | rfl | (simp (disch := first | decide | omega) only [nmC, upM_h, upM_a, upM_k, nI_clamp, nI_add, nI_1, Nat.reducePow, Nat.reduceLT, Nat.reduceAdd, Nat.reduceMul, ne_eq, Nat.reduceEqDiff, not_false_eq_true, not_true_eq_false, Nat.zero_add, Nat.add_zero, pIn_ok, pIn_ok2, nbq, cat_i, cat_r, cat_l, cat_fv_1_3, cat_fv_1_9, cat_fv_7_0, cat_fv_7_10, cat_fv_7_15, cat_fv_7_16, bo0, bo1, boN, Bool.and_true, Bool.true_and, Bool.and_self, dnI, ble_ok, List.map_nil, List.map_cons, List.sum_nil, List.sum_cons, Bool.not_false, hi, e]; first | done | rfl | decide)) ?_)
        | (refine wp_ift rfl (by first | (simp (disch := first | decide | omega) only [nmC, upM_h, upM_a, upM_k, nI_clamp, nI_add, nI_1, Nat.reducePow, Nat.reduceLT, Nat.reduceAdd, Nat.reduceMul, ne_eq, Nat.reduceEqDiff, not_false_eq_true, not_true_eq_false, Nat.zero_add, Nat.add_zero, pCmp, Int32.toInt_toInt64, lN_ti, ngl_ti, nIsub_ti, ad_ti, ml_ti, nI_toInt, sb_negT, Int32.toInt_zero, Int32.lt_iff_toInt_lt, Int32.le_iff_toInt_le, ← Int32.toInt_inj, Int.cast_ofNat_Int, Nat.reducePow, Nat.reduceLT, lgt_gt, lgt_ge, lgt_lt, lgt_le, lgt_eq, id_eq, hi, e]; first | done | omega)) ?_; try simp (disch := first | decide | omega) only [nmC, upM_h, upM_a, upM_k, nI_clamp, nI_add, nI_1, Nat.reducePow, Nat.reduceLT, Nat.reduceAdd, Nat.reduceMul, ne_eq, Nat.reduceEqDiff, not_false_eq_true, not_true_eq_false, Nat.zero_add, Nat.add_zero, vpb0, vpb1, vpn, hi, e])
        | (refine wp_iff rfl (by first | (simp (disch := first | decide | omega) only [nmC, upM_h, upM_a, upM_k, nI_clamp, nI_add, nI_1, Nat.reducePow, Nat.reduceLT, Nat.reduceAdd, Nat.reduceMul, ne_eq, Nat.reduceEqDiff, not_false_eq_true, not_true_eq_false, Nat.zero_add, Nat.add_zero, pCmp, Int32.toInt_toInt64, lN_ti, ngl_ti, nIsub_ti, ad_ti, ml_ti, nI_toInt, sb_negT, Int32.toInt_zero, Int32.lt_iff_toInt_lt, Int32.le_iff_toInt_le, ← Int32.toInt_inj, Int.cast_ofNat_Int, Nat.reducePow, Nat.reduceLT, lgt_gt, lgt_ge, lgt_lt, lgt_le, lgt_eq, id_eq, hi, e]; first | done | omega)) ?_; try simp (disch := first | decide | omega) only [nmC, upM_h, upM_a, upM_k, nI_clamp, nI_add, nI_1, Nat.reducePow, Nat.reduceLT, Nat.reduceAdd, Nat.reduceMul, ne_eq, Nat.reduceEqDiff, not_false_eq_true, not_true_eq_false, Nat.zero_add, Nat.add_zero, vpb0, vpb1, vpn, hi, e])
        | (refine wp_sw rfl ?_; simp (disch := first | decide | omega) only [pSw_h, pSw_t, pSw_u, pSw_n])
        | (refine wp_if rfl (fun hbr => ?_) (fun hbr => ?_) <;> (try simp (disch := first | decide | omega) only [nmC, upM_h, upM_a, upM_k, nI_clamp, nI_add, nI_1, Nat.reducePow, Nat.reduceLT, Nat.reduceAdd, Nat.reduceMul, ne_eq, Nat.reduceEqDiff, not_false_eq_true, not_true_eq_false, Nat.zero_add, Nat.add_zero, pCmp, Int32.toInt_toInt64, lN_ti, ngl_ti, nIsub_ti, ad_ti, ml_ti, nI_toInt, sb_negT, Int32.toInt_zero, Int32.lt_iff_toInt_lt, Int32.le_iff_toInt_le, ← Int32.toInt_inj, Int.cast_ofNat_Int, Nat.reducePow, Nat.reduceLT, lgt_gt, lgt_ge, lgt_lt, lgt_le, lgt_eq, hi, e] at hbr) <;> (try simp (disch := first | decide | omega) only [nmC, upM_h, upM_a, upM_k, nI_clamp, nI_add, nI_1, Nat.reducePow, Nat.reduceLT, Nat.reduceAdd, Nat.reduceMul, ne_eq, Nat.reduceEqDiff, not_false_eq_true, not_true_eq_false, Nat.zero_add, Nat.add_zero, vpb0, vpb1, vpn, hi, e]) <;> (try (exfalso; omega)))
  · intro _ _
    repeat' first
      | (exact hQ)
      | (refine wp_as [] 400 rfl (by first | rfl | (simp (disch := first | decide | omega) only [nmC, upM_h, upM_a, upM_k, nI_clamp, nI_add, nI_1, Nat.reducePow, Nat.reduceLT, Nat.reduceAdd, Nat.reduceMul, ne_eq, Nat.reduceEqDiff, not_false_eq_true, not_true_eq_false, Nat.zero_add, Nat.add_zero, pIn_ok, pIn_ok2, nbq, cat_i, cat_r, cat_l, cat_fv_1_3, cat_fv_1_9, cat_fv_7_0, cat_fv_7_10, cat_fv_7_15, cat_fv_7_16, bo0, bo1, boN, Bool.and_true, Bool.true_and, Bool.and_self, dnI, ble_ok, List.map_nil, List.map_cons, List.sum_nil, List.sum_cons, Bool.not_false]; first | done | rfl | decide)) ?_; try simp (disch := first | decide | omega) only [nmC, upM_h, upM_a, upM_k, nI_clamp, nI_add, nI_1, Nat.reducePow, Nat.reduceLT, Nat.reduceAdd, Nat.reduceMul, ne_eq, Nat.reduceEqDiff, not_false_eq_true, not_true_eq_false, Nat.zero_add, Nat.add_zero, vpb0, vpb1, vpn])
      | (refine wp_re rfl (by first | rfl | (simp (disch := first | decide | omega) only [nmC, upM_h, upM_a, upM_k, nI_clamp, nI_add, nI_1, Nat.reducePow, Nat.reduceLT, Nat.reduceAdd, Nat.reduceMul, ne_eq, Nat.reduceEqDiff, not_false_eq_true, not_true_eq_false, Nat.zero_add, Nat.add_zero, pIn_ok, pIn_ok2, nbq, cat_i, cat_r, cat_l, cat_fv_1_3, cat_fv_1_9, cat_fv_7_0, cat_fv_7_10, cat_fv_7_15, cat_fv_7_16, bo0, bo1, boN, Bool.and_true, Bool.true_and, Bool.and_self, dnI, ble_ok, List.map_nil, List.map_cons, List.sum_nil, List.sum_cons, Bool.not_false]; first | done | rfl | decide)) ?_)
      | (refine wp_ift rfl (by first | (simp (disch := first | decide | omega) only [nmC, upM_h, upM_a, upM_k, nI_clamp, nI_add, nI_1, Nat.reducePow, Nat.reduceLT, Nat.reduceAdd, Nat.reduceMul, ne_eq, Nat.reduceEqDiff, not_false_eq_true, not_true_eq_false, Nat.zero_add, Nat.add_zero, pCmp, Int32.toInt_toInt64, lN_ti, ngl_ti, nIsub_ti, ad_ti, ml_ti, nI_toInt, sb_negT, Int32.toInt_zero, Int32.lt_iff_toInt_lt, Int32.le_iff_toInt_le, ← Int32.toInt_inj, Int.cast_ofNat_Int, Nat.reducePow, Nat.reduceLT, lgt_gt, lgt_ge, lgt_lt, lgt_le, lgt_eq, id_eq]; first | done | omega)) ?_; try simp (disch := first | decide | omega) only [nmC, upM_h, upM_a, upM_k, nI_clamp, nI_add, nI_1, Nat.reducePow, Nat.reduceLT, Nat.reduceAdd, Nat.reduceMul, ne_eq, Nat.reduceEqDiff, not_false_eq_true, not_true_eq_false, Nat.zero_add, Nat.add_zero, vpb0, vpb1, vpn])
      | (refine wp_iff rfl (by first | (simp (disch := first | decide | omega) only [nmC, upM_h, upM_a, upM_k, nI_clamp, nI_add, nI_1, Nat.reducePow, Nat.reduceLT, Nat.reduceAdd, Nat.reduceMul, ne_eq, Nat.reduceEqDiff, not_false_eq_true, not_true_eq_false, Nat.zero_add, Nat.add_zero, pCmp, Int32.toInt_toInt64, lN_ti, ngl_ti, nIsub_ti, ad_ti, ml_ti, nI_toInt, sb_negT, Int32.toInt_zero, Int32.lt_iff_toInt_lt, Int32.le_iff_toInt_le, ← Int32.toInt_inj, Int.cast_ofNat_Int, Nat.reducePow, Nat.reduceLT, lgt_gt, lgt_ge, lgt_lt, lgt_le, lgt_eq, id_eq]; first | done | omega)) ?_; try simp (disch := first | decide | omega) only [nmC, upM_h, upM_a, upM_k, nI_clamp, nI_add, nI_1, Nat.reducePow, Nat.reduceLT, Nat.reduceAdd, Nat.reduceMul, ne_eq, Nat.reduceEqDiff, not_false_eq_true, not_true_eq_false, Nat.zero_add, Nat.add_zero, vpb0, vpb1, vpn])
      | (refine wp_sw rfl ?_; simp (disch := first | decide | omega) only [pSw_h, pSw_t, pSw_u, pSw_n])
      | (refine wp_if rfl (fun hbr => ?_) (fun hbr => ?_) <;> (try simp (disch := first | decide | omega) only [nmC, upM_h, upM_a, upM_k, nI_clamp, nI_add, nI_1, Nat.reducePow, Nat.reduceLT, Nat.reduceAdd, Nat.reduceMul, ne_eq, Nat.reduceEqDiff, not_false_eq_true, not_true_eq_false, Nat.zero_add, Nat.add_zero, pCmp, Int32.toInt_toInt64, lN_ti, ngl_ti, nIsub_ti, ad_ti, ml_ti, nI_toInt, sb_negT, Int32.toInt_zero, Int32.lt_iff_toInt_lt, Int32.le_iff_toInt_le, ← Int32.toInt_inj, Int.cast_ofNat_Int, Nat.reducePow, Nat.reduceLT, lgt_gt, lgt_ge, lgt_lt, lgt_le, lgt_eq] at hbr) <;> (try simp (disch := first | decide | omega) only [nmC, upM_h, upM_a, upM_k, nI_clamp, nI_add, nI_1, Nat.reducePow, Nat.reduceLT, Nat.reduceAdd, Nat.reduceMul, ne_eq, Nat.reduceEqDiff, not_false_eq_true, not_true_eq_false, Nat.zero_add, Nat.add_zero, vpb0, vpb1, vpn]) <;> (try (exfalso; omega)))
