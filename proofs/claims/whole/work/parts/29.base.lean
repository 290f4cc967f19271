/-! the calls, one by one -/
theorem nmC : (pC (-14) = -nI 14) ∧ (pC (-13) = -nI 13) ∧ (pC (-12) = -nI 12) ∧ (pC (-11) = -nI 11) ∧ (pC (-10) = -nI 10) ∧ (pC (-6) = -nI 6) ∧ (pC (-5) = -nI 5) ∧ (pC (-4) = -nI 4) ∧ (pC (-3) = -nI 3) ∧ (pC (-2) = -nI 2) ∧ (pC (-1) = -nI 1) ∧ (pC (0) = nI 0) ∧ (pC (1) = nI 1) ∧ (pC (2) = nI 2) ∧ (pC (3) = nI 3) ∧ (pC (4) = nI 4) ∧ (pC (5) = nI 5) ∧ (pC (6) = nI 6) ∧ (pC (7) = nI 7) ∧ (pC (8) = nI 8) ∧ (pC (9) = nI 9) ∧ (pC (10) = nI 10) ∧ (pC (11) = nI 11) ∧ (pC (12) = nI 12) ∧ (pC (13) = nI 13) ∧ (pC (14) = nI 14) ∧ (pC (15) = nI 15) ∧ (pC (16) = nI 16) ∧ (pC (17) = nI 17) ∧ (pC (18) = nI 18) ∧ (pC (19) = nI 19) ∧ (pC (20) = nI 20) ∧ (pC (21) = nI 21) ∧ (pC (30) = nI 30) ∧ (pC (32) = nI 32) ∧ (pC (35) = nI 35) ∧ (pC (41) = nI 41) ∧ (pC (42) = nI 42) ∧ (pC (43) = nI 43) ∧ (pC (48) = nI 48) ∧ (pC (52) = nI 52) ∧ (pC (53) = nI 53) ∧ (pC (54) = nI 54) ∧ (pC (59) = nI 59) ∧ (pC (60) = nI 60) ∧ (pC (63) = nI 63) ∧ (pC (69) = nI 69) ∧ (pC (70) = nI 70) ∧ (pC (71) = nI 71) ∧ (pC (72) = nI 72) ∧ (pC (73) = nI 73) ∧ (pC (75) = nI 75) ∧ (pC (94) = nI 94) ∧ (pC (97) = nI 97) ∧ (pC (99) = nI 99) ∧ (pC (100) = nI 100) ∧ (pC (103) = nI 103) ∧ (pC (114) = nI 114) ∧ (pC (119) = nI 119) ∧ (pC (127) = nI 127) ∧ (pC (200) = nI 200) ∧ (pC (360) = nI 360) ∧ (pC (9999) = nI 9999) ∧ (pC (12345) = nI 12345) ∧ (pCL 0 2 = lN 2) ∧ (pCL 0 3 = lN 3) ∧ (pCL 0 4 = lN 4) ∧ (pCL 0 5 = lN 5) ∧ (pCL 0 6 = lN 6) ∧ (pCL 0 10 = lN 10) ∧ (pCL 0 15 = lN 15) ∧ (pCL 0 30 = lN 30) ∧ (pCL 0 48 = lN 48) ∧ (pCL 0 99 = lN 99) ∧ (pCL 0 127 = lN 127) ∧ (pCL 0 2147483647 = lN 2147483647) ∧ (pCL 0 4294967295 = lN 4294967295) ∧ (pCL 1 1 = -lN 1) ∧ (pCL 1 2147483648 = -lN 2147483648) ∧ (pCL 1 9223372036854775808 = -lN 9223372036854775808) := ⟨rfl, rfl, rfl, rfl, rfl, rfl, rfl, rfl, rfl, rfl, rfl, rfl, rfl, rfl, rfl, rfl, rfl, rfl, rfl, rfl, rfl, rfl, rfl, rfl, rfl, rfl, rfl, rfl, rfl, rfl, rfl, rfl, rfl, rfl, rfl, rfl, rfl, rfl, rfl, rfl, rfl, rfl, rfl, rfl, rfl, rfl, rfl, rfl, rfl, rfl, rfl, rfl, rfl, rfl, rfl, rfl, rfl, rfl, rfl, rfl, rfl, rfl, rfl, rfl, rfl, rfl, rfl, rfl, rfl, rfl, rfl, rfl, rfl, rfl, rfl, rfl, rfl, rfl, rfl, rfl⟩
theorem lN_ti {n : Nat} (h : n < 2 ^ 63) : (lN n).toInt = n := by
  rw [iL_lN, iL_toInt (by omega) (by omega)]
theorem ngl_ti {n : Nat} (h : n < 2 ^ 63) : (-lN n).toInt = -(n : Int) := by
  rw [iL_lN, iL_neg, iL_toInt (by omega) (by omega)]
theorem nIsub_ti {a b : Nat} (ha : a < 2 ^ 30) (hb : b < 2 ^ 30) : (nI a - nI b).toInt = (a : Int) - b := by
  rw [Int32.toInt_sub, nI_toInt (by omega), nI_toInt (by omega), Int.bmod_def]
  split <;> omega
theorem i32_iL (a : Int32) : a.toInt64 = iL a.toInt := by
  apply Int64.toInt_inj.mp
  have h1 := Int32.toInt_lt a
  have h2 := Int32.le_toInt a
  rw [Int32.toInt_toInt64, iL_toInt (by omega) (by omega)]
theorem ad_ti (a b : Int32) : (a.toInt64 + b.toInt64).toInt = a.toInt + b.toInt := by
  have h1 := Int32.toInt_lt a
  have h2 := Int32.le_toInt a
  have h3 := Int32.toInt_lt b
  have h4 := Int32.le_toInt b
  rw [i32_iL, i32_iL, iL_add, iL_toInt (by omega) (by omega)]
theorem ml_ti (a b : Int32) : (a.toInt64 * b.toInt64).toInt = a.toInt * b.toInt := by
  have h1 := Int32.toInt_lt a
  have h2 := Int32.le_toInt a
  have h3 := Int32.toInt_lt b
  have h4 := Int32.le_toInt b
  have e : (a.toInt * b.toInt).natAbs ≤ 2 ^ 31 * 2 ^ 31 := by rw [Int.natAbs_mul]; exact Nat.mul_le_mul (by omega) (by omega)
  rw [i32_iL, i32_iL, iL_mul, iL_toInt (by omega) (by omega)]
theorem vpb0 : vp_nar .boolean (nI 0) = nI 0 := by decide
theorem vpb1 : vp_nar .boolean (nI 1) = nI 1 := by decide
theorem vpn {n : Nat} (h : n < 128) : vp_nar .byte (nI n) = nI n := by
  have : ∀ n : Fin 128, vp_nar .byte (nI n.val) = nI n.val := by decide +kernel
  exact this ⟨n, h⟩
theorem cat_l {x : Int64} : (Value.long x).category = 2 := rfl
theorem bo0 : (decide (nI 0 = nI 0) || decide (nI 0 = nI 1)) = true := rfl
theorem bo1 : (decide (nI 1 = nI 0) || decide (nI 1 = nI 1)) = true := by decide
theorem boN {n : Nat} (h : n ≤ 1) : (decide (nI n = nI 0) || decide (nI n = nI 1)) = true := by
  have : n = 0 ∨ n = 1 := by omega
  rcases this with rfl | rfl <;> decide
theorem nI_inj {a b : Nat} (ha : a < 2 ^ 31) (hb : b < 2 ^ 31) (h : nI a = nI b) : a = b := by
  have := congrArg Int32.toInt h
  rw [nI_toInt ha, nI_toInt hb] at this
  omega
theorem nI_ne_of {x : Int32} {c : Nat} (hc : c < 2 ^ 31) (h : x.toInt < c ∨ (c : Int) < x.toInt) : x ≠ nI c := fun e => by
  rw [e, nI_toInt hc] at h
  omega
theorem pSw_h {v : Int32} {c t d : Nat} {r : List (Nat × Nat)} (h : v = nI c) : pSw ((c, t) :: r) d v = t := by
  unfold pSw; rw [if_pos h]
theorem pSw_t {v : Int32} {c t d : Nat} {r : List (Nat × Nat)} (h : v ≠ nI c) : pSw ((c, t) :: r) d v = pSw r d v := by
  rw [pSw, if_neg h]
theorem pSw_u {v : Int32} {c t d : Nat} {r : List (Nat × Nat)} (hc : c < 2 ^ 31) (h : v.toInt < c ∨ (c : Int) < v.toInt) : pSw ((c, t) :: r) d v = pSw r d v := pSw_t (nI_ne_of hc h)
theorem pSw_n {v : Int32} {d : Nat} : pSw [] d v = d := rfl
/-- a number changes on both sides -/
theorem INV.one {f : Nat → Nat → Int32} {g : Nat → Nat → Int64} {ν : Nat → Nat} {sd bl : Int32} (R : REST f g) (H : HC ν sd bl f 1) (M : HM ν sd bl f 67) (k v : Nat) {a j : Nat} (w : WF (upN ν k v)) (hk : k < 97) (h16 : k < 16 ∨ 41 ≤ k) (h6 : k ≠ 69 ∧ k ≠ 70) (ha : 1 + (ca k).1 = a) (hj : (ca k).2 = j) : INV (upM (upM f a j (nI v)) 67 k (nI v)) g := by
  have ha12 : 1 ≤ a ∧ a ≤ 12 := by have := ca_le ⟨k, hk⟩; dsimp only at this; omega
  refine INV.up R w ((H.sn k v hk h16 h6 ha hj).fr (fun x h1 h2 => upM_b (by omega))) (HM.sn (M.fr (upM_b (by omega))) k v h6) (fun x h1 h2 => ?_)
  rw [upM_b (by omega), upM_b (by omega)]
theorem INV.sed {f : Nat → Nat → Int32} {g : Nat → Nat → Int64} {ν : Nat → Nat} {sd bl : Int32} (R : REST f g) (H : HC ν sd bl f 1) (M : HM ν sd bl f 67) (w : WF ν) (v : Int32) : INV (upM (upM f 1 4 v) 67 69 v) g := by
  refine INV.up R w ((H.ssd v rfl).fr (fun x h1 h2 => upM_b (by omega))) (HM.ssd (M.fr (upM_b (by omega))) v) (fun x h1 h2 => ?_)
  rw [upM_b (by omega), upM_b (by omega)]
theorem INV.bal {f : Nat → Nat → Int32} {g : Nat → Nat → Int64} {ν : Nat → Nat} {sd bl : Int32} (R : REST f g) (H : HC ν sd bl f 1) (M : HM ν sd bl f 67) (w : WF ν) (v : Int32) : INV (upM (upM f 1 5 v) 67 70 v) g := by
  refine INV.up R w ((H.sbl v rfl).fr (fun x h1 h2 => upM_b (by omega))) (HM.sbl (M.fr (upM_b (by omega))) v) (fun x h1 h2 => ?_)
  rw [upM_b (by omega), upM_b (by omega)]
theorem rlN_up {ν : Nat → Nat} {o k v : Nat} (h : k < o ∨ o + 5 ≤ k) : rlN (upN ν k v) o = rlN ν o := by
  funext s
  unfold rlN
  split
  · rw [upN_n (by omega)]
  · rfl
/-- a number below the rules may change within its bounds -/
theorem WF.lo {ν : Nat → Nat} (w : WF ν) {k v : Nat} (hk : 2 ≤ k ∧ k < 12) (h2 : k = 2 → v ≤ ν 1) (h3 : 3 ≤ k → k ≤ 5 → v ≤ 9) (h6 : k = 6 → v ≤ 20) (h7 : k = 7 → v ≤ 9) (h8 : 8 ≤ k → v ≤ 5 ∧ 1 ≤ upN ν k v 8 + upN ν k v 9 + upN ν k v 10 + upN ν k v 11 ∧ upN ν k v 8 + upN ν k v 9 + upN ν k v 10 + upN ν k v 11 ≤ 6) : WF (upN ν k v) := by
  obtain ⟨w0, w1, w1', w2, w3, w6, w7, w8, w8a, w8b, wr, wi, wk, ws, ws2, wp, wp2, w71, wl, wl2⟩ := w
  have e : ∀ i, i < 2 ∨ 12 ≤ i → upN ν k v i = ν i := fun i hi => upN_n (by omega)
  refine ⟨?_, ?_, ?_, ?_, fun j hj => ?_, ?_, ?_, fun j hj => ?_, ?_, ?_, ?_, fun i hi => ?_, fun i hi hi2 => ?_, ?_, fun j hj => ?_, ?_, fun j hj => ?_, ?_, ?_, fun j hj => ?_⟩
  · rw [e 0 (by omega)]; exact w0
  · rw [e 1 (by omega)]; exact w1
  · rw [e 1 (by omega)]; exact w1'
  · rw [e 1 (by omega)]; unfold upN; split <;> omega
  · have := w3 j hj; unfold upN; split <;> omega
  · unfold upN; split <;> omega
  · unfold upN; split <;> omega
  · have := w8 j hj; unfold upN; split <;> omega
  · by_cases h : 8 ≤ k
    · exact (h8 h).2.1
    · rw [upN_n (by omega), upN_n (by omega), upN_n (by omega), upN_n (by omega)]; exact w8a
  · by_cases h : 8 ≤ k
    · exact (h8 h).2.2
    · rw [upN_n (by omega), upN_n (by omega), upN_n (by omega), upN_n (by omega)]; exact w8b
  · rw [e 1 (by omega), rlN_up (by omega)]; exact wr
  · rw [e _ (by omega)]; exact wi i hi
  · rw [e _ (by omega)] at hi2
    rw [e 1 (by omega), rlN_up (by omega)]; exact wk i hi hi2
  · rw [e _ (by omega)]; exact ws
  · rw [e 41 (by omega)] at hj
    rw [e _ (by omega), e _ (by omega), e 1 (by omega)]; exact ws2 j hj
  · rw [e _ (by omega)]; exact wp
  · rw [e 52 (by omega)] at hj
    rw [e _ (by omega), e _ (by omega)]; exact wp2 j hj
  · rw [e _ (by omega)]; exact w71
  · rw [e _ (by omega)]; exact wl
  · rw [e 72 (by omega)] at hj
    rw [e _ (by omega), e _ (by omega), e _ (by omega)]; exact wl2 j hj
abbrev pZ (v : Int32) : pQT := fun r w => ∃ f' g', r = some (.int v) ∧ w = pWo f' g' ∧ INV f' g'
abbrev pZL (v : Int64) : pQT := fun r w => ∃ f' g', r = some (.long v) ∧ w = pWo f' g' ∧ INV f' g'
