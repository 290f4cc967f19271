/-! the long run, all stores tried -/
def okA (K a : Nat) : Bool := (List.range 6).all fun b => (List.range 6).all fun c => (List.range 6).all fun d => Nat.ble 7 (a + b + c + d) || (Nat.beq (a + b + c + d) 0 || okQ K (f4 a b c d))
set_option maxRecDepth 1000000 in
set_option maxHeartbeats 40000000 in
theorem okA_0_0 : okA 0 0 = true := by decide +kernel
set_option maxRecDepth 1000000 in
set_option maxHeartbeats 40000000 in
theorem okA_0_1 : okA 0 1 = true := by decide +kernel
set_option maxRecDepth 1000000 in
set_option maxHeartbeats 40000000 in
theorem okA_0_2 : okA 0 2 = true := by decide +kernel
set_option maxRecDepth 1000000 in
set_option maxHeartbeats 40000000 in
theorem okA_0_3 : okA 0 3 = true := by decide +kernel
set_option maxRecDepth 1000000 in
set_option maxHeartbeats 40000000 in
theorem okA_0_4 : okA 0 4 = true := by decide +kernel
set_option maxRecDepth 1000000 in
set_option maxHeartbeats 40000000 in
theorem okA_0_5 : okA 0 5 = true := by decide +kernel
set_option maxRecDepth 1000000 in
set_option maxHeartbeats 40000000 in
theorem okA_1_0 : okA 1 0 = true := by decide +kernel
set_option maxRecDepth 1000000 in
set_option maxHeartbeats 40000000 in
theorem okA_1_1 : okA 1 1 = true := by decide +kernel
set_option maxRecDepth 1000000 in
set_option maxHeartbeats 40000000 in
theorem okA_1_2 : okA 1 2 = true := by decide +kernel
set_option maxRecDepth 1000000 in
set_option maxHeartbeats 40000000 in
theorem okA_1_3 : okA 1 3 = true := by decide +kernel
set_option maxRecDepth 1000000 in
set_option maxHeartbeats 40000000 in
theorem okA_1_4 : okA 1 4 = true := by decide +kernel
set_option maxRecDepth 1000000 in
set_option maxHeartbeats 40000000 in
theorem okA_1_5 : okA 1 5 = true := by decide +kernel
theorem okA_all {K a : Nat} (hK : K < 2) (ha : a < 6) : okA K a = true := by
  have h : K = 0 ∨ K = 1 := by omega
  have h' : a = 0 ∨ a = 1 ∨ a = 2 ∨ a = 3 ∨ a = 4 ∨ a = 5 := by omega
  rcases h with rfl | rfl <;> rcases h' with rfl | rfl | rfl | rfl | rfl | rfl
  · exact okA_0_0
  · exact okA_0_1
  · exact okA_0_2
  · exact okA_0_3
  · exact okA_0_4
  · exact okA_0_5
  · exact okA_1_0
  · exact okA_1_1
  · exact okA_1_2
  · exact okA_1_3
  · exact okA_1_4
  · exact okA_1_5
theorem parts_ok {K C T : Nat} {c q r : Nat → Nat} (S : STO K C T c q) (R : RU C r) : okM C (fun s t => mv K q (s + r s) t) (S4 q) := by
  have hk : (if K = 1 then 1 else 0) < 2 := by split <;> omega
  have b0 := S.bq 0 (by omega)
  have b1 := S.bq 1 (by omega)
  have b2 := S.bq 2 (by omega)
  have b3 := S.bq 3 (by omega)
  have k := okA_all hk (a := q 0) (by omega)
  unfold okA at k
  simp only [List.all_eq_true, List.mem_range] at k
  have k := k (q 1) (by omega) (q 2) (by omega) (q 3) (by omega)
  have s1 := S.bS1
  have s6 := S.bS6
  unfold S4 at s1 s6
  have e1 : Nat.ble 7 (q 0 + q 1 + q 2 + q 3) = false := by
    rw [← Bool.not_eq_true, Nat.ble_eq]; omega
  have e2 : Nat.beq (q 0 + q 1 + q 2 + q 3) 0 = false := by
    rw [← Bool.not_eq_true, Nat.beq_eq]; omega
  rw [e1, e2, Bool.false_or, Bool.false_or] at k
  have k := okQ_ok k S.bC1 S.bC3 R
  refine okM_cg (fun s t _ _ => ?_) S.bC3 k
  exact mv_K.symm
