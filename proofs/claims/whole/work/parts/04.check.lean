/-! the tables are those of the bytecode -/
def pChk2 (k pc : Nat) (q : pXI) : Bool := match q.1 with
  | .iconst n => decide (Int32.ofInt n = pC n) && Nat.beq q.2.1 1
  | .bipush n => decide ((Int8.ofInt n).toInt32 = pC n) && Nat.beq q.2.1 2
  | .sipush n => decide ((Int16.ofInt n).toInt32 = pC n) && Nat.beq q.2.1 3
  | .lconst _ => Nat.beq q.2.1 1
  | .ldc i => pLKC.contains (pCi k, i, q.2.2.2.1) && Nat.beq q.2.1 2
  | .ldc2_w i => pLKL.contains (pCi k, i, q.2.2.1, q.2.2.2.1) && Nat.beq q.2.1 3
  | .aconst_null => Nat.beq q.2.1 1
  | .iload _ => Nat.beq q.2.1 2
  | .iload_n _ => Nat.beq q.2.1 1
  | .lload _ => Nat.beq q.2.1 2
  | .lload_n _ => Nat.beq q.2.1 1
  | .aload _ => Nat.beq q.2.1 2
  | .aload_n _ => Nat.beq q.2.1 1
  | .istore i => Nat.blt i (pL k) && Nat.beq q.2.1 2
  | .istore_n i => Nat.blt i (pL k) && Nat.beq q.2.1 1
  | .lstore i => Nat.blt (i + 1) (pL k) && Nat.beq q.2.1 2
  | .lstore_n i => Nat.blt (i + 1) (pL k) && Nat.beq q.2.1 1
  | .astore i => Nat.blt i (pL k) && Nat.beq q.2.1 2
  | .astore_n i => Nat.blt i (pL k) && Nat.beq q.2.1 1
  | .iinc i n => Nat.blt i (pL k) && (decide (Int32.ofInt n = pC n) && Nat.beq q.2.1 3)
  | .goto off => decide ((pc : Int) + off = (q.2.2.1 : Int)) && Nat.beq q.2.1 3
  | .ifnull off => decide ((pc : Int) + off = (q.2.2.1 : Int)) && Nat.beq q.2.1 3
  | .ifnonnull off => decide ((pc : Int) + off = (q.2.2.1 : Int)) && Nat.beq q.2.1 3
  | .ifCond _ off => decide ((pc : Int) + off = (q.2.2.1 : Int)) && Nat.beq q.2.1 3
  | .if_icmp _ off => decide ((pc : Int) + off = (q.2.2.1 : Int)) && Nat.beq q.2.1 3
  | .tableswitch d lo hi offs => decide (lo = 0) && (decide (hi + 1 = (offs.size : Int)) && (decide ((pc : Int) + d = (q.2.2.1 : Int)) && (decide (q.2.2.2.2 = offs.toList.zipIdx.map fun o => (o.2, ((pc : Int) + o.1).toNat)) && (offs.toList.all (fun o => decide (0 ≤ (pc : Int) + o)) && Nat.blt offs.size 2147483648))))
  | .lookupswitch d ps => decide ((pc : Int) + d = (q.2.2.1 : Int)) && (decide (q.2.2.2.2 = ps.toList.map fun o => (o.1.toNat, ((pc : Int) + o.2).toNat)) && (ps.toList.all (fun o => decide (0 ≤ o.1) && (decide (o.1 < 2147483648) && decide (0 ≤ (pc : Int) + o.2))) && (ps.toList.zip (ps.toList.drop 1)).all (fun (a, next) => a.1 < next.1)))
  | .getfield i => pLKF.contains (pCi k, i, q.2.2.1, q.2.2.2.1) && (Nat.blt q.2.2.1 8 && (Nat.blt q.2.2.2.1 (pN q.2.2.1) && Nat.beq q.2.1 3))
  | .putfield i => pLKF.contains (pCi k, i, q.2.2.1, q.2.2.2.1) && (Nat.blt q.2.2.1 8 && (Nat.blt q.2.2.2.1 (pN q.2.2.1) && (Nat.beq q.2.1 3 && (!(pT q.2.2.1 q.2.2.2.1).2.2.2 || (Nat.beq (pKd k) 2 && Nat.beq (pCi k) q.2.2.1)))))
  | .new i => pLKK.contains (pCi k, i, q.2.2.1) && (Nat.blt q.2.2.1 8 && Nat.beq q.2.1 3)
  | .newarray t => Nat.beq q.2.1 2 && (decide (newarray.typeOf t = .int) || (decide (newarray.typeOf t = .long) || (decide (newarray.typeOf t = .byte) || decide (newarray.typeOf t = .boolean))))
  | .anewarray i => pLKK.contains (pCi k, i, q.2.2.1) && (Nat.beq q.2.2.1 4 && Nat.beq q.2.1 3)
  | .invokespecial i => Nat.beq q.2.1 3 && (bif Nat.beq q.2.2.1 1004 then pLKS.contains (pCi k, i, q.2.2.1) else (pLKM.contains (pCi k, i, q.2.2.1) || pLKN.contains (pCi k, i, q.2.2.1)) && (Nat.beq (pKd q.2.2.1) 2 && (Nat.beq q.2.2.2.1 (pAn q.2.2.1 + 1) && Nat.blt q.2.2.1 210)))
  | .invokestatic i => Nat.beq q.2.1 3 && (bif Nat.ble 1000 q.2.2.1 then pLKS.contains (pCi k, i, q.2.2.1) else (pLKM.contains (pCi k, i, q.2.2.1) || pLKN.contains (pCi k, i, q.2.2.1)) && (Nat.beq (pKd q.2.2.1) 0 && (Nat.beq q.2.2.2.1 (pAn q.2.2.1) && Nat.blt q.2.2.1 210)))
  | .invokevirtual i => Nat.beq q.2.1 3 && (pLKM.contains (pCi k, i, q.2.2.1) && (Nat.beq (pKd q.2.2.1) 1 && (Nat.beq q.2.2.2.1 (pAn q.2.2.1 + 1) && Nat.blt q.2.2.1 210)))
  | .lreturn => decide (pRt k = some .long) && Nat.beq q.2.1 1
  | .areturn => decide (pRt k = some (.object "ReorderMind$Tape")) && Nat.beq q.2.1 1
  | .return_ => decide (pRt k = none) && Nat.beq q.2.1 1
  | _ => Nat.beq q.2.1 1
def pChk (k pc : Nat) (q : pXI) : Bool := decide (decode (pB k) pc = .ok (q.1, q.2.1)) && pChk2 k pc q
def pChkP (k pc : Nat) : Bool := match pct k pc with
  | some q => pChk k pc q
  | none => true
def pChkM (k : Nat) : Bool := (List.range (pLen k)).all (pChkP k)
theorem pck_0 : (List.range' 0 15).all pChkM = true := by decide +kernel
theorem pck_1 : (List.range' 15 15).all pChkM = true := by decide +kernel
theorem pck_2 : (List.range' 30 15).all pChkM = true := by decide +kernel
theorem pck_3 : (List.range' 45 15).all pChkM = true := by decide +kernel
theorem pck_4 : (List.range' 60 15).all pChkM = true := by decide +kernel
theorem pck_5 : (List.range' 75 15).all pChkM = true := by decide +kernel
theorem pck_6 : (List.range' 90 15).all pChkM = true := by decide +kernel
theorem pck_7 : (List.range' 105 15).all pChkM = true := by decide +kernel
theorem pck_8 : (List.range' 120 15).all pChkM = true := by decide +kernel
theorem pck_9 : (List.range' 135 15).all pChkM = true := by decide +kernel
theorem pck_10 : (List.range' 150 15).all pChkM = true := by decide +kernel
theorem pck_11 : (List.range' 165 15).all pChkM = true := by decide +kernel
theorem pck_12 : (List.range' 180 15).all pChkM = true := by decide +kernel
theorem pck_13 : (List.range' 195 15).all pChkM = true := by decide +kernel
theorem pcl_0 : (List.range' 0 100).all (pChkP 210) = true := by decide +kernel
theorem pcl_1 : (List.range' 100 100).all (pChkP 210) = true := by decide +kernel
theorem pcl_2 : (List.range' 200 100).all (pChkP 210) = true := by decide +kernel
theorem pcl_3 : (List.range' 300 100).all (pChkP 210) = true := by decide +kernel
theorem pcl_4 : (List.range' 400 100).all (pChkP 210) = true := by decide +kernel
theorem pcl_5 : (List.range' 500 100).all (pChkP 210) = true := by decide +kernel
theorem pcl_6 : (List.range' 600 100).all (pChkP 210) = true := by decide +kernel
theorem pcl_7 : (List.range' 700 100).all (pChkP 210) = true := by decide +kernel
theorem pcl_8 : (List.range' 800 100).all (pChkP 210) = true := by decide +kernel
theorem pcl_9 : (List.range' 900 100).all (pChkP 210) = true := by decide +kernel
theorem pcl_10 : (List.range' 1000 100).all (pChkP 210) = true := by decide +kernel
theorem pcl_11 : (List.range' 1100 100).all (pChkP 210) = true := by decide +kernel
theorem pcl_12 : (List.range' 1200 100).all (pChkP 210) = true := by decide +kernel
theorem pcl_13 : (List.range' 1300 100).all (pChkP 210) = true := by decide +kernel
theorem pcl_14 : (List.range' 1400 100).all (pChkP 210) = true := by decide +kernel
theorem pcl_15 : (List.range' 1500 100).all (pChkP 210) = true := by decide +kernel
theorem pcl_16 : (List.range' 1600 100).all (pChkP 210) = true := by decide +kernel
theorem pcl_17 : (List.range' 1700 61).all (pChkP 210) = true := by decide +kernel
theorem pck_law (pc : Nat) (hp : pc < 1761) : pChkP 210 pc = true := by
  have h : ∀ (a c : Nat), (List.range' a c).all (pChkP 210) = true → a ≤ pc → pc < a + c → pChkP 210 pc = true := fun a c h h1 h2 => List.all_eq_true.mp h pc (List.mem_range'_1.mpr ⟨h1, h2⟩)
  by_cases h0 : pc < 100
  · exact h 0 100 pcl_0 (by omega) (by omega)
  by_cases h1 : pc < 200
  · exact h 100 100 pcl_1 (by omega) (by omega)
  by_cases h2 : pc < 300
  · exact h 200 100 pcl_2 (by omega) (by omega)
  by_cases h3 : pc < 400
  · exact h 300 100 pcl_3 (by omega) (by omega)
  by_cases h4 : pc < 500
  · exact h 400 100 pcl_4 (by omega) (by omega)
  by_cases h5 : pc < 600
  · exact h 500 100 pcl_5 (by omega) (by omega)
  by_cases h6 : pc < 700
  · exact h 600 100 pcl_6 (by omega) (by omega)
  by_cases h7 : pc < 800
  · exact h 700 100 pcl_7 (by omega) (by omega)
  by_cases h8 : pc < 900
  · exact h 800 100 pcl_8 (by omega) (by omega)
  by_cases h9 : pc < 1000
  · exact h 900 100 pcl_9 (by omega) (by omega)
  by_cases h10 : pc < 1100
  · exact h 1000 100 pcl_10 (by omega) (by omega)
  by_cases h11 : pc < 1200
  · exact h 1100 100 pcl_11 (by omega) (by omega)
  by_cases h12 : pc < 1300
  · exact h 1200 100 pcl_12 (by omega) (by omega)
  by_cases h13 : pc < 1400
  · exact h 1300 100 pcl_13 (by omega) (by omega)
  by_cases h14 : pc < 1500
  · exact h 1400 100 pcl_14 (by omega) (by omega)
  by_cases h15 : pc < 1600
  · exact h 1500 100 pcl_15 (by omega) (by omega)
  by_cases h16 : pc < 1700
  · exact h 1600 100 pcl_16 (by omega) (by omega)
  by_cases h17 : pc < 1761
  · exact h 1700 61 pcl_17 (by omega) (by omega)
  omega
theorem pck_n (k : Nat) (hk : ¬ k < 211) : pLen k = 0 := by
  have h1 : ∀ j, j < 211 → Nat.beq k j = false := fun j hj => by
    cases h : Nat.beq k j with
    | false => rfl
    | true => exact absurd (Nat.eq_of_beq_eq_true h) (by omega)
  have h2 : ∀ j, j < 211 → Nat.blt k j = false := fun j hj => by
    cases h : Nat.blt k j with
    | false => rfl
    | true => exact absurd (Nat.le_of_ble_eq_true h) (by omega)
  unfold pLen
  simp only [h1, h2, cond_false, Nat.reduceLT]
theorem pck_k (k : Nat) (hk : k < 210) : pChkM k = true := by
  have h : ∀ (a c : Nat), (List.range' a c).all pChkM = true → a ≤ k → k < a + c → pChkM k = true := fun a c h h1 h2 => List.all_eq_true.mp h k (List.mem_range'_1.mpr ⟨h1, h2⟩)
  by_cases h0 : k < 15
  · exact h 0 15 pck_0 (by omega) (by omega)
  by_cases h1 : k < 30
  · exact h 15 15 pck_1 (by omega) (by omega)
  by_cases h2 : k < 45
  · exact h 30 15 pck_2 (by omega) (by omega)
  by_cases h3 : k < 60
  · exact h 45 15 pck_3 (by omega) (by omega)
  by_cases h4 : k < 75
  · exact h 60 15 pck_4 (by omega) (by omega)
  by_cases h5 : k < 90
  · exact h 75 15 pck_5 (by omega) (by omega)
  by_cases h6 : k < 105
  · exact h 90 15 pck_6 (by omega) (by omega)
  by_cases h7 : k < 120
  · exact h 105 15 pck_7 (by omega) (by omega)
  by_cases h8 : k < 135
  · exact h 120 15 pck_8 (by omega) (by omega)
  by_cases h9 : k < 150
  · exact h 135 15 pck_9 (by omega) (by omega)
  by_cases h10 : k < 165
  · exact h 150 15 pck_10 (by omega) (by omega)
  by_cases h11 : k < 180
  · exact h 165 15 pck_11 (by omega) (by omega)
  by_cases h12 : k < 195
  · exact h 180 15 pck_12 (by omega) (by omega)
  by_cases h13 : k < 210
  · exact h 195 15 pck_13 (by omega) (by omega)
  omega
theorem pChk_ok {k pc : Nat} {q : pXI} (h : pCode k pc = some q) : pChk k pc q = true := by
  unfold pCode at h
  cases hb : Nat.blt pc (pLen k) with
  | false => rw [hb] at h; cases h
  | true =>
    rw [hb] at h
    have hlt : pc < pLen k := Nat.le_of_ble_eq_true hb
    have h2 : pct k pc = some q := h
    have h3 : pChkP k pc = true := by
      by_cases hk : k < 210
      · exact List.all_eq_true.mp (pck_k k hk) pc (List.mem_range.mpr hlt)
      · by_cases hk2 : k < 211
        · have e : k = 210 := by omega
          subst e
          exact pck_law pc (Nat.lt_of_lt_of_le hlt (Nat.le_of_ble_eq_true rfl))
        · rw [pck_n k hk2] at hlt
          omega
    unfold pChkP at h3
    rw [h2] at h3
    exact h3
