/-! the reference: worth -/
def cB (j : Nat) : Nat := if j = 5 then 18000 else 60
theorem cB_le {j : Nat} : cB j ≤ 18000 := by unfold cB; split <;> omega
theorem na_mul {x y : Int} {X Y : Nat} (hx : x.natAbs ≤ X) (hy : y.natAbs ≤ Y) : (x * y).natAbs ≤ X * Y := by
  rw [Int.natAbs_mul]; exact Nat.mul_le_mul hx hy
section BD
variable {n : Nat} {a : Nat → Nat → Int} {B : Nat → Nat} (ha : ∀ i j, i < n → (a i j).natAbs ≤ B j)
theorem b_d2 (ha : ∀ i j, i < n → (a i j).natAbs ≤ B j) {r s i j : Nat} (hr : r < n) (hs : s < n) : (d2 a r s i j).natAbs ≤ 2 * (B i * B j) := by
  have h1 := na_mul (ha r i hr) (ha s j hs)
  have h2 := na_mul (ha r j hr) (ha s i hs)
  rw [Nat.mul_comm (B j)] at h2
  unfold d2
  omega
theorem b_d3 (ha : ∀ i j, i < n → (a i j).natAbs ≤ B j) {r s t i j k : Nat} (hr : r < n) (hs : s < n) (ht : t < n) : (d3 a r s t i j k).natAbs ≤ 6 * (B i * (B j * B k)) := by
  have h1 := na_mul (ha r i hr) (b_d2 ha hs ht (i := j) (j := k))
  have h2 := na_mul (ha r j hr) (b_d2 ha hs ht (i := i) (j := k))
  have h3 := na_mul (ha r k hr) (b_d2 ha hs ht (i := i) (j := j))
  have e1 : B i * (2 * (B j * B k)) = 2 * (B i * (B j * B k)) := by ac_rfl
  have e2 : B j * (2 * (B i * B k)) = 2 * (B i * (B j * B k)) := by ac_rfl
  have e3 : B k * (2 * (B i * B j)) = 2 * (B i * (B j * B k)) := by ac_rfl
  rw [e1] at h1; rw [e2] at h2; rw [e3] at h3
  unfold d3
  omega
theorem b_d4 (ha : ∀ i j, i < n → (a i j).natAbs ≤ B j) {r s t u i j k l : Nat} (hr : r < n) (hs : s < n) (ht : t < n) (hu : u < n) : (d4 a r s t u i j k l).natAbs ≤ 24 * (B i * (B j * (B k * B l))) := by
  have h1 := na_mul (ha r i hr) (b_d3 ha hs ht hu (i := j) (j := k) (k := l))
  have h2 := na_mul (ha r j hr) (b_d3 ha hs ht hu (i := i) (j := k) (k := l))
  have h3 := na_mul (ha r k hr) (b_d3 ha hs ht hu (i := i) (j := j) (k := l))
  have h4 := na_mul (ha r l hr) (b_d3 ha hs ht hu (i := i) (j := j) (k := k))
  have e1 : B i * (6 * (B j * (B k * B l))) = 6 * (B i * (B j * (B k * B l))) := by ac_rfl
  have e2 : B j * (6 * (B i * (B k * B l))) = 6 * (B i * (B j * (B k * B l))) := by ac_rfl
  have e3 : B k * (6 * (B i * (B j * B l))) = 6 * (B i * (B j * (B k * B l))) := by ac_rfl
  have e4 : B l * (6 * (B i * (B j * B k))) = 6 * (B i * (B j * (B k * B l))) := by ac_rfl
  rw [e1] at h1; rw [e2] at h2; rw [e3] at h3; rw [e4] at h4
  unfold d4
  omega
end BD
theorem cB0 : cB 0 = 60 := rfl
theorem cB1 : cB 1 = 60 := rfl
theorem cB2 : cB 2 = 60 := rfl
theorem cB3 : cB 3 = 60 := rfl
theorem b_MS {n : Nat} {a : Nat → Nat → Int} (ha : ∀ i j, i < n → (a i j).natAbs ≤ cB j) (k : Nat) {i j : Nat} (hk : k ≤ n) (hk4 : k ≤ 4) (hi : i < n) : (MS a k i j).natAbs ≤ 93312000000 := by
  have hj := cB_le (j := j)
  rcases (show k = 0 ∨ k = 1 ∨ k = 2 ∨ k = 3 ∨ k = 4 by omega) with rfl | rfl | rfl | rfl | rfl
  · have := ha i j hi
    show (a i j).natAbs ≤ _
    omega
  · have h1 := ha 0 j (by omega)
    have h2 := b_d2 ha (r := 0) (s := i) (by omega) hi (i := 0) (j := j)
    rw [cB0] at h2
    show (if i = 0 then a 0 j else d2 a 0 i 0 j).natAbs ≤ _
    split <;> omega
  · have h1 := b_d2 ha (r := 0) (s := 1) (by omega) (by omega) (i := j) (j := 1)
    have h2 := b_d2 ha (r := 0) (s := 1) (by omega) (by omega) (i := 0) (j := j)
    have h3 := b_d3 ha (r := 0) (s := 1) (t := i) (by omega) (by omega) hi (i := 0) (j := 1) (k := j)
    rw [cB1] at h1; rw [cB0] at h2; rw [cB0, cB1] at h3
    show (if i = 0 then d2 a 0 1 j 1 else if i = 1 then d2 a 0 1 0 j else d3 a 0 1 i 0 1 j).natAbs ≤ _
    split
    · omega
    · split <;> omega
  · have h1 := b_d3 ha (r := 0) (s := 1) (t := 2) (by omega) (by omega) (by omega) (i := j) (j := 1) (k := 2)
    have h2 := b_d3 ha (r := 0) (s := 1) (t := 2) (by omega) (by omega) (by omega) (i := 0) (j := j) (k := 2)
    have h3 := b_d3 ha (r := 0) (s := 1) (t := 2) (by omega) (by omega) (by omega) (i := 0) (j := 1) (k := j)
    have h4 := b_d4 ha (r := 0) (s := 1) (t := 2) (u := i) (by omega) (by omega) (by omega) hi (i := 0) (j := 1) (k := 2) (l := j)
    rw [cB1, cB2] at h1; rw [cB0, cB2] at h2; rw [cB0, cB1] at h3; rw [cB0, cB1, cB2] at h4
    show (if i = 0 then d3 a 0 1 2 j 1 2 else if i = 1 then d3 a 0 1 2 0 j 2 else if i = 2 then d3 a 0 1 2 0 1 j else d4 a 0 1 2 i 0 1 2 j).natAbs ≤ _
    split
    · omega
    · split
      · omega
      · split <;> omega
  · have h1 := b_d4 ha (r := 0) (s := 1) (t := 2) (u := 3) (by omega) (by omega) (by omega) (by omega) (i := j) (j := 1) (k := 2) (l := 3)
    have h2 := b_d4 ha (r := 0) (s := 1) (t := 2) (u := 3) (by omega) (by omega) (by omega) (by omega) (i := 0) (j := j) (k := 2) (l := 3)
    have h3 := b_d4 ha (r := 0) (s := 1) (t := 2) (u := 3) (by omega) (by omega) (by omega) (by omega) (i := 0) (j := 1) (k := j) (l := 3)
    have h4 := b_d4 ha (r := 0) (s := 1) (t := 2) (u := 3) (by omega) (by omega) (by omega) (by omega) (i := 0) (j := 1) (k := 2) (l := j)
    rw [cB1, cB2, cB3] at h1; rw [cB0, cB2, cB3] at h2; rw [cB0, cB1, cB3] at h3; rw [cB0, cB1, cB2] at h4
    show (if i = 0 then d4 a 0 1 2 3 j 1 2 3 else if i = 1 then d4 a 0 1 2 3 0 j 2 3 else if i = 2 then d4 a 0 1 2 3 0 1 j 3 else d4 a 0 1 2 3 0 1 2 j).natAbs ≤ _
    split
    · omega
    · split
      · omega
      · split <;> omega
theorem b_WD {n : Nat} {a : Nat → Nat → Int} (ha : ∀ i j, i < n → (a i j).natAbs ≤ cB j) {k : Nat} (hk : k < n) (hk4 : k < 4) : (WD a k).natAbs ≤ 1296000 := by
  rcases (show k = 0 ∨ k = 1 ∨ k = 2 ∨ k = 3 by omega) with rfl | rfl | rfl | rfl
  · show (1 : Int).natAbs ≤ _; omega
  · have := ha 0 0 (by omega)
    rw [cB0] at this
    show (a 0 0).natAbs ≤ _
    omega
  · have h1 := b_d2 ha (r := 0) (s := 1) (by omega) (by omega) (i := 0) (j := 1)
    rw [cB0, cB1] at h1
    show (d2 a 0 1 0 1).natAbs ≤ _
    omega
  · have h1 := b_d3 ha (r := 0) (s := 1) (t := 2) (by omega) (by omega) (by omega) (i := 0) (j := 1) (k := 2)
    rw [cB0, cB1, cB2] at h1
    show (d3 a 0 1 2 0 1 2).natAbs ≤ _
    omega
set_option maxHeartbeats 4000000 in
theorem t_slv {X : pSX} {d : Nat} {f : Nat → Nat → Int32} {g : Nat → Nat → Int64} {Q : pQT} {n : Nat} {a : Nat → Nat → Int} (hn : n ≤ 4) (ha : ∀ i j, i < n → (a i j).natAbs ≤ cB j) (hW : ∀ k, k < n → WD a k ≠ 0) (h0 : ∀ u v, u < n → v < 6 → g 73 (6 * u + v) = iL (a u v))
    (hQ : ∀ g', (∀ a, a ≠ 73 → a ≠ 66 → g' a = g a) → (∀ u v, u < n → v < 6 → g' 73 (6 * u + v) = iL (MS a n u v)) → g' 66 12 = iL (WD a n) → Q none (pWo f g')) : pM X d 150 [.ref 66, .int (nI n)] (pWo f g) Q := by
  refine t_sol (Ms := MS a) (W := WD a) hn h0 rfl (fun k hk => ?_) (fun k hk => ?_) (fun k v hk hv => ?_) (fun k u v hk hu huk hv => ?_) (fun k u v hk hu huk hv => ?_) hQ
  · rcases (show k = 0 ∨ k = 1 ∨ k = 2 ∨ k = 3 by omega) with rfl | rfl | rfl | rfl <;> rfl
  · have := b_WD ha hk (by omega)
    exact ⟨hW k hk, by omega, by omega⟩
  · rcases (show k = 0 ∨ k = 1 ∨ k = 2 ∨ k = 3 by omega) with rfl | rfl | rfl | rfl <;> rfl
  · rcases (show k = 0 ∨ k = 1 ∨ k = 2 ∨ k = 3 by omega) with rfl | rfl | rfl | rfl
    · exact ms_0 huk
    · exact ms_1 huk
    · exact ms_2 huk
    · exact ms_3 (by omega)
  · have h1 := b_MS ha (k + 1) (j := v) (by omega) (by omega) hu
    have h2 := b_WD ha hk (by omega)
    have h3 := na_mul h1 h2
    omega
/-- the lines of worth -/
def LW (K C T : Nat) (c q r : Nat → Nat) (s t : Nat) : Int := if t = 5 then ((10 : Nat) : Int) * ((cb K c q s (r s) : Nat) : Int) else if t ≤ C then mxr K q r 10 T s t else 0
theorem LW_b {K C T : Nat} {c q r : Nat → Nat} (S : STO K C T c q) (R : RU C r) (i j : Nat) (hi : i < C + 1) : (LW K C T c q r i j).natAbs ≤ cB j := by
  have hr := R.1 i (by omega)
  have hC := S.bC3
  unfold LW cB
  split
  · have := cbp_le2 (K := K) (c := c) (q := q) (s := i) (a := r i) S.bc (by omega)
    have h6 := S.bS6
    omega
  · split
    · have h1 := mv_sum (K := K) (q := q) (y := i + r i) (by omega)
      have h6 := S.bS6
      have h7 : mv K q (i + r i) j ≤ 6 := by
        rcases (show j = 0 ∨ j = 1 ∨ j = 2 ∨ j = 3 by omega) with rfl | rfl | rfl | rfl <;> omega
      have h8 : T * mv K q (i + r i) j ≤ 9 * 6 := Nat.mul_le_mul S.bT h7
      unfold mxr
      have e : (T : Int) * ((mv K q (i + r i) j : Nat) : Int) = ((T * mv K q (i + r i) j : Nat) : Int) := by rw [Int.natCast_mul]
      rw [e]
      split <;> omega
    · simp
set_option maxHeartbeats 4000000 in
theorem LW_x {K C T : Nat} {c q r : Nat → Nat} (h1 : 1 ≤ C) (h3 : C ≤ 3) : WD (LW K C T c q r) (C + 1) = wtD K C T q r ∧ ∀ s, s < C + 1 → MS (LW K C T c q r) (C + 1) s 5 = wtN K C T c q r s := by
  have e5 : ∀ s, LW K C T c q r s 5 = ((10 : Nat) : Int) * ((cb K c q s (r s) : Nat) : Int) := fun s => rfl
  have el : ∀ s t, t ≤ C → LW K C T c q r s t = mxr K q r 10 T s t := fun s t ht => by unfold LW; rw [if_neg (by omega), if_pos ht]
  have ma : ∀ u t, t < 4 → mxe K C q r 10 T (4 * u + t) = if u ≤ C then mxr K q r 10 T u t else if u = t then 1 else 0 := fun u t ht => mxe_at ht
  have m0 := ma 0 0 (by omega); have m1 := ma 0 1 (by omega); have m2 := ma 0 2 (by omega); have m3 := ma 0 3 (by omega)
  have m4 := ma 1 0 (by omega); have m5 := ma 1 1 (by omega); have m6 := ma 1 2 (by omega); have m7 := ma 1 3 (by omega)
  have m8 := ma 2 0 (by omega); have m9 := ma 2 1 (by omega); have m10 := ma 2 2 (by omega); have m11 := ma 2 3 (by omega)
  have m12 := ma 3 0 (by omega); have m13 := ma 3 1 (by omega); have m14 := ma 3 2 (by omega); have m15 := ma 3 3 (by omega)
  simp only [Nat.reduceMul, Nat.reduceAdd] at m0 m1 m2 m3 m4 m5 m6 m7 m8 m9 m10 m11 m12 m13 m14 m15
  have r0 : rhv K C c q r 0 = ((10 : Nat) : Int) * ((cb K c q 0 (r 0) : Nat) : Int) := by unfold rhv; rw [if_pos (by omega)]
  have r1 : rhv K C c q r 1 = ((10 : Nat) : Int) * ((cb K c q 1 (r 1) : Nat) : Int) := by unfold rhv; rw [if_pos (by omega)]
  have r2 : rhv K C c q r 2 = if 2 ≤ C then ((10 : Nat) : Int) * ((cb K c q 2 (r 2) : Nat) : Int) else 0 := rfl
  have r3 : rhv K C c q r 3 = if 3 ≤ C then ((10 : Nat) : Int) * ((cb K c q 3 (r 3) : Nat) : Int) else 0 := rfl
  rcases (show C = 1 ∨ C = 2 ∨ C = 3 by omega) with rfl | rfl | rfl
  · refine ⟨?_, fun s hs => ?_⟩
    · simp (disch := omega) only [WD, wtD, d2, d3, d4, dt4, pr4, reduceIte, Nat.reduceEqDiff, Nat.one_ne_zero, Nat.reduceLeDiff, Nat.le_refl, Nat.zero_le, Nat.reduceAdd, Nat.reduceMul, Nat.mul_zero, Nat.zero_add, Nat.add_zero, m0, m1, m2, m3, m4, m5, m6, m7, m8, m9, m10, m11, m12, m13, m14, m15, el]
      try simp only [if_neg (show ¬ 2 ≤ 1 by omega), if_neg (show ¬ 3 ≤ 1 by omega), if_neg (show ¬ 3 ≤ 2 by omega), reduceIte, Nat.reduceEqDiff, Nat.one_ne_zero, Nat.reduceLeDiff, Nat.le_refl, Nat.zero_le, Nat.reduceAdd, Nat.reduceMul, Nat.mul_zero, Nat.zero_add, Nat.add_zero, m0, m1, m2, m3, m4, m5, m6, m7, m8, m9, m10, m11, m12, m13, m14, m15]
      grind
    · rcases (show s = 0 ∨ s = 1 by omega) with rfl | rfl
      · simp (disch := omega) only [MS, wtN, d2, d3, d4, dt4, pr4, cg4, Nat.reduceMod, Nat.reduceDiv, Nat.zero_mod, Nat.zero_div, Nat.zero_ne_one, reduceIte, Nat.reduceEqDiff, Nat.one_ne_zero, Nat.reduceLeDiff, Nat.le_refl, Nat.zero_le, Nat.reduceAdd, Nat.reduceMul, Nat.mul_zero, Nat.zero_add, Nat.add_zero, m0, m1, m2, m3, m4, m5, m6, m7, m8, m9, m10, m11, m12, m13, m14, m15, el, e5, r0, r1, r2, r3]
        try simp only [if_neg (show ¬ 2 ≤ 1 by omega), if_neg (show ¬ 3 ≤ 1 by omega), if_neg (show ¬ 3 ≤ 2 by omega), reduceIte, Nat.reduceEqDiff, Nat.one_ne_zero, Nat.reduceLeDiff, Nat.le_refl, Nat.zero_le, Nat.reduceAdd, Nat.reduceMul, Nat.mul_zero, Nat.zero_add, Nat.add_zero, m0, m1, m2, m3, m4, m5, m6, m7, m8, m9, m10, m11, m12, m13, m14, m15]
        grind
      · simp (disch := omega) only [MS, wtN, d2, d3, d4, dt4, pr4, cg4, Nat.reduceMod, Nat.reduceDiv, Nat.zero_mod, Nat.zero_div, Nat.zero_ne_one, reduceIte, Nat.reduceEqDiff, Nat.one_ne_zero, Nat.reduceLeDiff, Nat.le_refl, Nat.zero_le, Nat.reduceAdd, Nat.reduceMul, Nat.mul_zero, Nat.zero_add, Nat.add_zero, m0, m1, m2, m3, m4, m5, m6, m7, m8, m9, m10, m11, m12, m13, m14, m15, el, e5, r0, r1, r2, r3]
        try simp only [if_neg (show ¬ 2 ≤ 1 by omega), if_neg (show ¬ 3 ≤ 1 by omega), if_neg (show ¬ 3 ≤ 2 by omega), reduceIte, Nat.reduceEqDiff, Nat.one_ne_zero, Nat.reduceLeDiff, Nat.le_refl, Nat.zero_le, Nat.reduceAdd, Nat.reduceMul, Nat.mul_zero, Nat.zero_add, Nat.add_zero, m0, m1, m2, m3, m4, m5, m6, m7, m8, m9, m10, m11, m12, m13, m14, m15]
        grind
  · refine ⟨?_, fun s hs => ?_⟩
    · simp (disch := omega) only [WD, wtD, d2, d3, d4, dt4, pr4, reduceIte, Nat.reduceEqDiff, Nat.one_ne_zero, Nat.reduceLeDiff, Nat.le_refl, Nat.zero_le, Nat.reduceAdd, Nat.reduceMul, Nat.mul_zero, Nat.zero_add, Nat.add_zero, m0, m1, m2, m3, m4, m5, m6, m7, m8, m9, m10, m11, m12, m13, m14, m15, el]
      try simp only [if_neg (show ¬ 2 ≤ 1 by omega), if_neg (show ¬ 3 ≤ 1 by omega), if_neg (show ¬ 3 ≤ 2 by omega), reduceIte, Nat.reduceEqDiff, Nat.one_ne_zero, Nat.reduceLeDiff, Nat.le_refl, Nat.zero_le, Nat.reduceAdd, Nat.reduceMul, Nat.mul_zero, Nat.zero_add, Nat.add_zero, m0, m1, m2, m3, m4, m5, m6, m7, m8, m9, m10, m11, m12, m13, m14, m15]
      grind
    · rcases (show s = 0 ∨ s = 1 ∨ s = 2 by omega) with rfl | rfl | rfl
      · simp (disch := omega) only [MS, wtN, d2, d3, d4, dt4, pr4, cg4, Nat.reduceMod, Nat.reduceDiv, Nat.zero_mod, Nat.zero_div, Nat.zero_ne_one, reduceIte, Nat.reduceEqDiff, Nat.one_ne_zero, Nat.reduceLeDiff, Nat.le_refl, Nat.zero_le, Nat.reduceAdd, Nat.reduceMul, Nat.mul_zero, Nat.zero_add, Nat.add_zero, m0, m1, m2, m3, m4, m5, m6, m7, m8, m9, m10, m11, m12, m13, m14, m15, el, e5, r0, r1, r2, r3]
        try simp only [if_neg (show ¬ 2 ≤ 1 by omega), if_neg (show ¬ 3 ≤ 1 by omega), if_neg (show ¬ 3 ≤ 2 by omega), reduceIte, Nat.reduceEqDiff, Nat.one_ne_zero, Nat.reduceLeDiff, Nat.le_refl, Nat.zero_le, Nat.reduceAdd, Nat.reduceMul, Nat.mul_zero, Nat.zero_add, Nat.add_zero, m0, m1, m2, m3, m4, m5, m6, m7, m8, m9, m10, m11, m12, m13, m14, m15]
        grind
      · simp (disch := omega) only [MS, wtN, d2, d3, d4, dt4, pr4, cg4, Nat.reduceMod, Nat.reduceDiv, Nat.zero_mod, Nat.zero_div, Nat.zero_ne_one, reduceIte, Nat.reduceEqDiff, Nat.one_ne_zero, Nat.reduceLeDiff, Nat.le_refl, Nat.zero_le, Nat.reduceAdd, Nat.reduceMul, Nat.mul_zero, Nat.zero_add, Nat.add_zero, m0, m1, m2, m3, m4, m5, m6, m7, m8, m9, m10, m11, m12, m13, m14, m15, el, e5, r0, r1, r2, r3]
        try simp only [if_neg (show ¬ 2 ≤ 1 by omega), if_neg (show ¬ 3 ≤ 1 by omega), if_neg (show ¬ 3 ≤ 2 by omega), reduceIte, Nat.reduceEqDiff, Nat.one_ne_zero, Nat.reduceLeDiff, Nat.le_refl, Nat.zero_le, Nat.reduceAdd, Nat.reduceMul, Nat.mul_zero, Nat.zero_add, Nat.add_zero, m0, m1, m2, m3, m4, m5, m6, m7, m8, m9, m10, m11, m12, m13, m14, m15]
        grind
      · simp (disch := omega) only [MS, wtN, d2, d3, d4, dt4, pr4, cg4, Nat.reduceMod, Nat.reduceDiv, Nat.zero_mod, Nat.zero_div, Nat.zero_ne_one, reduceIte, Nat.reduceEqDiff, Nat.one_ne_zero, Nat.reduceLeDiff, Nat.le_refl, Nat.zero_le, Nat.reduceAdd, Nat.reduceMul, Nat.mul_zero, Nat.zero_add, Nat.add_zero, m0, m1, m2, m3, m4, m5, m6, m7, m8, m9, m10, m11, m12, m13, m14, m15, el, e5, r0, r1, r2, r3]
        try simp only [if_neg (show ¬ 2 ≤ 1 by omega), if_neg (show ¬ 3 ≤ 1 by omega), if_neg (show ¬ 3 ≤ 2 by omega), reduceIte, Nat.reduceEqDiff, Nat.one_ne_zero, Nat.reduceLeDiff, Nat.le_refl, Nat.zero_le, Nat.reduceAdd, Nat.reduceMul, Nat.mul_zero, Nat.zero_add, Nat.add_zero, m0, m1, m2, m3, m4, m5, m6, m7, m8, m9, m10, m11, m12, m13, m14, m15]
        grind
  · refine ⟨?_, fun s hs => ?_⟩
    · simp (disch := omega) only [WD, wtD, d2, d3, d4, dt4, pr4, reduceIte, Nat.reduceEqDiff, Nat.one_ne_zero, Nat.reduceLeDiff, Nat.le_refl, Nat.zero_le, Nat.reduceAdd, Nat.reduceMul, Nat.mul_zero, Nat.zero_add, Nat.add_zero, m0, m1, m2, m3, m4, m5, m6, m7, m8, m9, m10, m11, m12, m13, m14, m15, el]
      try simp only [if_neg (show ¬ 2 ≤ 1 by omega), if_neg (show ¬ 3 ≤ 1 by omega), if_neg (show ¬ 3 ≤ 2 by omega), reduceIte, Nat.reduceEqDiff, Nat.one_ne_zero, Nat.reduceLeDiff, Nat.le_refl, Nat.zero_le, Nat.reduceAdd, Nat.reduceMul, Nat.mul_zero, Nat.zero_add, Nat.add_zero, m0, m1, m2, m3, m4, m5, m6, m7, m8, m9, m10, m11, m12, m13, m14, m15]
      grind
    · rcases (show s = 0 ∨ s = 1 ∨ s = 2 ∨ s = 3 by omega) with rfl | rfl | rfl | rfl
      · simp (disch := omega) only [MS, wtN, d2, d3, d4, dt4, pr4, cg4, Nat.reduceMod, Nat.reduceDiv, Nat.zero_mod, Nat.zero_div, Nat.zero_ne_one, reduceIte, Nat.reduceEqDiff, Nat.one_ne_zero, Nat.reduceLeDiff, Nat.le_refl, Nat.zero_le, Nat.reduceAdd, Nat.reduceMul, Nat.mul_zero, Nat.zero_add, Nat.add_zero, m0, m1, m2, m3, m4, m5, m6, m7, m8, m9, m10, m11, m12, m13, m14, m15, el, e5, r0, r1, r2, r3]
        try simp only [if_neg (show ¬ 2 ≤ 1 by omega), if_neg (show ¬ 3 ≤ 1 by omega), if_neg (show ¬ 3 ≤ 2 by omega), reduceIte, Nat.reduceEqDiff, Nat.one_ne_zero, Nat.reduceLeDiff, Nat.le_refl, Nat.zero_le, Nat.reduceAdd, Nat.reduceMul, Nat.mul_zero, Nat.zero_add, Nat.add_zero, m0, m1, m2, m3, m4, m5, m6, m7, m8, m9, m10, m11, m12, m13, m14, m15]
        grind
      · simp (disch := omega) only [MS, wtN, d2, d3, d4, dt4, pr4, cg4, Nat.reduceMod, Nat.reduceDiv, Nat.zero_mod, Nat.zero_div, Nat.zero_ne_one, reduceIte, Nat.reduceEqDiff, Nat.one_ne_zero, Nat.reduceLeDiff, Nat.le_refl, Nat.zero_le, Nat.reduceAdd, Nat.reduceMul, Nat.mul_zero, Nat.zero_add, Nat.add_zero, m0, m1, m2, m3, m4, m5, m6, m7, m8, m9, m10, m11, m12, m13, m14, m15, el, e5, r0, r1, r2, r3]
        try simp only [if_neg (show ¬ 2 ≤ 1 by omega), if_neg (show ¬ 3 ≤ 1 by omega), if_neg (show ¬ 3 ≤ 2 by omega), reduceIte, Nat.reduceEqDiff, Nat.one_ne_zero, Nat.reduceLeDiff, Nat.le_refl, Nat.zero_le, Nat.reduceAdd, Nat.reduceMul, Nat.mul_zero, Nat.zero_add, Nat.add_zero, m0, m1, m2, m3, m4, m5, m6, m7, m8, m9, m10, m11, m12, m13, m14, m15]
        grind
      · simp (disch := omega) only [MS, wtN, d2, d3, d4, dt4, pr4, cg4, Nat.reduceMod, Nat.reduceDiv, Nat.zero_mod, Nat.zero_div, Nat.zero_ne_one, reduceIte, Nat.reduceEqDiff, Nat.one_ne_zero, Nat.reduceLeDiff, Nat.le_refl, Nat.zero_le, Nat.reduceAdd, Nat.reduceMul, Nat.mul_zero, Nat.zero_add, Nat.add_zero, m0, m1, m2, m3, m4, m5, m6, m7, m8, m9, m10, m11, m12, m13, m14, m15, el, e5, r0, r1, r2, r3]
        try simp only [if_neg (show ¬ 2 ≤ 1 by omega), if_neg (show ¬ 3 ≤ 1 by omega), if_neg (show ¬ 3 ≤ 2 by omega), reduceIte, Nat.reduceEqDiff, Nat.one_ne_zero, Nat.reduceLeDiff, Nat.le_refl, Nat.zero_le, Nat.reduceAdd, Nat.reduceMul, Nat.mul_zero, Nat.zero_add, Nat.add_zero, m0, m1, m2, m3, m4, m5, m6, m7, m8, m9, m10, m11, m12, m13, m14, m15]
        grind
      · simp (disch := omega) only [MS, wtN, d2, d3, d4, dt4, pr4, cg4, Nat.reduceMod, Nat.reduceDiv, Nat.zero_mod, Nat.zero_div, Nat.zero_ne_one, reduceIte, Nat.reduceEqDiff, Nat.one_ne_zero, Nat.reduceLeDiff, Nat.le_refl, Nat.zero_le, Nat.reduceAdd, Nat.reduceMul, Nat.mul_zero, Nat.zero_add, Nat.add_zero, m0, m1, m2, m3, m4, m5, m6, m7, m8, m9, m10, m11, m12, m13, m14, m15, el, e5, r0, r1, r2, r3]
        try simp only [if_neg (show ¬ 2 ≤ 1 by omega), if_neg (show ¬ 3 ≤ 1 by omega), if_neg (show ¬ 3 ≤ 2 by omega), reduceIte, Nat.reduceEqDiff, Nat.one_ne_zero, Nat.reduceLeDiff, Nat.le_refl, Nat.zero_le, Nat.reduceAdd, Nat.reduceMul, Nat.mul_zero, Nat.zero_add, Nat.add_zero, m0, m1, m2, m3, m4, m5, m6, m7, m8, m9, m10, m11, m12, m13, m14, m15]
        grind
