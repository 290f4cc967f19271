/-! matrices with positive row sums, none of whose others is positive: determinants -/
theorem zm_off {a x p q : Int} (ha : 0 < a) (hx : x ≤ 0) (hp : p ≤ 0) (hq : q ≤ 0) : a * x - p * q ≤ 0 := by
  have h1 : 0 ≤ a * (-x) := Int.mul_nonneg (by omega) (by omega)
  have h2 : 0 ≤ (-p) * (-q) := Int.mul_nonneg (by omega) (by omega)
  have e1 : a * (-x) = -(a * x) := by grind
  have e2 : (-p) * (-q) = p * q := by grind
  omega
theorem zm_dia {a x p q : Int} (hp : p ≤ 0) (hq : q ≤ 0) : a * x - p * q ≤ a * x := by
  have h2 : 0 ≤ (-p) * (-q) := Int.mul_nonneg (by omega) (by omega)
  have e2 : (-p) * (-q) = p * q := by grind
  omega
theorem zm_sum {a s0 s1 e : Int} (ha : 0 < a) (h0 : 0 < s0) (h1 : 0 < s1) (he : e ≤ 0) : 0 < a * s1 - e * s0 := by
  have h2 : 0 < a * s1 := Int.mul_pos ha h1
  have h3 : 0 ≤ (-e) * s0 := Int.mul_nonneg (by omega) (by omega)
  have e2 : (-e) * s0 = -(e * s0) := by grind
  omega
theorem mul_le2 {a b c d : Int} (ha : 0 ≤ a) (hd : 0 ≤ d) (h1 : a ≤ b) (h2 : c ≤ d) : a * c ≤ b * d :=
  Int.le_trans (Int.mul_le_mul_of_nonneg_left h2 ha) (Int.mul_le_mul_of_nonneg_right h1 hd)
theorem pos_of_mul {a b : Int} (ha : 0 < a) (h : 0 < a * b) : 0 < b := by
  rcases Int.lt_or_le 0 b with h1 | h1
  · exact h1
  · have h2 : 0 ≤ a * (-b) := Int.mul_nonneg (by omega) (by omega)
    have e2 : a * (-b) = -(a * b) := by grind
    omega
/-- three rows: the minors -/
theorem zm3 {a b c d e f g h i : Int} (hb : b ≤ 0) (hc : c ≤ 0) (hd : d ≤ 0) (hf : f ≤ 0) (hg : g ≤ 0) (hh : h ≤ 0) (s0 : 0 < a + b + c) (s1 : 0 < d + e + f) (s2 : 0 < g + h + i) :
    0 < a ∧ 0 < a * e - b * d ∧ 0 < a * (e * i - f * h) - b * (d * i - f * g) + c * (d * h - e * g) ∧ a * (e * i - f * h) - b * (d * i - f * g) + c * (d * h - e * g) ≤ a * e * i ∧ 0 < e ∧ 0 < i := by
  have ha : 0 < a := by omega
  have he : 0 < e := by omega
  have hi : 0 < i := by omega
  have o1 := zm_off ha hf hc hd
  have o2 := zm_off ha hh hb hg
  have t1 := zm_sum ha s0 s1 hd
  have t2 := zm_sum ha s0 s2 hg
  have r1 : 0 < (a * e - b * d) + (a * f - c * d) := by
    have : (a * e - b * d) + (a * f - c * d) = a * (d + e + f) - d * (a + b + c) := by grind
    omega
  have r2 : 0 < (a * h - b * g) + (a * i - c * g) := by
    have : (a * h - b * g) + (a * i - c * g) = a * (g + h + i) - g * (a + b + c) := by grind
    omega
  have x0 : 0 < a * e - b * d := by omega
  have y0 : 0 < a * i - c * g := by omega
  have e0 : (a * e - b * d) * (a * i - c * g) - (a * f - c * d) * (a * h - b * g) = a * (a * (e * i - f * h) - b * (d * i - f * g) + c * (d * h - e * g)) := by grind
  have z := zm_sum x0 r1 r2 o2
  have e1 : (a * e - b * d) * ((a * h - b * g) + (a * i - c * g)) - (a * h - b * g) * ((a * e - b * d) + (a * f - c * d)) = (a * e - b * d) * (a * i - c * g) - (a * f - c * d) * (a * h - b * g) := by grind
  refine ⟨ha, x0, pos_of_mul ha (by omega), ?_, he, hi⟩
  have l1 := zm_dia (a := a * e - b * d) (x := a * i - c * g) o1 o2
  have l2 : (a * e - b * d) * (a * i - c * g) ≤ (a * e) * (a * i) := mul_le2 (by omega) (Int.mul_nonneg (by omega) (by omega)) (zm_dia hb hd) (zm_dia hc hg)
  have e2 : (a * e) * (a * i) = a * (a * e * i) := by grind
  exact Int.le_of_mul_le_mul_left (by omega) ha
def Z4 (m : Nat → Int) : Prop := (∀ i j, i < 4 → j < 4 → i ≠ j → m (4 * i + j) ≤ 0) ∧ ∀ i, i < 4 → 0 < m (4 * i) + m (4 * i + 1) + m (4 * i + 2) + m (4 * i + 3)
def mi2 (m : Nat → Int) : Int := m 0 * m 5 - m 1 * m 4
def mi3 (m : Nat → Int) : Int := m 0 * (m 5 * m 10 - m 6 * m 9) - m 1 * (m 4 * m 10 - m 6 * m 8) + m 2 * (m 4 * m 9 - m 5 * m 8)
set_option maxHeartbeats 4000000 in
theorem zm4 {m : Nat → Int} (Z : Z4 m) : 0 < m 0 ∧ 0 < mi2 m ∧ 0 < mi3 m ∧ 0 < dt4 m ∧ dt4 m ≤ m 0 * (m 5 * m 10 * m 15) ∧ 0 < m 5 ∧ 0 < m 10 ∧ 0 < m 15 := by
  have z := Z.1
  have s0 := Z.2 0 (by omega)
  have s1 := Z.2 1 (by omega)
  have s2 := Z.2 2 (by omega)
  have s3 := Z.2 3 (by omega)
  have z1 := z 0 1 (by omega) (by omega) (by omega)
  have z2 := z 0 2 (by omega) (by omega) (by omega)
  have z3 := z 0 3 (by omega) (by omega) (by omega)
  have z4 := z 1 0 (by omega) (by omega) (by omega)
  have z6 := z 1 2 (by omega) (by omega) (by omega)
  have z7 := z 1 3 (by omega) (by omega) (by omega)
  have z8 := z 2 0 (by omega) (by omega) (by omega)
  have z9 := z 2 1 (by omega) (by omega) (by omega)
  have z11 := z 2 3 (by omega) (by omega) (by omega)
  have z12 := z 3 0 (by omega) (by omega) (by omega)
  have z13 := z 3 1 (by omega) (by omega) (by omega)
  have z14 := z 3 2 (by omega) (by omega) (by omega)
  simp only [Nat.reduceMul, Nat.reduceAdd, Nat.mul_zero, Nat.zero_add, Nat.add_zero, Nat.mul_one] at *
  have hd : dt4 m = (m 0 * m 5 - m 1 * m 4) * (m 10 * m 15 - m 11 * m 14) - (m 0 * m 6 - m 2 * m 4) * (m 9 * m 15 - m 11 * m 13) + (m 0 * m 7 - m 3 * m 4) * (m 9 * m 14 - m 10 * m 13) + (m 1 * m 6 - m 2 * m 5) * (m 8 * m 15 - m 11 * m 12) - (m 1 * m 7 - m 3 * m 5) * (m 8 * m 14 - m 10 * m 12) + (m 2 * m 7 - m 3 * m 6) * (m 8 * m 13 - m 9 * m 12) := by
    simp only [dt4, pr4, Nat.reduceMul, Nat.reduceAdd, Nat.mul_zero, Nat.zero_add, Nat.add_zero]
  have ch := chio (m 0) (m 1) (m 2) (m 3) (m 4) (m 5) (m 6) (m 7) (m 8) (m 9) (m 10) (m 11) (m 12) (m 13) (m 14) (m 15)
  simp only [] at ch
  rw [← hd] at ch
  generalize h0 : m 0 = a at *
  generalize h1 : m 1 = b at *
  generalize h2 : m 2 = c at *
  generalize h3 : m 3 = d at *
  generalize h4 : m 4 = e at *
  have ha : 0 < a := by omega
  have h5 : 0 < m 5 := by omega
  have h10 : 0 < m 10 := by omega
  have h15 : 0 < m 15 := by omega
  have q12 := zm_off ha z6 z2 z4
  have q13 := zm_off ha z7 z3 z4
  have q21 := zm_off ha z9 z1 z8
  have q23 := zm_off ha z11 z3 z8
  have q31 := zm_off ha z13 z1 z12
  have q32 := zm_off ha z14 z2 z12
  have d1 := zm_dia (a := a) (x := m 5) z1 z4
  have d2 := zm_dia (a := a) (x := m 10) z2 z8
  have d3 := zm_dia (a := a) (x := m 15) z3 z12
  have t1 := zm_sum ha s0 s1 z4
  have t2 := zm_sum ha s0 s2 z8
  have t3 := zm_sum ha s0 s3 z12
  have e1 : a * (e + m 5 + m 6 + m 7) - e * (a + b + c + d) = (a * m 5 - b * e) + (a * m 6 - c * e) + (a * m 7 - d * e) := by grind
  have e2 : a * (m 8 + m 9 + m 10 + m 11) - m 8 * (a + b + c + d) = (a * m 9 - b * m 8) + (a * m 10 - c * m 8) + (a * m 11 - d * m 8) := by grind
  have e3 : a * (m 12 + m 13 + m 14 + m 15) - m 12 * (a + b + c + d) = (a * m 13 - b * m 12) + (a * m 14 - c * m 12) + (a * m 15 - d * m 12) := by grind
  have k := zm3 (a := a * m 5 - b * e) (e := a * m 10 - c * m 8) (i := a * m 15 - d * m 12) q12 q13 q21 q23 q31 q32 (by omega) (by omega) (by omega)
  rw [ch] at k
  obtain ⟨k1, k2, k3, k4, k5, k6⟩ := k
  have haa : 0 < a * a := Int.mul_pos ha ha
  have g2 : 0 < mi2 m := by
    have e4 : mi2 m = a * m 5 - b * e := by unfold mi2; rw [h0, h1, h4]
    omega
  have g3 : 0 < mi3 m := by
    have e4 : (a * m 5 - b * e) * (a * m 10 - c * m 8) - (a * m 6 - c * e) * (a * m 9 - b * m 8) = a * mi3 m := by unfold mi3; rw [h0, h1, h2, h4]; grind
    exact pos_of_mul ha (by omega)
  refine ⟨ha, g2, g3, pos_of_mul haa k3, ?_, h5, h10, h15⟩
  have l1 : (a * m 5 - b * e) * (a * m 10 - c * m 8) ≤ (a * m 5) * (a * m 10) := mul_le2 (by omega) (Int.mul_nonneg (by omega) (by omega)) d1 d2
  have l2 : (a * m 5 - b * e) * (a * m 10 - c * m 8) * (a * m 15 - d * m 12) ≤ (a * m 5) * (a * m 10) * (a * m 15) := mul_le2 (Int.mul_nonneg (by omega) (by omega)) (Int.mul_nonneg (by omega) (by omega)) l1 d3
  have e5 : (a * m 5) * (a * m 10) * (a * m 15) = a * a * (a * (m 5 * m 10 * m 15)) := by grind
  exact Int.le_of_mul_le_mul_left (by omega) haa
/-- where all rows together are nowhere below nothing, nothing is -/
theorem zm_min {m x : Nat → Int} (Z : Z4 m) (h : ∀ s, s < 4 → 0 ≤ row4 m x s) : ∀ t, t < 4 → 0 ≤ x t := by
  have key : ∀ s, s < 4 → (∀ t, t < 4 → x s ≤ x t) → 0 ≤ x s := by
    intro s hs hm
    rcases Int.lt_or_le (x s) 0 with hx | hx
    · have hr := h s hs
      have hp := Z.2 s hs
      have term : ∀ t, t < 4 → m (4 * s + t) * x t ≤ m (4 * s + t) * x s := by
        intro t ht
        rcases Nat.decEq s t with e | e
        · exact Int.mul_le_mul_of_nonpos_left (Z.1 s t hs ht e) (hm t ht)
        · rw [e]; exact Int.le_refl _
      have t0 := term 0 (by omega)
      have t1 := term 1 (by omega)
      have t2 := term 2 (by omega)
      have t3 := term 3 (by omega)
      unfold row4 at hr
      have e : (m (4 * s) + m (4 * s + 1) + m (4 * s + 2) + m (4 * s + 3)) * (- x s) = -(m (4 * s) * x s) - m (4 * s + 1) * x s - m (4 * s + 2) * x s - m (4 * s + 3) * x s := by grind
      have p := Int.mul_pos hp (show 0 < - x s by omega)
      simp only [Nat.add_zero] at t0
      omega
    · exact hx
  have ex : ∃ s, s < 4 ∧ ∀ t, t < 4 → x s ≤ x t := by
    have f : ∀ t, t < 4 → t = 0 ∨ t = 1 ∨ t = 2 ∨ t = 3 := by omega
    rcases Int.le_total (x 0) (x 1) with a1 | a1 <;> rcases Int.le_total (x 2) (x 3) with a2 | a2
    · rcases Int.le_total (x 0) (x 2) with a3 | a3
      · exact ⟨0, by omega, fun t ht => by rcases f t ht with rfl | rfl | rfl | rfl <;> omega⟩
      · exact ⟨2, by omega, fun t ht => by rcases f t ht with rfl | rfl | rfl | rfl <;> omega⟩
    · rcases Int.le_total (x 0) (x 3) with a3 | a3
      · exact ⟨0, by omega, fun t ht => by rcases f t ht with rfl | rfl | rfl | rfl <;> omega⟩
      · exact ⟨3, by omega, fun t ht => by rcases f t ht with rfl | rfl | rfl | rfl <;> omega⟩
    · rcases Int.le_total (x 1) (x 2) with a3 | a3
      · exact ⟨1, by omega, fun t ht => by rcases f t ht with rfl | rfl | rfl | rfl <;> omega⟩
      · exact ⟨2, by omega, fun t ht => by rcases f t ht with rfl | rfl | rfl | rfl <;> omega⟩
    · rcases Int.le_total (x 1) (x 3) with a3 | a3
      · exact ⟨1, by omega, fun t ht => by rcases f t ht with rfl | rfl | rfl | rfl <;> omega⟩
      · exact ⟨3, by omega, fun t ht => by rcases f t ht with rfl | rfl | rfl | rfl <;> omega⟩
  obtain ⟨s, hs, hm⟩ := ex
  exact fun t ht => Int.le_trans (key s hs hm) (hm t ht)
/-! the store's matrix -/
theorem thn_le3 {K y d : Nat} (h : y ≤ 3) : thn K y d ≤ 3 := Nat.le_trans thn_le h
theorem pick4 {x v : Nat} (h : x ≤ 3) : (if x = 0 then v else 0) + (if x = 1 then v else 0) + (if x = 2 then v else 0) + (if x = 3 then v else 0) = v := by
  have : x = 0 ∨ x = 1 ∨ x = 2 ∨ x = 3 := by omega
  rcases this with rfl | rfl | rfl | rfl <;> simp
theorem mv_sum {K : Nat} {q : Nat → Nat} {y : Nat} (h : y ≤ 3) : mv K q y 0 + mv K q y 1 + mv K q y 2 + mv K q y 3 = S4 q := by
  have h0 := pick4 (x := thn K y 0) (v := q 0) (thn_le3 h)
  have h1 := pick4 (x := thn K y 1) (v := q 1) (thn_le3 h)
  have h2 := pick4 (x := thn K y 2) (v := q 2) (thn_le3 h)
  have h3 := pick4 (x := thn K y 3) (v := q 3) (thn_le3 h)
  simp only [mv, mvp, S4, Nat.zero_add]
  omega
theorem mv_above {K : Nat} {q : Nat → Nat} {y t : Nat} (h : y < t) : mv K q y t = 0 := by
  have h0 : ∀ d, thn K y d ≠ t := fun d => by have := thn_le (K := K) (y := y) (d := d); omega
  simp only [mv, mvp, if_neg (h0 _)]
theorem mxr_off {K : Nat} {q r : Nat → Nat} {wh tn u t : Nat} (h : u ≠ t) : mxr K q r wh tn u t ≤ 0 := by
  unfold mxr
  rw [if_neg h]
  have := Int.mul_nonneg (a := (tn : Int)) (b := ((mv K q (u + r u) t : Nat) : Int)) (by omega) (by omega)
  omega
theorem RU.le {C : Nat} {r : Nat → Nat} (R : RU C r) (hC : C ≤ 3) (u : Nat) (hu : u < 4) : u + r u ≤ 3 := by
  rcases Nat.lt_or_ge C u with h | h
  · have := R.2 u h; omega
  · have := R.1 u h; omega
theorem mxr_sum {K C : Nat} {q r : Nat → Nat} {wh tn u : Nat} (R : RU C r) (hC : C ≤ 3) (hu : u < 4) : mxr K q r wh tn u 0 + mxr K q r wh tn u 1 + mxr K q r wh tn u 2 + mxr K q r wh tn u 3 = (wh : Int) * S4 q - tn * S4 q := by
  have hm := mv_sum (K := K) (q := q) (R.le hC u hu)
  have hp := pick4 (x := u) (v := wh * S4 q) (by omega)
  have hm' : ((mv K q (u + r u) 0 : Nat) : Int) + (mv K q (u + r u) 1 : Nat) + (mv K q (u + r u) 2 : Nat) + (mv K q (u + r u) 3 : Nat) = (S4 q : Nat) := by omega
  have hp' : (if u = 0 then ((wh * S4 q : Nat) : Int) else 0) + (if u = 1 then ((wh * S4 q : Nat) : Int) else 0) + (if u = 2 then ((wh * S4 q : Nat) : Int) else 0) + (if u = 3 then ((wh * S4 q : Nat) : Int) else 0) = ((wh * S4 q : Nat) : Int) := by
    have : u = 0 ∨ u = 1 ∨ u = 2 ∨ u = 3 := by omega
    rcases this with rfl | rfl | rfl | rfl <;> simp
  unfold mxr
  rw [← hm']
  rw [Int.natCast_mul, hm'.symm] at hp'
  grind
theorem mxe_at {K C : Nat} {q r : Nat → Nat} {wh tn u t : Nat} (ht : t < 4) : mxe K C q r wh tn (4 * u + t) = if u ≤ C then mxr K q r wh tn u t else if u = t then 1 else 0 := by
  unfold mxe
  rw [show (4 * u + t) / 4 = u by omega, show (4 * u + t) % 4 = t by omega]
theorem mxe_Z {K C T : Nat} {q r : Nat → Nat} {wh : Nat} (R : RU C r) (hC : C ≤ 3) (hw : T < wh) (hS : 1 ≤ S4 q) : Z4 (mxe K C q r wh T) := by
  refine ⟨fun i j hi hj hn => ?_, fun i hi => ?_⟩
  · rw [mxe_at hj]
    split
    · exact mxr_off hn
    · omega
  · have e0 := mxe_at (K := K) (C := C) (q := q) (r := r) (wh := wh) (tn := T) (u := i) (t := 0) (by omega)
    simp only [Nat.add_zero] at e0
    rw [e0, mxe_at (by omega), mxe_at (by omega), mxe_at (by omega)]
    by_cases h : i ≤ C
    · simp only [if_pos h]
      rw [mxr_sum R hC hi]
      have h1 : (T : Int) * S4 q + 1 ≤ wh * S4 q := by
        have := Nat.mul_lt_mul_of_pos_right hw hS
        have e1 := Int.natCast_mul T (S4 q)
        have e2 := Int.natCast_mul wh (S4 q)
        omega
      omega
    · simp only [if_neg h]
      have : i = 0 ∨ i = 1 ∨ i = 2 ∨ i = 3 := by omega
      rcases this with rfl | rfl | rfl | rfl <;> simp
theorem row4_u {K C T : Nat} {q r : Nat → Nat} {wh s : Nat} {x : Nat → Int} (h : s ≤ C) (hC : C ≤ 3) : row4 (mxe K C q r wh T) x s = ((wh * S4 q : Nat) : Int) * x s - T * (((mv K q (s + r s) 0 : Nat) : Int) * x 0 + ((mv K q (s + r s) 1 : Nat) : Int) * x 1 + ((mv K q (s + r s) 2 : Nat) : Int) * x 2 + ((mv K q (s + r s) 3 : Nat) : Int) * x 3) := by
  have e0 := mxe_at (K := K) (C := C) (q := q) (r := r) (wh := wh) (tn := T) (u := s) (t := 0) (by omega)
  simp only [Nat.add_zero] at e0
  unfold row4
  rw [e0, mxe_at (by omega), mxe_at (by omega), mxe_at (by omega)]
  simp only [if_pos h, mxr]
  have : s = 0 ∨ s = 1 ∨ s = 2 ∨ s = 3 := by omega
  rcases this with rfl | rfl | rfl | rfl <;> simp <;> grind
theorem row4_v {K C T : Nat} {q r : Nat → Nat} {wh s : Nat} {x : Nat → Int} (h : C < s) (hs : s < 4) : row4 (mxe K C q r wh T) x s = x s := by
  have e0 := mxe_at (K := K) (C := C) (q := q) (r := r) (wh := wh) (tn := T) (u := s) (t := 0) (by omega)
  simp only [Nat.add_zero] at e0
  unfold row4
  rw [e0, mxe_at (by omega), mxe_at (by omega), mxe_at (by omega)]
  simp only [if_neg (show ¬ s ≤ C by omega)]
  have : s = 0 ∨ s = 1 ∨ s = 2 ∨ s = 3 := by omega
  rcases this with rfl | rfl | rfl | rfl <;> simp
/-- what holds of a store -/
def STO (_K C T : Nat) (c q : Nat → Nat) : Prop := 1 ≤ C ∧ C ≤ 3 ∧ T ≤ 9 ∧ (∀ j, j < 4 → c j ≤ 20) ∧ (∀ j, j < 4 → q j ≤ 5) ∧ 1 ≤ S4 q ∧ S4 q ≤ 6
theorem STO.bC1 {K C T : Nat} {c q : Nat → Nat} (S : STO K C T c q) : 1 ≤ C := S.1
theorem STO.bC3 {K C T : Nat} {c q : Nat → Nat} (S : STO K C T c q) : C ≤ 3 := S.2.1
theorem STO.bT {K C T : Nat} {c q : Nat → Nat} (S : STO K C T c q) : T ≤ 9 := S.2.2.1
theorem STO.bc {K C T : Nat} {c q : Nat → Nat} (S : STO K C T c q) : (∀ j, j < 4 → c j ≤ 20) := S.2.2.2.1
theorem STO.bq {K C T : Nat} {c q : Nat → Nat} (S : STO K C T c q) : (∀ j, j < 4 → q j ≤ 5) := S.2.2.2.2.1
theorem STO.bS1 {K C T : Nat} {c q : Nat → Nat} (S : STO K C T c q) : 1 ≤ S4 q := S.2.2.2.2.2.1
theorem STO.bS6 {K C T : Nat} {c q : Nat → Nat} (S : STO K C T c q) : S4 q ≤ 6 := S.2.2.2.2.2.2
theorem SB.sto {f : Nat → Nat → Int32} {b K C T : Nat} {c q : Nat → Nat} (S : SB f b K C T c q) : STO K C T c q := by
  obtain ⟨hK, hC, hT, hc, hq, bK, bC1, bC3, bT, bc, bq, bS1, bS6⟩ := S
  exact ⟨bC1, bC3, bT, bc, bq, bS1, bS6⟩
theorem cbp_le2 {K : Nat} {c q : Nat → Nat} {s a : Nat} (hc : ∀ j, j < 4 → c j ≤ 20) (hs : s + a ≤ 3) : cb K c q s a ≤ 300 * S4 q := by
  have h : ∀ d, d < 4 → q d * spn K c s a d ≤ q d * 300 := fun d hd => Nat.mul_le_mul_left _ (spn_le hc hs (by omega))
  have h0 := h 0 (by omega)
  have h1 := h 1 (by omega)
  have h2 := h 2 (by omega)
  have h3 := h 3 (by omega)
  simp only [cb, cbp, S4]
  omega
section
variable {K C T : Nat} {c q : Nat → Nat}
theorem wt_eq {r : Nat → Nat} {s : Nat} (hs : s < 4) : row4 (mxe K C q r 10 T) (wtN K C T c q r) s = wtD K C T q r * rhv K C c q r s := cramer _ _ _ hs
theorem wtD_pos (S : STO K C T c q) {r : Nat → Nat} (R : RU C r) : 0 < wtD K C T q r := (zm4 (mxe_Z R S.bC3 (show T < 10 by have := S.bT; omega) S.bS1)).2.2.2.1
theorem mxe_dia (S : STO K C T c q) {r : Nat → Nat} {i : Nat} : mxe K C q r 10 T (5 * i) ≤ 60 := by
  unfold mxe mxr
  split
  · split
    · have h6 := S.bS6
      have := Int.mul_nonneg (a := (T : Int)) (b := ((mv K q (5 * i / 4 + r (5 * i / 4)) (5 * i % 4) : Nat) : Int)) (by omega) (by omega)
      omega
    · have := Int.mul_nonneg (a := (T : Int)) (b := ((mv K q (5 * i / 4 + r (5 * i / 4)) (5 * i % 4) : Nat) : Int)) (by omega) (by omega)
      omega
  · split <;> omega
theorem wtD_le (S : STO K C T c q) {r : Nat → Nat} (R : RU C r) : wtD K C T q r ≤ 12960000 := by
  have z := zm4 (mxe_Z (K := K) (q := q) R S.bC3 (show T < 10 by have := S.bT; omega) S.bS1)
  have h0 := mxe_dia S (r := r) (i := 0)
  have h1 := mxe_dia S (r := r) (i := 1)
  have h2 := mxe_dia S (r := r) (i := 2)
  have h3 := mxe_dia S (r := r) (i := 3)
  simp only [Nat.reduceMul, Nat.mul_zero] at h0 h1 h2 h3
  obtain ⟨z0, -, -, -, z4, z5, z6, z7⟩ := z
  unfold wtD
  refine Int.le_trans z4 ?_
  have m1 := mul_le2 (Int.le_of_lt z5) (by omega) h1 h2
  have m2 := mul_le2 (Int.mul_nonneg (Int.le_of_lt z5) (Int.le_of_lt z6)) (by omega) m1 h3
  have m3 := mul_le2 (Int.le_of_lt z0) (by omega) h0 m2
  exact Int.le_trans m3 (by omega)
theorem wtN_nn (S : STO K C T c q) {r : Nat → Nat} (R : RU C r) {t : Nat} (ht : t < 4) : 0 ≤ wtN K C T c q r t := by
  refine zm_min (mxe_Z (K := K) (q := q) R S.bC3 (show T < 10 by have := S.bT; omega) S.bS1) (fun s hs => ?_) t ht
  rw [wt_eq hs]
  refine Int.mul_nonneg (Int.le_of_lt (wtD_pos S R)) ?_
  unfold rhv
  split
  · exact Int.mul_nonneg (by omega) (by omega)
  · omega
theorem wtN_le (S : STO K C T c q) {r : Nat → Nat} (R : RU C r) {t : Nat} (ht : t < 4) : wtN K C T c q r t ≤ 3000 * wtD K C T q r := by
  have hD := wtD_pos S R
  have := zm_min (x := fun t => 3000 * wtD K C T q r - wtN K C T c q r t) (mxe_Z (K := K) (q := q) R S.bC3 (show T < 10 by have := S.bT; omega) S.bS1) (fun s hs => ?_) t ht
  · omega
  have e := wt_eq (K := K) (C := C) (T := T) (c := c) (q := q) (r := r) hs
  have es : row4 (mxe K C q r 10 T) (fun t => 3000 * wtD K C T q r - wtN K C T c q r t) s = (mxe K C q r 10 T (4 * s) + mxe K C q r 10 T (4 * s + 1) + mxe K C q r 10 T (4 * s + 2) + mxe K C q r 10 T (4 * s + 3)) * (3000 * wtD K C T q r) - row4 (mxe K C q r 10 T) (wtN K C T c q r) s := by
    unfold row4; grind
  rw [es, e]
  have e0 := mxe_at (K := K) (C := C) (q := q) (r := r) (wh := 10) (tn := T) (u := s) (t := 0) (by omega)
  simp only [Nat.add_zero] at e0
  rw [e0, mxe_at (by omega), mxe_at (by omega), mxe_at (by omega)]
  by_cases h : s ≤ C
  · simp only [if_pos h]
    rw [mxr_sum R S.bC3 hs]
    unfold rhv
    rw [if_pos h]
    have h1 := cbp_le2 (K := K) (c := c) (q := q) (s := s) (a := r s) S.bc (R.le S.bC3 s hs)
    have h2 : (S4 q : Int) ≤ ((10 : Nat) : Int) * S4 q - T * S4 q := by
      have h9 : T * S4 q ≤ 9 * S4 q := Nat.mul_le_mul_right _ S.bT
      have e1 := Int.natCast_mul T (S4 q)
      omega
    have h3 : (((10 : Nat) : Int) * ((cb K c q s (r s) : Nat) : Int)) ≤ 3000 * (S4 q : Int) := by omega
    have h4 := Int.mul_le_mul_of_nonneg_right h2 (show 0 ≤ 3000 * wtD K C T q r by omega)
    have h5 := Int.mul_le_mul_of_nonneg_left h3 (show 0 ≤ wtD K C T q r by omega)
    have e7 : (S4 q : Int) * (3000 * wtD K C T q r) = wtD K C T q r * (3000 * (S4 q : Int)) := by grind
    omega
  · simp only [if_neg h]
    unfold rhv
    rw [if_neg h]
    have : s = 0 ∨ s = 1 ∨ s = 2 ∨ s = 3 := by omega
    rcases this with rfl | rfl | rfl | rfl <;> simp <;> omega
end
