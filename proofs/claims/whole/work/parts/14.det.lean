/-! determinants of four rows -/
def pr4 (m : Nat → Int) (r i j : Nat) : Int := m (4 * r + i) * m (4 * r + 4 + j) - m (4 * r + j) * m (4 * r + 4 + i)
def dt4 (m : Nat → Int) : Int := pr4 m 0 0 1 * pr4 m 2 2 3 - pr4 m 0 0 2 * pr4 m 2 1 3 + pr4 m 0 0 3 * pr4 m 2 1 2 + pr4 m 0 1 2 * pr4 m 2 0 3 - pr4 m 0 1 3 * pr4 m 2 0 2 + pr4 m 0 2 3 * pr4 m 2 0 1
def cg4 (m r : Nat → Int) (t : Nat) : Nat → Int := fun i => if i % 4 = t then r (i / 4) else m i
def row4 (m w : Nat → Int) (s : Nat) : Int := m (4 * s) * w 0 + m (4 * s + 1) * w 1 + m (4 * s + 2) * w 2 + m (4 * s + 3) * w 3
theorem dt4_x (a b c d e f g h i j k l m n o p : Int) (q : Nat → Int) (h0 : q 0 = a) (h1 : q 1 = b) (h2 : q 2 = c) (h3 : q 3 = d) (h4 : q 4 = e) (h5 : q 5 = f) (h6 : q 6 = g) (h7 : q 7 = h) (h8 : q 8 = i) (h9 : q 9 = j) (h10 : q 10 = k) (h11 : q 11 = l) (h12 : q 12 = m) (h13 : q 13 = n) (h14 : q 14 = o) (h15 : q 15 = p) :
    dt4 q = (a * f - b * e) * (k * p - l * o) - (a * g - c * e) * (j * p - l * n) + (a * h - d * e) * (j * o - k * n) + (b * g - c * f) * (i * p - l * m) - (b * h - d * f) * (i * o - k * m) + (c * h - d * g) * (i * n - j * m) := by
  simp only [dt4, pr4, Nat.reduceMul, Nat.reduceAdd, Nat.mul_zero, Nat.zero_add, Nat.add_zero, h0, h1, h2, h3, h4, h5, h6, h7, h8, h9, h10, h11, h12, h13, h14, h15]
set_option maxHeartbeats 4000000 in
/-- Cramer's rule -/
theorem cramer (m r : Nat → Int) (s : Nat) (hs : s < 4) : row4 m (fun t => dt4 (cg4 m r t)) s = dt4 m * r s := by
  have h : ∀ t : Nat, t < 4 → dt4 (cg4 m r t) = dt4 (cg4 m r t) := fun _ _ => rfl
  match s, hs with
  | 0, _ => simp [row4, dt4, pr4, cg4]; grind
  | 1, _ => simp [row4, dt4, pr4, cg4]; grind
  | 2, _ => simp [row4, dt4, pr4, cg4]; grind
  | 3, _ => simp [row4, dt4, pr4, cg4]; grind
set_option maxHeartbeats 4000000 in
theorem chio (a b c d e f g h i j k l m n o p : Int) :
   let b11 := a * f - b * e; let b12 := a * g - c * e; let b13 := a * h - d * e
   let b21 := a * j - b * i; let b22 := a * k - c * i; let b23 := a * l - d * i
   let b31 := a * n - b * m; let b32 := a * o - c * m; let b33 := a * p - d * m
   b11 * (b22 * b33 - b23 * b32) - b12 * (b21 * b33 - b23 * b31) + b13 * (b21 * b32 - b22 * b31) =
   a * a * ((a * f - b * e) * (k * p - l * o) - (a * g - c * e) * (j * p - l * n) + (a * h - d * e) * (j * o - k * n) + (b * g - c * f) * (i * p - l * m) - (b * h - d * f) * (i * o - k * m) + (c * h - d * g) * (i * n - j * m)) := by
  intro b11 b12 b13 b21 b22 b23 b31 b32 b33
  simp only [b11, b12, b13, b21, b22, b23, b31, b32, b33]
  grind
