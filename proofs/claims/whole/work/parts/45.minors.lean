/-! the reference: lines solved, in whole numbers -/
def d2 (a : Nat → Nat → Int) (r s i j : Nat) : Int := a r i * a s j - a r j * a s i
def d3 (a : Nat → Nat → Int) (r s t i j k : Nat) : Int := a r i * d2 a s t j k - a r j * d2 a s t i k + a r k * d2 a s t i j
def d4 (a : Nat → Nat → Int) (r s t u i j k l : Nat) : Int := a r i * d3 a s t u j k l - a r j * d3 a s t u i k l + a r k * d3 a s t u i j l - a r l * d3 a s t u i j k
/-- the lines behind k columns -/
def MS (a : Nat → Nat → Int) : Nat → Nat → Nat → Int
  | 0, i, j => a i j
  | 1, i, j => if i = 0 then a 0 j else d2 a 0 i 0 j
  | 2, i, j => if i = 0 then d2 a 0 1 j 1 else if i = 1 then d2 a 0 1 0 j else d3 a 0 1 i 0 1 j
  | 3, i, j => if i = 0 then d3 a 0 1 2 j 1 2 else if i = 1 then d3 a 0 1 2 0 j 2 else if i = 2 then d3 a 0 1 2 0 1 j else d4 a 0 1 2 i 0 1 2 j
  | _, i, j => if i = 0 then d4 a 0 1 2 3 j 1 2 3 else if i = 1 then d4 a 0 1 2 3 0 j 2 3 else if i = 2 then d4 a 0 1 2 3 0 1 j 3 else d4 a 0 1 2 3 0 1 2 j
def WD (a : Nat → Nat → Int) : Nat → Int
  | 0 => 1
  | 1 => a 0 0
  | 2 => d2 a 0 1 0 1
  | 3 => d3 a 0 1 2 0 1 2
  | _ => d4 a 0 1 2 3 0 1 2 3
theorem ms_0 {a : Nat → Nat → Int} {i j : Nat} (hi : i ≠ 0) : MS a 0 0 0 * MS a 0 i j - MS a 0 i 0 * MS a 0 0 j = MS a 1 i j * WD a 0 := by
  simp only [MS, WD, if_neg hi, d2]; grind
set_option maxHeartbeats 4000000 in
theorem ms_1a (a b c d e f : Int) : (a * d - b * c) * e - b * (a * f - e * c) = (e * d - b * f) * a := by grind
set_option maxHeartbeats 4000000 in
theorem ms_1 {a : Nat → Nat → Int} {i j : Nat} (hi : i ≠ 1) : MS a 1 1 1 * MS a 1 i j - MS a 1 i 1 * MS a 1 1 j = MS a 2 i j * WD a 1 := by
  by_cases h0 : i = 0
  · subst h0
    simp only [MS, WD, d2, if_true, reduceIte, Nat.one_ne_zero]
    grind
  · simp only [MS, WD, d2, d3, reduceIte, Nat.one_ne_zero, if_neg h0, if_neg hi]
    grind
set_option maxHeartbeats 4000000 in
theorem ms_2 {a : Nat → Nat → Int} {i j : Nat} (hi : i ≠ 2) : MS a 2 2 2 * MS a 2 i j - MS a 2 i 2 * MS a 2 2 j = MS a 3 i j * WD a 2 := by
  by_cases h0 : i = 0
  · subst h0
    simp only [MS, WD, d2, d3, reduceIte, Nat.reduceEqDiff]
    grind
  by_cases h1 : i = 1
  · subst h1
    simp only [MS, WD, d2, d3, reduceIte, Nat.reduceEqDiff, Nat.one_ne_zero]
    grind
  · simp only [MS, WD, d2, d3, d4, reduceIte, Nat.reduceEqDiff, if_neg h0, if_neg h1, if_neg hi]
    grind
set_option maxHeartbeats 4000000 in
theorem ms_3 {a : Nat → Nat → Int} {i j : Nat} (hi : i < 3) : MS a 3 3 3 * MS a 3 i j - MS a 3 i 3 * MS a 3 3 j = MS a 4 i j * WD a 3 := by
  rcases (show i = 0 ∨ i = 1 ∨ i = 2 by omega) with rfl | rfl | rfl
  · simp only [MS, WD, d2, d3, d4, reduceIte, Nat.reduceEqDiff]
    grind
  · simp only [MS, WD, d2, d3, d4, reduceIte, Nat.reduceEqDiff, Nat.one_ne_zero]
    grind
  · simp only [MS, WD, d2, d3, d4, reduceIte, Nat.reduceEqDiff]
    grind
