/-! the calls: item -/
theorem TAP.it {f : Nat → Nat → Int32} {g : Nat → Nat → Int64} (h : TAP f g) {t i : Nat} (ht : t < 6) (hi : i < 60) (V : Int64) : TAP f (upM (upM g (55 + 2 * t) i V) 83 (60 * t + i) V) := fun u hu => by
  obtain ⟨so, n, b1, b2, b3, b4, b5, b6, b7, b8⟩ := h u hu
  refine ⟨so, n, b1, b2, b3, b4, b5, b6, b7, fun j hj => ?_⟩
  rw [upM_a (by omega)]
  by_cases e : u = t
  · subst e
    by_cases e2 : j = i
    · subst e2; rw [upM_h, upM_h]
    · rw [upM_k e2, upM_k (by omega), upM_a (by omega)]; exact b8 j hj
  · rw [upM_a (by omega), upM_k (by omega), upM_a (by omega)]; exact b8 j hj
theorem INV.it {f : Nat → Nat → Int32} {g : Nat → Nat → Int64} (I : INV f g) {t i : Nat} (ht : t < 6) (hi : i < 60) (V : Int64) : INV f (upM (upM g (55 + 2 * t) i V) 83 (60 * t + i) V) := by
  obtain ⟨I1, RT, RI, TA, RL⟩ := I
  exact ⟨I1, RT, RI, TA.it ht hi V, RL⟩
theorem INV.it0 {f : Nat → Nat → Int32} {g : Nat → Nat → Int64} (I : INV f g) {i : Nat} (hi : i < 60) (V : Int64) : INV f (upM (upM g 55 i V) 83 i V) := by
  have h := I.it (t := 0) (by omega) hi V
  simpa only [Nat.mul_zero, Nat.add_zero, Nat.zero_add] using h
