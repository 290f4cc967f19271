/-! acts, a better order, rounds, the best rule -/
def acp (K : Nat) (c q : Nat → Nat) (T : Nat) (D : Int) (w : Nat → Int) (s a : Nat) : Nat → Int
  | 0 => 0
  | d + 1 => acp K c q T D w s a d + (q d : Int) * (((10 : Nat) : Int) * D * ((spn K c s a d : Nat) : Int) + (T : Int) * w (thn K (s + a) d))
def ac (K : Nat) (c q : Nat → Nat) (T : Nat) (D : Int) (w : Nat → Int) (s a : Nat) : Int := acp K c q T D w s a 4
def btp (A : Nat → Int) (r0 : Nat) : Nat → Nat
  | 0 => r0
  | n + 1 => if A n < A (btp A r0 n) then n else btp A r0 n
theorem btp_or (A : Nat → Int) (r0 : Nat) : ∀ n, btp A r0 n = r0 ∨ btp A r0 n < n
  | 0 => Or.inl rfl
  | n + 1 => by
    have := btp_or A r0 n
    unfold btp
    split <;> omega
theorem btp_le (A : Nat → Int) (r0 : Nat) : ∀ n, A (btp A r0 n) ≤ A r0
  | 0 => Int.le_refl _
  | n + 1 => by
    have := btp_le A r0 n
    unfold btp
    split <;> omega
theorem btp_lt (A : Nat → Int) (r0 : Nat) : ∀ n, btp A r0 n ≠ r0 → A (btp A r0 n) < A r0
  | 0 => fun h => absurd rfl h
  | n + 1 => by
    have h1 := btp_lt A r0 n
    have h2 := btp_le A r0 n
    unfold btp
    split
    · intro; omega
    · exact h1
theorem ac_eq {K : Nat} {c q : Nat → Nat} {T : Nat} {D : Int} {w : Nat → Int} {s a : Nat} (h : s + a ≤ 3) :
    ac K c q T D w s a = ((10 : Nat) : Int) * D * ((cb K c q s a : Nat) : Int) + T * (((mv K q (s + a) 0 : Nat) : Int) * w 0 + ((mv K q (s + a) 1 : Nat) : Int) * w 1 + ((mv K q (s + a) 2 : Nat) : Int) * w 2 + ((mv K q (s + a) 3 : Nat) : Int) * w 3) := by
  have f : ∀ d, (q d : Int) * w (thn K (s + a) d) = ((if thn K (s + a) d = 0 then q d else 0 : Nat) : Int) * w 0 + ((if thn K (s + a) d = 1 then q d else 0 : Nat) : Int) * w 1 + ((if thn K (s + a) d = 2 then q d else 0 : Nat) : Int) * w 2 + ((if thn K (s + a) d = 3 then q d else 0 : Nat) : Int) * w 3 := by
    intro d
    have h3 : thn K (s + a) d ≤ 3 := thn_le3 h
    generalize thn K (s + a) d = x at h3
    have : x = 0 ∨ x = 1 ∨ x = 2 ∨ x = 3 := by omega
    rcases this with rfl | rfl | rfl | rfl <;> simp
  have f0 := f 0
  have f1 := f 1
  have f2 := f 2
  have f3 := f 3
  simp only [ac, acp, cb, cbp, mv, mvp, Nat.zero_add, Int.natCast_add, Int.natCast_mul]
  grind
section
variable {K C T : Nat} {c q : Nat → Nat}
def acr (K C T : Nat) (c q r : Nat → Nat) (s a : Nat) : Int := ac K c q T (wtD K C T q r) (wtN K C T c q r) s a
/-- WORTH is what the rule's own order comes to -/
theorem ac_rule (S : STO K C T c q) {r : Nat → Nat} (R : RU C r) {s : Nat} (hs : s ≤ C) : acr K C T c q r s (r s) = ((10 * S4 q : Nat) : Int) * wtN K C T c q r s := by
  have h3 := S.bC3
  have e := wt_eq (K := K) (C := C) (T := T) (c := c) (q := q) (r := r) (s := s) (by omega)
  rw [row4_u hs S.bC3, rhv, if_pos hs] at e
  unfold acr
  rw [ac_eq (R.le S.bC3 s (by omega))]
  grind
def nxt (K C T : Nat) (c q r : Nat → Nat) (s : Nat) : Nat := if s ≤ C then btp (acr K C T c q r s) (r s) (C - s + 1) else 0
theorem nxt_RU {r : Nat → Nat} (R : RU C r) : RU C (nxt K C T c q r) := by
  refine ⟨fun s hs => ?_, fun s hs => by unfold nxt; rw [if_neg (by omega)]⟩
  unfold nxt
  rw [if_pos hs]
  have h := R.1 s hs
  have := btp_or (acr K C T c q r s) (r s) (C - s + 1)
  omega
/-- worth by p nowhere above worth by r -/
def leW (K C T : Nat) (c q p r : Nat → Nat) : Prop := ∀ s, s < 4 → wtN K C T c q p s * wtD K C T q r ≤ wtN K C T c q r s * wtD K C T q p
theorem nxt_row (S : STO K C T c q) {r : Nat → Nat} (R : RU C r) {s : Nat} (hs : s < 4) :
    row4 (mxe K C q (nxt K C T c q r) 10 T) (fun t => wtN K C T c q r t * wtD K C T q (nxt K C T c q r) - wtN K C T c q (nxt K C T c q r) t * wtD K C T q r) s = if s ≤ C then wtD K C T q (nxt K C T c q r) * (acr K C T c q r s (r s) - acr K C T c q r s (nxt K C T c q r s)) else 0 := by
  have e := wt_eq (K := K) (C := C) (T := T) (c := c) (q := q) (r := nxt K C T c q r) hs
  have R' := nxt_RU (K := K) (T := T) (c := c) (q := q) R
  by_cases h : s ≤ C
  · rw [if_pos h, ac_rule S R h]
    unfold acr
    rw [ac_eq (R'.le S.bC3 s hs), row4_u h S.bC3]
    rw [row4_u h S.bC3, rhv, if_pos h] at e
    grind
  · rw [if_neg h, row4_v (by omega) hs]
    rw [row4_v (by omega) hs, rhv, if_neg h] at e
    have e2 := wt_eq (K := K) (C := C) (T := T) (c := c) (q := q) (r := r) hs
    rw [row4_v (by omega) hs, rhv, if_neg h] at e2
    rw [e, e2]
    simp
theorem nxt_le (S : STO K C T c q) {r : Nat → Nat} (R : RU C r) : leW K C T c q (nxt K C T c q r) r := by
  have R' := nxt_RU (K := K) (T := T) (c := c) (q := q) R
  intro t ht
  have := zm_min (x := fun t => wtN K C T c q r t * wtD K C T q (nxt K C T c q r) - wtN K C T c q (nxt K C T c q r) t * wtD K C T q r) (mxe_Z (K := K) (q := q) R' S.bC3 (show T < 10 by have := S.bT; omega) S.bS1) (fun s hs => ?_) t ht
  · omega
  rw [nxt_row S R hs]
  split
  · rename_i h
    refine Int.mul_nonneg (Int.le_of_lt (wtD_pos S R')) ?_
    have := btp_le (acr K C T c q r s) (r s) (C - s + 1)
    unfold nxt
    rw [if_pos h]
    omega
  · omega
theorem nxt_lt (S : STO K C T c q) {r : Nat → Nat} (R : RU C r) {s : Nat} (hn : nxt K C T c q r s ≠ r s) : ¬ leW K C T c q r (nxt K C T c q r) := by
  intro h
  have hs : s ≤ C := by
    rcases Nat.lt_or_ge C s with h1 | h1
    · exact absurd (by unfold nxt; rw [if_neg (by omega), R.2 s h1]) hn
    · exact h1
  have h3 := S.bC3
  have R' := nxt_RU (K := K) (T := T) (c := c) (q := q) R
  have h1 := nxt_le S R
  have e := nxt_row S R (s := s) (by omega)
  have ez : ∀ t, t < 4 → wtN K C T c q r t * wtD K C T q (nxt K C T c q r) - wtN K C T c q (nxt K C T c q r) t * wtD K C T q r = 0 := by
    intro t ht
    have a1 := h t ht
    have a2 := h1 t ht
    omega
  have e0 := ez 0 (by omega)
  have e1 := ez 1 (by omega)
  have e2 := ez 2 (by omega)
  have e3 := ez 3 (by omega)
  rw [if_pos hs] at e
  unfold row4 at e
  simp only [e0, e1, e2, e3, Int.mul_zero, Int.add_zero] at e
  have p := Int.mul_pos (wtD_pos S R') (show 0 < acr K C T c q r s (r s) - acr K C T c q r s (nxt K C T c q r s) by
    have := btp_lt (acr K C T c q r s) (r s) (C - s + 1)
    unfold nxt at hn ⊢
    rw [if_pos hs] at hn ⊢
    have := this hn
    omega)
  omega
theorem leW.tr (S : STO K C T c q) {p r r' : Nat → Nat} (P : RU C p) (R : RU C r) (R' : RU C r') (h1 : leW K C T c q p r) (h2 : leW K C T c q r r') : leW K C T c q p r' := by
  intro s hs
  have a1 := h1 s hs
  have a2 := h2 s hs
  have dp := wtD_pos S P
  have dr := wtD_pos S R
  have dr' := wtD_pos S R'
  have b1 := Int.mul_le_mul_of_nonneg_right a1 (Int.le_of_lt dr')
  have b2 := Int.mul_le_mul_of_nonneg_right a2 (Int.le_of_lt dp)
  refine Int.le_of_mul_le_mul_right (a := wtD K C T q r) ?_ dr
  have e1 : wtN K C T c q p s * wtD K C T q r' * wtD K C T q r = wtN K C T c q p s * wtD K C T q r * wtD K C T q r' := by grind
  have e2 : wtN K C T c q r' s * wtD K C T q p * wtD K C T q r = wtN K C T c q r' s * wtD K C T q r * wtD K C T q p := by grind
  have e3 : wtN K C T c q r s * wtD K C T q p * wtD K C T q r' = wtN K C T c q r s * wtD K C T q r' * wtD K C T q p := by grind
  omega
/-- the rules by numbers -/
def rlo (i : Nat) (s : Nat) : Nat := if s < 4 then i / 4 ^ s % 4 else 0
def ruB (C i : Nat) : Bool := (List.range 4).all fun s => if s ≤ C then decide (s + rlo i s ≤ C) else decide (rlo i s = 0)
def rcd (r : Nat → Nat) : Nat := r 0 + 4 * r 1 + 16 * r 2 + 64 * r 3
theorem rlo_rcd {C : Nat} {r : Nat → Nat} (R : RU C r) (hC : C ≤ 3) : rlo (rcd r) = r := by
  have h : ∀ s, s < 4 → r s ≤ 3 := fun s hs => by have := R.le hC s hs; omega
  have h0 := h 0 (by omega)
  have h1 := h 1 (by omega)
  have h2 := h 2 (by omega)
  have h3 := h 3 (by omega)
  funext s
  unfold rlo rcd
  split
  · rename_i hs
    have : s = 0 ∨ s = 1 ∨ s = 2 ∨ s = 3 := by omega
    rcases this with rfl | rfl | rfl | rfl <;> simp <;> omega
  · exact (R.2 s (by omega)).symm
theorem rcd_lt {C : Nat} {r : Nat → Nat} (R : RU C r) (hC : C ≤ 3) : rcd r < 256 := by
  have h : ∀ s, s < 4 → r s ≤ 3 := fun s hs => by have := R.le hC s hs; omega
  have h0 := h 0 (by omega)
  have h1 := h 1 (by omega)
  have h2 := h 2 (by omega)
  have h3 := h 3 (by omega)
  unfold rcd
  omega
theorem ruB_RU {C i : Nat} (hC : C ≤ 3) : ruB C i = true ↔ RU C (rlo i) := by
  unfold ruB RU
  rw [List.all_eq_true]
  constructor
  · intro h
    refine ⟨fun s hs => ?_, fun s hs => ?_⟩
    · have := h s (List.mem_range.mpr (by omega))
      rw [if_pos hs] at this
      exact of_decide_eq_true this
    · rcases Nat.lt_or_ge s 4 with h4 | h4
      · have := h s (List.mem_range.mpr h4)
        rw [if_neg (by omega)] at this
        exact of_decide_eq_true this
      · unfold rlo; rw [if_neg (by omega)]
  · intro h s hs
    split
    · rename_i h1; exact decide_eq_true (h.1 s h1)
    · rename_i h1; exact decide_eq_true (h.2 s (by omega))
def cnl (p : Nat → Bool) : Nat → Nat
  | 0 => 0
  | n + 1 => cnl p n + (if p n then 1 else 0)
theorem cnl_le {p p' : Nat → Bool} (h : ∀ i, p i = true → p' i = true) : ∀ n, cnl p n ≤ cnl p' n
  | 0 => Nat.le_refl _
  | n + 1 => by
    have h1 := cnl_le h n
    have h2 := h n
    unfold cnl
    split <;> split <;> simp_all <;> omega
theorem cnl_lt {p p' : Nat → Bool} (h : ∀ i, p i = true → p' i = true) {k : Nat} (hk : p' k = true) (hn : p k = false) : ∀ n, k < n → cnl p n < cnl p' n
  | 0, h0 => by omega
  | n + 1, h0 => by
    unfold cnl
    rcases Nat.decEq k n with e | e
    · have h1 := cnl_lt h hk hn n (by omega)
      have h2 := h n
      split <;> split <;> simp_all <;> omega
    · have h1 := cnl_le h n
      subst e
      simp [hk, hn]
      omega
theorem cnl_24 {C : Nat} (h1 : 1 ≤ C) (h3 : C ≤ 3) : cnl (ruB C) 256 ≤ 24 := by
  have : C = 1 ∨ C = 2 ∨ C = 3 := by omega
  rcases this with rfl | rfl | rfl <;> decide +kernel
def leB (K C T : Nat) (c q p r : Nat → Nat) : Bool := (List.range 4).all fun s => decide (wtN K C T c q p s * wtD K C T q r ≤ wtN K C T c q r s * wtD K C T q p)
theorem leB_iff {p r : Nat → Nat} : leB K C T c q p r = true ↔ leW K C T c q p r := by
  unfold leB leW
  simp only [List.all_eq_true, List.mem_range, decide_eq_true_eq]
/-- how many rules are nowhere worse -/
def mea (K C T : Nat) (c q r : Nat → Nat) : Nat := cnl (fun i => ruB C i && leB K C T c q (rlo i) r) 256
theorem mea_le (S : STO K C T c q) {r : Nat → Nat} : mea K C T c q r ≤ 24 :=
  Nat.le_trans (cnl_le (fun i h => by simp only [Bool.and_eq_true] at h; exact h.1) 256) (cnl_24 S.bC1 S.bC3)
theorem mea_lt (S : STO K C T c q) {r : Nat → Nat} (R : RU C r) {s : Nat} (hn : nxt K C T c q r s ≠ r s) : mea K C T c q (nxt K C T c q r) < mea K C T c q r := by
  have R' := nxt_RU (K := K) (T := T) (c := c) (q := q) R
  refine cnl_lt (k := rcd r) (fun i h => ?_) ?_ ?_ 256 (rcd_lt R S.bC3)
  · simp only [Bool.and_eq_true, leB_iff] at h ⊢
    exact ⟨h.1, leW.tr S ((ruB_RU S.bC3).mp h.1) R' R h.2 (nxt_le S R)⟩
  · simp only [Bool.and_eq_true, leB_iff]
    refine ⟨(ruB_RU S.bC3).mpr (by rw [rlo_rcd R S.bC3]; exact R), ?_⟩
    rw [rlo_rcd R S.bC3]
    exact fun t _ => Int.le_refl _
  · rw [Bool.and_eq_false_iff]
    right
    rw [← Bool.not_eq_true, leB_iff, rlo_rcd R S.bC3]
    exact nxt_lt S R hn
/-- how many orders a round changes -/
def oth (r r' : Nat → Nat) : Nat → Nat
  | 0 => 0
  | n + 1 => oth r r' n + (if r' n = r n then 0 else 1)
theorem oth_0 {r r' : Nat → Nat} : ∀ n, oth r r' n = 0 → ∀ s, s < n → r' s = r s
  | 0, _, s, hs => by omega
  | n + 1, h, s, hs => by
    unfold oth at h
    split at h
    · rename_i e
      rcases Nat.decEq s n with e2 | e2
      · exact oth_0 n (by omega) s (by omega)
      · rw [e2, e]
    · omega
theorem oth_p {r r' : Nat → Nat} : ∀ n, 0 < oth r r' n → ∃ s, s < n ∧ r' s ≠ r s
  | 0, h => by unfold oth at h; omega
  | n + 1, h => by
    unfold oth at h
    split at h
    · obtain ⟨s, h1, h2⟩ := oth_p n (by omega)
      exact ⟨s, by omega, h2⟩
    · rename_i e; exact ⟨n, by omega, e⟩
theorem oth_le {r r' : Nat → Nat} : ∀ n, oth r r' n ≤ n
  | 0 => Nat.le_refl _
  | n + 1 => by have := oth_le (r := r) (r' := r') n; unfold oth; split <;> omega
/-- rounds up to the best rule -/
def bsf (K C T : Nat) (c q : Nat → Nat) : Nat → (Nat → Nat) → Nat × (Nat → Nat)
  | 0, r => (0, r)
  | k + 1, r => if oth r (nxt K C T c q r) (C + 1) = 0 then (0, r) else ((bsf K C T c q k (nxt K C T c q r)).1 + 1, (bsf K C T c q k (nxt K C T c q r)).2)
def bst (K C T : Nat) (c q r : Nat → Nat) : Nat → Nat := (bsf K C T c q 24 r).2
def rnd (K C T : Nat) (c q r : Nat → Nat) : Nat := (bsf K C T c q 24 r).1
theorem bsf_RU : ∀ k {r : Nat → Nat}, RU C r → RU C (bsf K C T c q k r).2
  | 0, _, R => R
  | k + 1, r, R => by
    unfold bsf
    split
    · exact R
    · exact bsf_RU k (nxt_RU R)
theorem nxt_same {r : Nat → Nat} (R : RU C r) (h : oth r (nxt K C T c q r) (C + 1) = 0) : nxt K C T c q r = r := by
  funext s
  rcases Nat.lt_or_ge C s with h1 | h1
  · unfold nxt; rw [if_neg (by omega), R.2 s h1]
  · exact oth_0 _ h s (by omega)
theorem bsf_walk (S : STO K C T c q) {P : Nat → (Nat → Nat) → Prop} (hP : ∀ n r, n ≤ 24 → RU C r → (oth r (nxt K C T c q r) (C + 1) ≠ 0 → P (n + 1) (nxt K C T c q r)) → P n r)
    (k n : Nat) (r : Nat → Nat) (hm : mea K C T c q r ≤ k) (hn : n + k ≤ 24) (R : RU C r) : P n r := by
  induction k generalizing n r with
  | zero =>
    refine hP n r (by omega) R (fun h => ?_)
    obtain ⟨s, _, h2⟩ := oth_p _ (Nat.pos_of_ne_zero h)
    have := mea_lt S R h2
    omega
  | succ k ih =>
    refine hP n r (by omega) R (fun h => ?_)
    obtain ⟨s, _, h2⟩ := oth_p _ (Nat.pos_of_ne_zero h)
    have := mea_lt S R h2
    exact ih (n + 1) _ (by omega) (by omega) (nxt_RU R)
theorem bsf_step (S : STO K C T c q) (k : Nat) {r : Nat → Nat} (R : RU C r) (hm : mea K C T c q r ≤ k) : bsf K C T c q k r = if oth r (nxt K C T c q r) (C + 1) = 0 then (0, r) else ((bsf K C T c q k (nxt K C T c q r)).1 + 1, (bsf K C T c q k (nxt K C T c q r)).2) := by
  induction k generalizing r with
  | zero =>
    split
    · rfl
    · rename_i h
      obtain ⟨s, _, h2⟩ := oth_p _ (Nat.pos_of_ne_zero h)
      have := mea_lt S R h2
      omega
  | succ k ih =>
    conv => lhs; unfold bsf
    split
    · rfl
    · rename_i h
      obtain ⟨s, _, h2⟩ := oth_p _ (Nat.pos_of_ne_zero h)
      have := mea_lt S R h2
      have e : bsf K C T c q (k + 1) (nxt K C T c q r) = bsf K C T c q k (nxt K C T c q r) := by
        rw [ih (nxt_RU R) (by omega)]
        rfl
      rw [e]
theorem bsf_le : ∀ k {r : Nat → Nat}, (bsf K C T c q k r).1 ≤ k
  | 0, _ => Nat.le_refl _
  | k + 1, r => by
    have := bsf_le k (r := nxt K C T c q r)
    unfold bsf
    split
    · exact Nat.zero_le _
    · show (bsf K C T c q k (nxt K C T c q r)).1 + 1 ≤ k + 1
      omega
end
