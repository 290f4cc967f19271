/-! what both hold: one row of numbers -/
def upN (ν : Nat → Nat) (k v : Nat) : Nat → Nat := fun i => if i = k then v else ν i
theorem upN_h {ν : Nat → Nat} {k v : Nat} : upN ν k v k = v := by simp [upN]
theorem upN_n {ν : Nat → Nat} {k v i : Nat} (h : i ≠ k) : upN ν k v i = ν i := by simp [upN, h]
/-- the number at a place; seed and balance are any ints -/
def va (ν : Nat → Nat) (sd bl : Int32) (k : Nat) : Int32 := if k = 69 then sd else if k = 70 then bl else nI (ν k)
theorem va_n {ν : Nat → Nat} {sd bl : Int32} {k : Nat} (h : k ≠ 69) (h2 : k ≠ 70) : va ν sd bl k = nI (ν k) := by simp [va, h, h2]
theorem va_69 {ν : Nat → Nat} {sd bl : Int32} : va ν sd bl 69 = sd := rfl
theorem va_70 {ν : Nat → Nat} {sd bl : Int32} : va ν sd bl 70 = bl := rfl
/-- where the class holds it -/
def ca (k : Nat) : Nat × Nat :=
  if k < 3 then (0, k) else if k < 7 then (1, k - 3) else if k = 7 then (0, 3) else if k < 12 then (2, k - 8) else if k < 17 then (3, k - 12) else if k < 21 then (5, k - 17)
  else if k < 41 then (4, 4 * ((k - 21) / 5) + (k - 21) % 5) else if k = 41 then (6, 2) else if k < 52 then (7, 3 * ((k - 42) / 2) + (k - 42) % 2) else if k = 52 then (8, 2)
  else if k < 69 then (9, 3 * ((k - 53) / 2) + (k - 53) % 2) else if k < 72 then (0, k - 65) else if k = 72 then (10, 2) else (11, k - 73)
def dom (ν : Nat → Nat) (k : Nat) : Prop := k < 97 ∧ k ≠ 16 ∧ (21 ≤ k → k < 41 → (k - 21) % 5 ≠ 4 ∧ ν (17 + (k - 21) / 5) = 1)
def LIM (f : Nat → Nat → Int32) (b : Nat) : Prop := f (b + 6) 0 = nI 5 ∧ f (b + 8) 0 = nI 8 ∧ f (b + 10) 0 = nI 8
def HC (ν : Nat → Nat) (sd bl : Int32) (f : Nat → Nat → Int32) (b : Nat) : Prop := (∀ k, dom ν k → f (b + (ca k).1) (ca k).2 = va ν sd bl k) ∧ LIM f b
def HM (ν : Nat → Nat) (sd bl : Int32) (f : Nat → Nat → Int32) (a : Nat) : Prop := ∀ k, k < 97 → f a k = va ν sd bl k
theorem ca_inj0 : ∀ k : Fin 97, ∀ k' : Fin 97, k.val ≠ 16 → k'.val ≠ 16 → (21 ≤ k.val ∧ k.val < 41 → (k.val - 21) % 5 ≠ 4) → (21 ≤ k'.val ∧ k'.val < 41 → (k'.val - 21) % 5 ≠ 4) → ca k.val = ca k'.val → k.val = k'.val := by decide +kernel
theorem ca_inj {ν ν' : Nat → Nat} {k k' : Nat} (h : dom ν k) (h' : dom ν' k') (e : ca k = ca k') : k = k' := by
  obtain ⟨a1, a2, a3⟩ := h
  obtain ⟨b1, b2, b3⟩ := h'
  exact ca_inj0 ⟨k, a1⟩ ⟨k', b1⟩ a2 b2 (fun z => (a3 z.1 z.2).1) (fun z => (b3 z.1 z.2).1) e
theorem ca_lim : ∀ k : Fin 97, ca k.val ≠ (6, 0) ∧ ca k.val ≠ (8, 0) ∧ ca k.val ≠ (10, 0) := by decide +kernel
theorem ca_le : ∀ k : Fin 97, (ca k.val).1 ≤ 11 := by decide +kernel
theorem dom_n {ν : Nat → Nat} {k : Nat} (h : k < 97) (h2 : k ≠ 16) (h3 : ¬ (21 ≤ k ∧ k < 41)) : dom ν k := ⟨h, h2, fun a b => absurd ⟨a, b⟩ h3⟩
/-- a cell of the class becomes what a place becomes -/
theorem HC.st {ν ν' : Nat → Nat} {sd bl sd' bl' : Int32} {f : Nat → Nat → Int32} {b a j k : Nat} {x : Int32} (h : HC ν sd bl f b) (hk : dom ν' k) (ha : b + (ca k).1 = a) (hj : (ca k).2 = j) (hx : x = va ν' sd' bl' k)
    (ho : ∀ i, i ≠ k → dom ν' i → dom ν i ∧ va ν' sd' bl' i = va ν sd bl i) : HC ν' sd' bl' (upM f a j x) b := by
  subst ha; subst hj
  have hl := ca_lim ⟨k, hk.1⟩
  dsimp only at hl
  refine ⟨fun i hi => ?_, ?_⟩
  · by_cases e : i = k
    · subst e; rw [upM_h, hx]
    · obtain ⟨d1, d2⟩ := ho i e hi
      have h1 := h.1 i d1
      rw [d2, ← h1]
      unfold upM
      split
      · split
        · rename_i e1 e2
          exact absurd (ca_inj hi hk (Prod.ext (by omega) e2)) e
        · rename_i e1 e2; rw [show (ca i).1 = (ca k).1 by omega]
      · rfl
  · obtain ⟨l1, l2, l3⟩ := h.2
    have key : ∀ c, ca k ≠ (c, 0) → upM f (b + (ca k).1) (ca k).2 x (b + c) 0 = f (b + c) 0 := fun c hc => by
      by_cases e : b + c = b + (ca k).1
      · have e2 : (ca k).2 ≠ 0 := fun z => hc (Prod.ext (by show (ca k).1 = c; omega) z)
        rw [e, upM_k (Ne.symm e2)]
      · exact upM_a e
    exact ⟨(key 6 hl.1).trans l1, (key 8 hl.2.1).trans l2, (key 10 hl.2.2).trans l3⟩
/-- a number becomes another one -/
theorem HC.sn {ν : Nat → Nat} {sd bl : Int32} {f : Nat → Nat → Int32} {b a j : Nat} (h : HC ν sd bl f b) (k v : Nat) (hk : k < 97) (h16 : k < 16 ∨ 41 ≤ k) (h6 : k ≠ 69 ∧ k ≠ 70) (ha : b + (ca k).1 = a) (hj : (ca k).2 = j) : HC (upN ν k v) sd bl (upM f a j (nI v)) b := by
  refine h.st (k := k) (dom_n hk (by omega) (by omega)) ha hj (by rw [va_n h6.1 h6.2, upN_h]) (fun i e hi => ⟨?_, ?_⟩)
  · obtain ⟨a1, a2, a3⟩ := hi
    refine ⟨a1, a2, fun b1 b2 => ?_⟩
    have := a3 b1 b2
    rw [upN_n (by omega)] at this
    exact this
  · unfold va; rw [upN_n e]
theorem HC.ssd {ν : Nat → Nat} {sd bl : Int32} {f : Nat → Nat → Int32} {b a : Nat} (h : HC ν sd bl f b) (v : Int32) (ha : b = a) : HC ν v bl (upM f a 4 v) b :=
  h.st (k := 69) (dom_n (by omega) (by omega) (by omega)) ha rfl rfl (fun i e hi => ⟨hi, by unfold va; rw [if_neg e, if_neg e]⟩)
theorem HC.sbl {ν : Nat → Nat} {sd bl : Int32} {f : Nat → Nat → Int32} {b a : Nat} (h : HC ν sd bl f b) (v : Int32) (ha : b = a) : HC ν sd v (upM f a 5 v) b :=
  h.st (k := 70) (dom_n (by omega) (by omega) (by omega)) ha rfl rfl (fun i e hi => ⟨hi, by unfold va; rw [if_neg e, if_neg e]⟩)
theorem HC.fr {ν : Nat → Nat} {sd bl : Int32} {f f' : Nat → Nat → Int32} {b : Nat} (h : HC ν sd bl f b) (hf : ∀ a, b ≤ a → a ≤ b + 11 → f' a = f a) : HC ν sd bl f' b := by
  obtain ⟨h1, h2, h3, h4⟩ := h
  refine ⟨fun k hk => ?_, ?_, ?_, ?_⟩
  · have := ca_le ⟨k, hk.1⟩
    dsimp only at this
    rw [hf _ (by omega) (by omega)]
    exact h1 k hk
  · rw [hf _ (by omega) (by omega)]; exact h2
  · rw [hf _ (by omega) (by omega)]; exact h3
  · rw [hf _ (by omega) (by omega)]; exact h4
theorem HM.sn {ν : Nat → Nat} {sd bl : Int32} {f : Nat → Nat → Int32} {a : Nat} (h : HM ν sd bl f a) (k v : Nat) (h6 : k ≠ 69 ∧ k ≠ 70) : HM (upN ν k v) sd bl (upM f a k (nI v)) a := fun i hi => by
  by_cases e : i = k
  · subst e; rw [upM_h, va_n h6.1 h6.2, upN_h]
  · rw [upM_k e, h i hi]; unfold va; rw [upN_n e]
theorem HM.ssd {ν : Nat → Nat} {sd bl : Int32} {f : Nat → Nat → Int32} {a : Nat} (h : HM ν sd bl f a) (v : Int32) : HM ν v bl (upM f a 69 v) a := fun i hi => by
  by_cases e : i = 69
  · subst e; rw [upM_h]; rfl
  · rw [upM_k e, h i hi]; unfold va; rw [if_neg e, if_neg e]
theorem HM.sbl {ν : Nat → Nat} {sd bl : Int32} {f : Nat → Nat → Int32} {a : Nat} (h : HM ν sd bl f a) (v : Int32) : HM ν sd v (upM f a 70 v) a := fun i hi => by
  by_cases e : i = 70
  · subst e; rw [upM_h]; rfl
  · rw [upM_k e, h i hi]; unfold va; rw [if_neg e, if_neg e]
theorem HM.fr {ν : Nat → Nat} {sd bl : Int32} {f f' : Nat → Nat → Int32} {a : Nat} (h : HM ν sd bl f a) (hf : f' a = f a) : HM ν sd bl f' a := fun i hi => by rw [hf]; exact h i hi
/-- the cells of the class, by name -/
theorem HC.op {ν : Nat → Nat} {sd bl : Int32} {f : Nat → Nat → Int32} {b : Nat} (h : HC ν sd bl f b) :
    f b 0 = nI (ν 0) ∧ f b 1 = nI (ν 1) ∧ f b 2 = nI (ν 2) ∧ f b 3 = nI (ν 7) ∧ f b 4 = sd ∧ f b 5 = bl ∧ f b 6 = nI (ν 71) ∧ (∀ j, j < 4 → f (b + 1) j = nI (ν (3 + j))) ∧ (∀ j, j < 4 → f (b + 2) j = nI (ν (8 + j))) ∧ (∀ j, j < 4 → f (b + 3) j = nI (ν (12 + j))) ∧ (∀ j, j < 4 → f (b + 5) j = nI (ν (17 + j)))
    ∧ (∀ i j, i < 4 → j < 4 → ν (17 + i) = 1 → f (b + 4) (i * 4 + j) = nI (ν (21 + 5 * i + j))) ∧ f (b + 6) 2 = nI (ν 41) ∧ f (b + 8) 2 = nI (ν 52) ∧ f (b + 10) 2 = nI (ν 72)
    ∧ (∀ k j, k < 5 → j < 2 → f (b + 7) (k * 3 + j) = nI (ν (42 + 2 * k + j))) ∧ (∀ k j, k < 8 → j < 2 → f (b + 9) (k * 3 + j) = nI (ν (53 + 2 * k + j))) ∧ (∀ j, j < 24 → f (b + 11) j = nI (ν (73 + j))) ∧ f (b + 6) 0 = nI 5 ∧ f (b + 8) 0 = nI 8 ∧ f (b + 10) 0 = nI 8 := by
  obtain ⟨h1, h2⟩ := h
  have hn : ∀ k, k < 97 → k ≠ 16 → ¬ (21 ≤ k ∧ k < 41) → k ≠ 69 → k ≠ 70 → f (b + (ca k).1) (ca k).2 = nI (ν k) := fun k a1 a2 a3 a4 a5 => by rw [h1 k (dom_n a1 a2 a3), va_n a4 a5]
  refine ⟨hn 0 (by omega) (by omega) (by omega) (by omega) (by omega), hn 1 (by omega) (by omega) (by omega) (by omega) (by omega), hn 2 (by omega) (by omega) (by omega) (by omega) (by omega), hn 7 (by omega) (by omega) (by omega) (by omega) (by omega), h1 69 (dom_n (by omega) (by omega) (by omega)), h1 70 (dom_n (by omega) (by omega) (by omega)), hn 71 (by omega) (by omega) (by omega) (by omega) (by omega), fun j hj => ?_, fun j hj => ?_, fun j hj => ?_, fun j hj => ?_, fun i j hi hj e => ?_, hn 41 (by omega) (by omega) (by omega) (by omega) (by omega), hn 52 (by omega) (by omega) (by omega) (by omega) (by omega), hn 72 (by omega) (by omega) (by omega) (by omega) (by omega), fun k j hk hj => ?_, fun k j hk hj => ?_, fun j hj => ?_, h2⟩
  · have := hn (3 + j) (by omega) (by omega) (by omega) (by omega) (by omega)
    rw [show ca (3 + j) = (1, j) by unfold ca; rw [if_neg (by omega), if_pos (by omega)]; congr 1; omega] at this
    exact this
  · have := hn (8 + j) (by omega) (by omega) (by omega) (by omega) (by omega)
    rw [show ca (8 + j) = (2, j) by unfold ca; rw [if_neg (by omega), if_neg (by omega), if_neg (by omega), if_pos (by omega)]; congr 1; omega] at this
    exact this
  · have := hn (12 + j) (by omega) (by omega) (by omega) (by omega) (by omega)
    rw [show ca (12 + j) = (3, j) by unfold ca; rw [if_neg (by omega), if_neg (by omega), if_neg (by omega), if_neg (by omega), if_pos (by omega)]; congr 1; omega] at this
    exact this
  · have := hn (17 + j) (by omega) (by omega) (by omega) (by omega) (by omega)
    rw [show ca (17 + j) = (5, j) by unfold ca; rw [if_neg (by omega), if_neg (by omega), if_neg (by omega), if_neg (by omega), if_neg (by omega), if_pos (by omega)]; congr 1; omega] at this
    exact this
  · have := h1 (21 + 5 * i + j) ⟨by omega, by omega, fun _ _ => ⟨by omega, by rw [show 17 + (21 + 5 * i + j - 21) / 5 = 17 + i by omega]; exact e⟩⟩
    rw [va_n (by omega) (by omega), show ca (21 + 5 * i + j) = (4, i * 4 + j) by unfold ca; rw [if_neg (by omega), if_neg (by omega), if_neg (by omega), if_neg (by omega), if_neg (by omega), if_neg (by omega), if_pos (by omega)]; congr 1; omega] at this
    exact this
  · have := hn (42 + 2 * k + j) (by omega) (by omega) (by omega) (by omega) (by omega)
    rw [show ca (42 + 2 * k + j) = (7, k * 3 + j) by unfold ca; rw [if_neg (by omega), if_neg (by omega), if_neg (by omega), if_neg (by omega), if_neg (by omega), if_neg (by omega), if_neg (by omega), if_neg (by omega), if_pos (by omega)]; congr 1; omega] at this
    exact this
  · have := hn (53 + 2 * k + j) (by omega) (by omega) (by omega) (by omega) (by omega)
    rw [show ca (53 + 2 * k + j) = (9, k * 3 + j) by unfold ca; rw [if_neg (by omega), if_neg (by omega), if_neg (by omega), if_neg (by omega), if_neg (by omega), if_neg (by omega), if_neg (by omega), if_neg (by omega), if_neg (by omega), if_neg (by omega), if_pos (by omega)]; congr 1; omega] at this
    exact this
  · have := hn (73 + j) (by omega) (by omega) (by omega) (by omega) (by omega)
    rw [show ca (73 + j) = (11, j) by unfold ca; rw [if_neg (by omega), if_neg (by omega), if_neg (by omega), if_neg (by omega), if_neg (by omega), if_neg (by omega), if_neg (by omega), if_neg (by omega), if_neg (by omega), if_neg (by omega), if_neg (by omega), if_neg (by omega), if_neg (by omega)]; congr 1; omega] at this
    exact this
/-- and back -/
theorem HC.mk {ν : Nat → Nat} {sd bl : Int32} {f : Nat → Nat → Int32} {b : Nat} (h0 : f b 0 = nI (ν 0)) (h1 : f b 1 = nI (ν 1)) (h2 : f b 2 = nI (ν 2)) (h3 : f b 3 = nI (ν 7)) (h4 : f b 4 = sd) (h5 : f b 5 = bl) (h6 : f b 6 = nI (ν 71)) (hc : ∀ j, j < 4 → f (b + 1) j = nI (ν (3 + j))) (hq : ∀ j, j < 4 → f (b + 2) j = nI (ν (8 + j))) (hr : ∀ j, j < 4 → f (b + 3) j = nI (ν (12 + j))) (hi : ∀ j, j < 4 → f (b + 5) j = nI (ν (17 + j)))
    (hk : ∀ i j, i < 4 → j < 4 → ν (17 + i) = 1 → f (b + 4) (i * 4 + j) = nI (ν (21 + 5 * i + j))) (hs : f (b + 6) 2 = nI (ν 41)) (hp : f (b + 8) 2 = nI (ν 52)) (hl : f (b + 10) 2 = nI (ν 72))
    (hsi : ∀ k j, k < 5 → j < 2 → f (b + 7) (k * 3 + j) = nI (ν (42 + 2 * k + j))) (hpi : ∀ k j, k < 8 → j < 2 → f (b + 9) (k * 3 + j) = nI (ν (53 + 2 * k + j))) (hli : ∀ j, j < 24 → f (b + 11) j = nI (ν (73 + j))) (hL : LIM f b) : HC ν sd bl f b := by
  refine ⟨fun k hk2 => ?_, hL⟩
  obtain ⟨d1, d2, d3⟩ := hk2
  by_cases e69 : k = 69
  · subst e69; exact h4
  by_cases e70 : k = 70
  · subst e70; exact h5
  rw [va_n e69 e70]
  have key : k = 0 ∨ k = 1 ∨ k = 2 ∨ (∃ j, j < 4 ∧ k = 3 + j) ∨ k = 7 ∨ (∃ j, j < 4 ∧ k = 8 + j) ∨ (∃ j, j < 4 ∧ k = 12 + j) ∨ (∃ j, j < 4 ∧ k = 17 + j) ∨ (∃ i j, i < 4 ∧ j < 5 ∧ k = 21 + 5 * i + j) ∨ k = 41 ∨ (∃ i j, i < 5 ∧ j < 2 ∧ k = 42 + 2 * i + j) ∨ k = 52 ∨ (∃ i j, i < 8 ∧ j < 2 ∧ k = 53 + 2 * i + j) ∨ k = 71 ∨ k = 72 ∨ (∃ j, j < 24 ∧ k = 73 + j) := by
    rcases Nat.lt_or_ge k 3 with a | a
    · omega
    rcases Nat.lt_or_ge k 7 with a2 | a2
    · exact .inr (.inr (.inr (.inl ⟨k - 3, by omega, by omega⟩)))
    rcases Nat.lt_or_ge k 8 with a3 | a3
    · omega
    rcases Nat.lt_or_ge k 12 with a4 | a4
    · exact .inr (.inr (.inr (.inr (.inr (.inl ⟨k - 8, by omega, by omega⟩)))))
    rcases Nat.lt_or_ge k 17 with a5 | a5
    · exact .inr (.inr (.inr (.inr (.inr (.inr (.inl ⟨k - 12, by omega, by omega⟩))))))
    rcases Nat.lt_or_ge k 21 with a6 | a6
    · exact .inr (.inr (.inr (.inr (.inr (.inr (.inr (.inl ⟨k - 17, by omega, by omega⟩)))))))
    rcases Nat.lt_or_ge k 41 with a7 | a7
    · exact .inr (.inr (.inr (.inr (.inr (.inr (.inr (.inr (.inl ⟨(k - 21) / 5, (k - 21) % 5, by omega, by omega, by omega⟩))))))))
    rcases Nat.lt_or_ge k 42 with a8 | a8
    · omega
    rcases Nat.lt_or_ge k 52 with a9 | a9
    · exact .inr (.inr (.inr (.inr (.inr (.inr (.inr (.inr (.inr (.inr (.inl ⟨(k - 42) / 2, (k - 42) % 2, by omega, by omega, by omega⟩))))))))))
    rcases Nat.lt_or_ge k 53 with b1 | b1
    · omega
    rcases Nat.lt_or_ge k 69 with b2 | b2
    · exact .inr (.inr (.inr (.inr (.inr (.inr (.inr (.inr (.inr (.inr (.inr (.inr (.inl ⟨(k - 53) / 2, (k - 53) % 2, by omega, by omega, by omega⟩))))))))))))
    rcases Nat.lt_or_ge k 73 with b3 | b3
    · omega
    exact .inr (.inr (.inr (.inr (.inr (.inr (.inr (.inr (.inr (.inr (.inr (.inr (.inr (.inr (.inr ⟨k - 73, by omega, by omega⟩))))))))))))))
  rcases key with e | e | e | ⟨j, hj, e⟩ | e | ⟨j, hj, e⟩ | ⟨j, hj, e⟩ | ⟨j, hj, e⟩ | ⟨i, j, hi2, hj, e⟩ | e | ⟨i, j, hi2, hj, e⟩ | e | ⟨i, j, hi2, hj, e⟩ | e | e | ⟨j, hj, e⟩
  · subst e; exact h0
  · subst e; exact h1
  · subst e; exact h2
  · subst e
    rw [show ca (3 + j) = (1, j) by unfold ca; rw [if_neg (by omega), if_pos (by omega)]; congr 1; omega]
    exact hc j hj
  · subst e; exact h3
  · subst e
    rw [show ca (8 + j) = (2, j) by unfold ca; rw [if_neg (by omega), if_neg (by omega), if_neg (by omega), if_pos (by omega)]; congr 1; omega]
    exact hq j hj
  · subst e
    rw [show ca (12 + j) = (3, j) by unfold ca; rw [if_neg (by omega), if_neg (by omega), if_neg (by omega), if_neg (by omega), if_pos (by omega)]; congr 1; omega]
    exact hr j hj
  · subst e
    rw [show ca (17 + j) = (5, j) by unfold ca; rw [if_neg (by omega), if_neg (by omega), if_neg (by omega), if_neg (by omega), if_neg (by omega), if_pos (by omega)]; congr 1; omega]
    exact hi j hj
  · subst e
    have d4 := d3 (by omega) (by omega)
    rw [show ca (21 + 5 * i + j) = (4, i * 4 + j) by unfold ca; rw [if_neg (by omega), if_neg (by omega), if_neg (by omega), if_neg (by omega), if_neg (by omega), if_neg (by omega), if_pos (by omega)]; congr 1; omega]
    exact hk i j hi2 (by omega) (by rw [show 17 + (21 + 5 * i + j - 21) / 5 = 17 + i by omega] at d4; exact d4.2)
  · subst e; exact hs
  · subst e
    rw [show ca (42 + 2 * i + j) = (7, i * 3 + j) by unfold ca; rw [if_neg (by omega), if_neg (by omega), if_neg (by omega), if_neg (by omega), if_neg (by omega), if_neg (by omega), if_neg (by omega), if_neg (by omega), if_pos (by omega)]; congr 1; omega]
    exact hsi i j hi2 hj
  · subst e; exact hp
  · subst e
    rw [show ca (53 + 2 * i + j) = (9, i * 3 + j) by unfold ca; rw [if_neg (by omega), if_neg (by omega), if_neg (by omega), if_neg (by omega), if_neg (by omega), if_neg (by omega), if_neg (by omega), if_neg (by omega), if_neg (by omega), if_neg (by omega), if_pos (by omega)]; congr 1; omega]
    exact hpi i j hi2 hj
  · subst e; exact h6
  · subst e; exact hl
  · subst e
    rw [show ca (73 + j) = (11, j) by unfold ca; rw [if_neg (by omega), if_neg (by omega), if_neg (by omega), if_neg (by omega), if_neg (by omega), if_neg (by omega), if_neg (by omega), if_neg (by omega), if_neg (by omega), if_neg (by omega), if_neg (by omega), if_neg (by omega), if_neg (by omega)]; congr 1; omega]
    exact hli j hj
/-- a rule among the numbers -/
def rlN (ν : Nat → Nat) (o s : Nat) : Nat := if s < 5 then ν (o + s) else 0
def WF (ν : Nat → Nat) : Prop := ν 0 ≤ 2 ∧ 1 ≤ ν 1 ∧ ν 1 ≤ 3 ∧ ν 2 ≤ ν 1 ∧ (∀ j, j < 3 → ν (3 + j) ≤ 9) ∧ ν 6 ≤ 20 ∧ ν 7 ≤ 9 ∧ (∀ j, j < 4 → ν (8 + j) ≤ 5) ∧ 1 ≤ ν 8 + ν 9 + ν 10 + ν 11 ∧ ν 8 + ν 9 + ν 10 + ν 11 ≤ 6
  ∧ RU (ν 1) (rlN ν 12) ∧ (∀ i, i < 4 → ν (17 + i) ≤ 1) ∧ (∀ i, i < 4 → ν (17 + i) = 1 → RU (ν 1) (rlN ν (21 + 5 * i)))
  ∧ ν 41 ≤ 5 ∧ (∀ k, k < ν 41 → ν (42 + 2 * k) + ν (43 + 2 * k) ≤ ν 1) ∧ ν 52 ≤ 8 ∧ (∀ k, k < ν 52 → ν (53 + 2 * k) ≤ 2 ∧ ν (54 + 2 * k) ≤ 3)
  ∧ ν 71 ≤ 9999 ∧ ν 72 ≤ 8 ∧ (∀ k, k < ν 72 → ν (73 + 3 * k) ≤ 3 ∧ ν (74 + 3 * k) ≤ 3 ∧ ν (75 + 3 * k) ≤ 3)
def cN (ν : Nat → Nat) (j : Nat) : Nat := ν (3 + j)
def qN (ν : Nat → Nat) (j : Nat) : Nat := ν (8 + j)
theorem WF.c {ν : Nat → Nat} (h : WF ν) : ∀ j, j < 4 → cN ν j ≤ 20 := by
  obtain ⟨-, -, -, -, h3, h6, -⟩ := h
  intro j hj
  by_cases e : j = 3
  · subst e; exact h6
  · have := h3 j (by omega)
    unfold cN; omega
theorem WF.sto {ν : Nat → Nat} (h : WF ν) : STO (ν 0) (ν 1) (ν 7) (cN ν) (qN ν) :=
  ⟨h.2.1, h.2.2.1, h.2.2.2.2.2.2.1, h.c, h.2.2.2.2.2.2.2.1, h.2.2.2.2.2.2.2.2.1, h.2.2.2.2.2.2.2.2.2.1⟩
theorem HC.sb {ν : Nat → Nat} {sd bl : Int32} {f : Nat → Nat → Int32} {b : Nat} (h : HC ν sd bl f b) (w : WF ν) : SB f b (ν 0) (ν 1) (ν 7) (cN ν) (qN ν) := by
  obtain ⟨h0, h1, -, h7, -, -, -, hc, hq, -⟩ := h.op
  exact ⟨h0, h1, h7, hc, hq, w.1, w.2.1, w.2.2.1, w.2.2.2.2.2.2.1, w.c, w.2.2.2.2.2.2.2.1, w.2.2.2.2.2.2.2.2.1, w.2.2.2.2.2.2.2.2.2.1⟩
/-- what lies beside the two stores: pictures, texts, tapes -/
def TXT (f : Nat → Nat → Int32) : Prop := ∃ (n : Nat) (x : Nat → Nat), n ≤ 60 ∧ f 51 1 = nI n ∧ f 66 4 = nI n ∧ (∀ i, i < n → x i ≤ 127) ∧ (∀ i, i < n → f 52 i = nI (x i)) ∧ ∀ i, i < n → f 69 i = nI (x i)
def IMG (f : Nat → Nat → Int32) : Prop := LIM f 13 ∧ ((f 0 3 = nI 0 ∧ f 66 2 = nI 0) ∨ (f 0 3 = nI 1 ∧ f 66 2 = nI 1 ∧ ∃ (ν : Nat → Nat) (sd bl : Int32), WF ν ∧ HC ν sd bl f 13 ∧ HM ν sd bl f 68))
def TAP (f : Nat → Nat → Int32) (g : Nat → Nat → Int64) : Prop := ∀ t, t < 6 → ∃ (so n : Nat), so ≤ 5 ∧ n ≤ 60 ∧ (so = 0 → n = 0) ∧ f (54 + 2 * t) 0 = nI so - nI 1 ∧ f 81 t = nI so ∧ f (54 + 2 * t) 1 = nI n ∧ f 82 t = nI n ∧ ∀ i, i < 60 → g (55 + 2 * t) i = g 83 (60 * t + i)
def REST (f : Nat → Nat → Int32) (g : Nat → Nat → Int64) : Prop := TXT f ∧ IMG f ∧ TAP f g ∧ LIM f 25
def INV (f : Nat → Nat → Int32) (g : Nat → Nat → Int64) : Prop := (∃ (ν : Nat → Nat) (sd bl : Int32), WF ν ∧ HC ν sd bl f 1 ∧ HM ν sd bl f 67) ∧ REST f g
/-- the places that what lies beside speaks of -/
def side (a k : Nat) : Prop := (a = 0 ∧ k = 3) ∨ (13 ≤ a ∧ a ≤ 24) ∨ (a = 31 ∧ k = 0) ∨ (a = 33 ∧ k = 0) ∨ (a = 35 ∧ k = 0) ∨ (a = 51 ∧ k = 1) ∨ (52 ≤ a ∧ a ≤ 65) ∨ (a = 66 ∧ (k = 2 ∨ k = 4)) ∨ a = 68 ∨ a = 69 ∨ a = 81 ∨ a = 82
theorem REST.fr {f f' : Nat → Nat → Int32} {g g' : Nat → Nat → Int64} (h : REST f g) (hf : ∀ a k, side a k → f' a k = f a k) (hg : ∀ a, (54 ≤ a ∧ a ≤ 65) ∨ a = 83 → g' a = g a) : REST f' g' := by
  obtain ⟨⟨n, x, t1, t2, t3, t4, t5, t6⟩, ⟨i1, i2⟩, ht, hl⟩ := h
  have hs : ∀ a, 13 ≤ a → a ≤ 24 → f' a = f a := fun a h1 h2 => by funext k; exact hf a k (by unfold side; omega)
  have h68 : f' 68 = f 68 := by funext k; exact hf 68 k (by unfold side; omega)
  refine ⟨⟨n, x, t1, ?_, ?_, t4, fun i hi => ?_, fun i hi => ?_⟩, ⟨?_, ?_⟩, fun t htt => ?_, ?_, ?_, ?_⟩
  · rw [hf 51 1 (by unfold side; omega)]; exact t2
  · rw [hf 66 4 (by unfold side; omega)]; exact t3
  · rw [hf 52 i (by unfold side; omega)]; exact t5 i hi
  · rw [hf 69 i (by unfold side; omega)]; exact t6 i hi
  · unfold LIM; rw [hs 19 (by omega) (by omega), hs 21 (by omega) (by omega), hs 23 (by omega) (by omega)]; exact i1
  · rw [hf 0 3 (by unfold side; omega), hf 66 2 (by unfold side; omega)]
    rcases i2 with i2 | ⟨a1, a2, ν, sd, bl, a3, a4, a5⟩
    · exact .inl i2
    · exact .inr ⟨a1, a2, ν, sd, bl, a3, a4.fr (fun a b1 b2 => hs a b1 (by omega)), a5.fr h68⟩
  · obtain ⟨so, n, b1, b2, b3, b4, b5, b6, b7, b8⟩ := ht t htt
    refine ⟨so, n, b1, b2, b3, ?_, ?_, ?_, ?_, fun i hi => ?_⟩
    · rw [hf _ 0 (by unfold side; omega)]; exact b4
    · rw [hf 81 t (by unfold side; omega)]; exact b5
    · rw [hf _ 1 (by unfold side; omega)]; exact b6
    · rw [hf 82 t (by unfold side; omega)]; exact b7
    · rw [hg (55 + 2 * t) (by omega), hg 83 (by omega)]; exact b8 i hi
  · rw [hf 31 0 (by unfold side; omega)]; exact hl.1
  · rw [hf 33 0 (by unfold side; omega)]; exact hl.2.1
  · rw [hf 35 0 (by unfold side; omega)]; exact hl.2.2
/-- what the class's reckoning leaves as it is -/
def CQ (f f' : Nat → Nat → Int32) : Prop := (∀ a, ¬ (25 ≤ a ∧ a ≤ 50) → f' a = f a) ∧ f' 31 0 = f 31 0 ∧ f' 33 0 = f 33 0 ∧ f' 35 0 = f 35 0
def CG (g g' : Nat → Nat → Int64) : Prop := ∀ a, ¬ (25 ≤ a ∧ a ≤ 50) → g' a = g a
/-- what the reference's reckoning leaves as it is -/
def KQ (f f' : Nat → Nat → Int32) : Prop := (∀ a, a < 66 ∨ (66 < a ∧ a < 70) ∨ a = 81 ∨ a = 82 → f' a = f a) ∧ f' 66 2 = f 66 2 ∧ f' 66 4 = f 66 4
def KG (g g' : Nat → Nat → Int64) : Prop := ∀ a, a < 66 ∨ a = 83 → g' a = g a
theorem CQ.rf {f : Nat → Nat → Int32} : CQ f f := ⟨fun _ _ => rfl, rfl, rfl, rfl⟩
theorem CG.rf {g : Nat → Nat → Int64} : CG g g := fun _ _ => rfl
theorem KQ.rf {f : Nat → Nat → Int32} : KQ f f := ⟨fun _ _ => rfl, rfl, rfl⟩
theorem KG.rf {g : Nat → Nat → Int64} : KG g g := fun _ _ => rfl
theorem CQ.tr {f f1 f2 : Nat → Nat → Int32} (h : CQ f f1) (k : CQ f1 f2) : CQ f f2 := ⟨fun a ha => (k.1 a ha).trans (h.1 a ha), k.2.1.trans h.2.1, k.2.2.1.trans h.2.2.1, k.2.2.2.trans h.2.2.2⟩
theorem CG.tr {g g1 g2 : Nat → Nat → Int64} (h : CG g g1) (k : CG g1 g2) : CG g g2 := fun a ha => (k a ha).trans (h a ha)
theorem KQ.tr {f f1 f2 : Nat → Nat → Int32} (h : KQ f f1) (k : KQ f1 f2) : KQ f f2 := ⟨fun a ha => (k.1 a ha).trans (h.1 a ha), k.2.1.trans h.2.1, k.2.2.trans h.2.2⟩
theorem KG.tr {g g1 g2 : Nat → Nat → Int64} (h : KG g g1) (k : KG g1 g2) : KG g g2 := fun a ha => (k a ha).trans (h a ha)
theorem CQ.of {f f' : Nat → Nat → Int32} {A : List Nat} (h : FR A f f') (hA : ∀ x ∈ A, 37 ≤ x ∧ x ≤ 50) : CQ f f' := by
  have key : ∀ a, ¬ (37 ≤ a ∧ a ≤ 50) → f' a = f a := fun a ha => h a (fun z => ha (hA a z))
  exact ⟨fun a ha => key a (by omega), by rw [key 31 (by omega)], by rw [key 33 (by omega)], by rw [key 35 (by omega)]⟩
theorem CG.of {g g' : Nat → Nat → Int64} {A : List Nat} (h : FR A g g') (hA : ∀ x ∈ A, 37 ≤ x ∧ x ≤ 50) : CG g g' := fun a ha => h a (fun z => ha (by have := hA a z; omega))
theorem CQ.hc {ν : Nat → Nat} {sd bl : Int32} {f f' : Nat → Nat → Int32} (h : CQ f f') {b : Nat} (H : HC ν sd bl f b) (hb : b = 1 ∨ b = 13) : HC ν sd bl f' b := H.fr (fun a _ _ => h.1 a (by omega))
theorem CQ.hm {ν : Nat → Nat} {sd bl : Int32} {f f' : Nat → Nat → Int32} (h : CQ f f') {a : Nat} (H : HM ν sd bl f a) (ha : 51 ≤ a) : HM ν sd bl f' a := H.fr (h.1 a (by omega))
theorem KQ.hc {ν : Nat → Nat} {sd bl : Int32} {f f' : Nat → Nat → Int32} (h : KQ f f') {b : Nat} (H : HC ν sd bl f b) (hb : b ≤ 25) : HC ν sd bl f' b := H.fr (fun a _ _ => h.1 a (by omega))
theorem KQ.hm {ν : Nat → Nat} {sd bl : Int32} {f f' : Nat → Nat → Int32} (h : KQ f f') {a : Nat} (H : HM ν sd bl f a) (ha : a = 67 ∨ a = 68) : HM ν sd bl f' a := H.fr (h.1 a (by omega))
theorem REST.cq {f f' : Nat → Nat → Int32} {g g' : Nat → Nat → Int64} (h : REST f g) (hf : CQ f f') (hg : CG g g') : REST f' g' := by
  obtain ⟨h1, h2, h3, h4⟩ := hf
  refine h.fr (fun a k hs => ?_) (fun a ha => hg a (by omega))
  by_cases e1 : a = 31 ∧ k = 0
  · obtain ⟨rfl, rfl⟩ := e1; exact h2
  by_cases e2 : a = 33 ∧ k = 0
  · obtain ⟨rfl, rfl⟩ := e2; exact h3
  by_cases e3 : a = 35 ∧ k = 0
  · obtain ⟨rfl, rfl⟩ := e3; exact h4
  rw [h1 a (by unfold side at hs; omega)]
theorem REST.mq {f f' : Nat → Nat → Int32} {g g' : Nat → Nat → Int64} (h : REST f g) (hf : KQ f f') (hg : KG g g') : REST f' g' := by
  obtain ⟨h1, h2, h3⟩ := hf
  refine h.fr (fun a k hs => ?_) (fun a ha => hg a (by omega))
  by_cases e1 : a = 66 ∧ k = 2
  · obtain ⟨rfl, rfl⟩ := e1; exact h2
  by_cases e2 : a = 66 ∧ k = 4
  · obtain ⟨rfl, rfl⟩ := e2; exact h3
  rw [h1 a (by unfold side at hs; omega)]
/-- what is asked changes nothing -/
theorem INV.cm {f f1 f2 : Nat → Nat → Int32} {g g1 g2 : Nat → Nat → Int64} (h : INV f g) (hf : CQ f f1) (hg : CG g g1) (kf : KQ f1 f2) (kg : KG g1 g2) : INV f2 g2 := by
  obtain ⟨⟨ν, sd, bl, a1, a2, a3⟩, h2⟩ := h
  exact ⟨⟨ν, sd, bl, a1, kf.hc (hf.hc a2 (by omega)) (by omega), kf.hm (hf.hm a3 (by omega)) (by omega)⟩, (h2.cq hf hg).mq kf kg⟩
/-- a store's own numbers change on both sides -/
theorem INV.up {f f' : Nat → Nat → Int32} {g : Nat → Nat → Int64} (R : REST f g) {ν : Nat → Nat} {sd bl : Int32} (w : WF ν) (h1 : HC ν sd bl f' 1) (h2 : HM ν sd bl f' 67) (hf : ∀ a, ¬ (1 ≤ a ∧ a ≤ 12) → a ≠ 67 → f' a = f a) : INV f' g :=
  ⟨⟨ν, sd, bl, w, h1, h2⟩, R.fr (fun a k hs => by rw [hf a (by unfold side at hs; omega) (by unfold side at hs; omega)]) (fun _ _ => rfl)⟩
