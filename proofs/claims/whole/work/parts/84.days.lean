/-! a day truly: what it changes -/
/-- the record keeps a day -/
def recN (ν : Nat → Nat) (s a e : Nat) : Nat → Nat := if ν 72 < 8 then upN (upN (upN (upN ν (73 + ν 72 * 3) s) (73 + (ν 72 * 3 + 1)) a) (73 + (ν 72 * 3 + 2)) e) 72 (ν 72 + 1)
  else fun k => if k < 73 ∨ 97 ≤ k then ν k else if k < 94 then ν (k + 3) else if k = 94 then s else if k = 95 then a else e
theorem rec_lo {ν : Nat → Nat} {s a e k : Nat} (hk : k < 72) : recN ν s a e k = ν k := by
  unfold recN
  split
  · rw [upN_n (by omega), upN_n (by omega), upN_n (by omega), upN_n (by omega)]
  · show (if k < 73 ∨ 97 ≤ k then ν k else _) = _
    rw [if_pos (by omega)]
theorem rec_72 {ν : Nat → Nat} {s a e : Nat} (h : ν 72 < 8) : recN ν s a e 72 = ν 72 + 1 := by
  unfold recN
  rw [if_pos h, upN_h]
theorem rec_78 {ν : Nat → Nat} {s a e : Nat} (h : ν 72 = 8) : recN ν s a e 72 = 8 := by
  unfold recN
  rw [if_neg (by omega)]
  exact h
theorem rec_i {ν : Nat → Nat} {s a e j : Nat} (h : ν 72 < 8) : recN ν s a e (73 + j) = if j = ν 72 * 3 then s else if j = ν 72 * 3 + 1 then a else if j = ν 72 * 3 + 2 then e else ν (73 + j) := by
  unfold recN
  rw [if_pos h, upN_n (by omega)]
  unfold upN
  (repeat' split) <;> first | rfl | (exfalso; omega)
theorem rec_f {ν : Nat → Nat} {s a e j : Nat} (h : ν 72 = 8) (hj : j < 24) : recN ν s a e (73 + j) = if j < 21 then ν (73 + j + 3) else if j = 21 then s else if j = 22 then a else e := by
  unfold recN
  rw [if_neg (by omega)]
  show (if 73 + j < 73 ∨ 97 ≤ 73 + j then _ else if 73 + j < 94 then _ else if 73 + j = 94 then _ else if 73 + j = 95 then _ else _) = _
  rw [if_neg (by omega)]
  (repeat' split) <;> first | rfl | (exfalso; omega)
theorem va_c {ν ν' : Nat → Nat} {sd bl : Int32} {k : Nat} (h : ν' k = ν k) : va ν' sd bl k = va ν sd bl k := by unfold va; rw [h]
theorem HC.rec {ν ν' : Nat → Nat} {sd bl : Int32} {f f' : Nat → Nat → Int32} (H : HC ν sd bl f 25) (hf : ∀ a, a ≠ 35 → a ≠ 36 → f' a = f a) (h0 : f' 35 0 = f 35 0) (h2 : f' 35 2 = nI (ν' 72)) (hi : ∀ j, j < 24 → f' 36 j = nI (ν' (73 + j))) (hn : ∀ k, k < 72 → ν' k = ν k) : HC ν' sd bl f' 25 := by
  obtain ⟨a0, a1, a2, a3, a4, a5, a6, ac, aq, ar, ai, ak, as, ap, al, asi, api, ali, aL⟩ := H.op
  simp only [Nat.reduceAdd] at ac aq ar ai ak as ap al asi api ali aL
  refine HC.mk ?_ ?_ ?_ ?_ ?_ ?_ ?_ (fun j hj => ?_) (fun j hj => ?_) (fun j hj => ?_) (fun j hj => ?_) (fun i j hi hj e => ?_) ?_ ?_ ?_ (fun k j hk hj => ?_) (fun k j hk hj => ?_) (fun j hj => ?_) ⟨?_, ?_, ?_⟩
  · rw [hf 25 (by omega) (by omega), hn _ (by omega)]; exact a0
  · rw [hf 25 (by omega) (by omega), hn _ (by omega)]; exact a1
  · rw [hf 25 (by omega) (by omega), hn _ (by omega)]; exact a2
  · rw [hf 25 (by omega) (by omega), hn _ (by omega)]; exact a3
  · rw [hf 25 (by omega) (by omega)]; exact a4
  · rw [hf 25 (by omega) (by omega)]; exact a5
  · rw [hf 25 (by omega) (by omega), hn _ (by omega)]; exact a6
  · show f' 26 j = _
    rw [hf 26 (by omega) (by omega), hn _ (by omega)]; exact ac j hj
  · show f' 27 j = _
    rw [hf 27 (by omega) (by omega), hn _ (by omega)]; exact aq j hj
  · show f' 28 j = _
    rw [hf 28 (by omega) (by omega), hn _ (by omega)]; exact ar j hj
  · show f' 30 j = _
    rw [hf 30 (by omega) (by omega), hn _ (by omega)]; exact ai j hj
  · show f' 29 (i * 4 + j) = _
    rw [hn _ (by omega)] at e
    rw [hf 29 (by omega) (by omega), hn _ (by omega)]; exact ak i j hi hj e
  · show f' 31 2 = _
    rw [hf 31 (by omega) (by omega), hn _ (by omega)]; exact as
  · show f' 33 2 = _
    rw [hf 33 (by omega) (by omega), hn _ (by omega)]; exact ap
  · exact h2
  · show f' 32 (k * 3 + j) = _
    rw [hf 32 (by omega) (by omega), hn _ (by omega)]; exact asi k j hk hj
  · show f' 34 (k * 3 + j) = _
    rw [hf 34 (by omega) (by omega), hn _ (by omega)]; exact api k j hk hj
  · exact hi j hj
  · show f' 31 0 = _
    rw [hf 31 (by omega) (by omega)]; exact aL.1
  · show f' 33 0 = _
    rw [hf 33 (by omega) (by omega)]; exact aL.2.1
  · show f' 35 0 = _
    rw [h0]; exact aL.2.2
theorem HM.rec {ν ν' : Nat → Nat} {sd bl : Int32} {f f' : Nat → Nat → Int32} (M : HM ν sd bl f 67) (h2 : f' 67 72 = nI (ν' 72)) (hi : ∀ j, j < 24 → f' 67 (73 + j) = nI (ν' (73 + j))) (hf : ∀ k, k < 72 → f' 67 k = f 67 k) (hn : ∀ k, k < 72 → ν' k = ν k) : HM ν' sd bl f' 67 := fun k hk => by
  rcases Nat.lt_or_ge k 72 with h | h
  · rw [hf k h, M k hk, va_c (hn k h)]
  · rw [va_n (by omega) (by omega)]
    by_cases e : k = 72
    · subst e; exact h2
    · have := hi (k - 73) (by omega)
      rw [show 73 + (k - 73) = k by omega] at this
      exact this
/-- the demand, a day, by the numbers -/
def dN (ν : Nat → Nat) (sd : Int32) : Nat := dmd (qN ν) (dU (drS sd) % S4 (qN ν))
def oN (ν : Nat → Nat) : Nat := rlN ν 12 (ν 2)
def tnD (ν : Nat → Nat) (sd : Int32) : Nat := thn (ν 0) (ν 2 + oN ν) (dN ν sd)
def spD (ν : Nat → Nat) (sd : Int32) : Nat := spn (ν 0) (cN ν) (ν 2) (oN ν) (dN ν sd)
def dyN (ν : Nat → Nat) (sd : Int32) : Nat → Nat := recN (upN ν 2 (tnD ν sd)) (ν 2) (oN ν) (dN ν sd)
theorem WF.n2 {ν : Nat → Nat} (w : WF ν) : ν 2 ≤ ν 1 := by obtain ⟨-, -, -, h, -⟩ := w; exact h
theorem WF.oN {ν : Nat → Nat} (w : WF ν) : ν 2 + oN ν ≤ ν 1 := w.ru.1 (ν 2) w.n2
theorem dN_le {ν : Nat → Nat} {sd : Int32} : dN ν sd ≤ 3 := dmd_le
theorem WF.tn {ν : Nat → Nat} (w : WF ν) (sd : Int32) : tnD ν sd ≤ ν 1 := Nat.le_trans thn_le w.oN
theorem WF.sp {ν : Nat → Nat} (w : WF ν) (sd : Int32) : spD ν sd ≤ 300 := spn_le w.c (by have := w.oN; have := w.2.2.1; omega) dN_le
theorem WF.rec {ν : Nat → Nat} (w : WF ν) {s a e : Nat} (hs : s ≤ 3) (ha : a ≤ 3) (he : e ≤ 3) : WF (recN ν s a e) := by
  obtain ⟨-, -, -, -, -, -, -, -, -, -, -, -, -, ws, ws2, wp, wp2, w71, wl, wl2⟩ := id w
  refine w.hi (fun i hi => rec_lo (by omega)) ?_ (fun k hk => ?_) ?_ (fun k hk => ?_) ?_ ?_ (fun k hk => ?_)
  · rw [rec_lo (by omega)]; exact ws
  · rw [rec_lo (by omega)] at hk
    rw [rec_lo (by omega), rec_lo (by omega)]; exact ws2 k hk
  · rw [rec_lo (by omega)]; exact wp
  · rw [rec_lo (by omega)] at hk
    rw [rec_lo (by omega), rec_lo (by omega)]; exact wp2 k hk
  · rw [rec_lo (by omega)]; exact w71
  · rcases Nat.lt_or_ge (ν 72) 8 with h | h
    · rw [rec_72 h]; omega
    · rw [rec_78 (by omega)]; omega
  · rcases Nat.lt_or_ge (ν 72) 8 with h | h
    · rw [rec_72 h] at hk
      have e0 := rec_i (s := s) (a := a) (e := e) (j := 3 * k) h
      have e1 := rec_i (s := s) (a := a) (e := e) (j := 3 * k + 1) h
      have e2 := rec_i (s := s) (a := a) (e := e) (j := 3 * k + 2) h
      rw [show 73 + (3 * k + 1) = 74 + 3 * k by omega] at e1
      rw [show 73 + (3 * k + 2) = 75 + 3 * k by omega] at e2
      rw [e0, e1, e2]
      by_cases hk2 : k = ν 72
      · subst hk2
        rw [if_pos (by omega), if_neg (by omega), if_pos (by omega), if_neg (by omega), if_neg (by omega), if_pos (by omega)]
        exact ⟨hs, ha, he⟩
      · rw [if_neg (by omega), if_neg (by omega), if_neg (by omega), if_neg (by omega), if_neg (by omega), if_neg (by omega), if_neg (by omega), if_neg (by omega), if_neg (by omega)]
        exact wl2 k (by omega)
    · have h8 : ν 72 = 8 := by omega
      rw [rec_78 h8] at hk
      have e0 := rec_f (s := s) (a := a) (e := e) (j := 3 * k) h8 (by omega)
      have e1 := rec_f (s := s) (a := a) (e := e) (j := 3 * k + 1) h8 (by omega)
      have e2 := rec_f (s := s) (a := a) (e := e) (j := 3 * k + 2) h8 (by omega)
      rw [show 73 + (3 * k + 1) = 74 + 3 * k by omega] at e1
      rw [show 73 + (3 * k + 2) = 75 + 3 * k by omega] at e2
      rw [e0, e1, e2]
      by_cases hk2 : k = 7
      · subst hk2
        rw [if_neg (by omega), if_pos (by omega), if_neg (by omega), if_neg (by omega), if_pos (by omega), if_neg (by omega), if_neg (by omega), if_neg (by omega)]
        exact ⟨hs, ha, he⟩
      · rw [if_pos (by omega), if_pos (by omega), if_pos (by omega)]
        have h9 := wl2 (k + 1) (by omega)
        rw [show 73 + 3 * (k + 1) = 73 + 3 * k + 3 by omega, show 74 + 3 * (k + 1) = 74 + 3 * k + 3 by omega, show 75 + 3 * (k + 1) = 75 + 3 * k + 3 by omega] at h9
        exact h9
theorem WF.dy {ν : Nat → Nat} (w : WF ν) (sd : Int32) : WF (dyN ν sd) := by
  have h1 := w.tn sd
  have h2 := w.oN
  have h3 := w.2.2.1
  exact WF.rec (w.lo (k := 2) (by omega) (by omega) (by omega) (by omega) (by omega) (by omega)) (by omega) (by omega) dN_le
theorem WF.gone {ν : Nat → Nat} (w : WF ν) {v : Nat} (hv : v ≤ 9999) : WF (upN ν 71 v) := by
  obtain ⟨-, -, -, -, -, -, -, -, -, -, -, -, -, ws, ws2, wp, wp2, w71, wl, wl2⟩ := id w
  refine w.hi (fun i hi => upN_n (by omega)) ?_ (fun k hk => ?_) ?_ (fun k hk => ?_) ?_ ?_ (fun k hk => ?_)
  · rw [upN_n (by omega)]; exact ws
  · rw [upN_n (by omega)] at hk
    rw [upN_n (by omega), upN_n (by omega)]; exact ws2 k hk
  · rw [upN_n (by omega)]; exact wp
  · rw [upN_n (by omega)] at hk
    rw [upN_n (by omega), upN_n (by omega)]; exact wp2 k hk
  · rw [upN_h]; exact hv
  · rw [upN_n (by omega)]; exact wl
  · rw [upN_n (by omega)] at hk
    rw [upN_n (by omega), upN_n (by omega), upN_n (by omega)]; exact wl2 k hk
