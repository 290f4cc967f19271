/-! the text: what it says, by its numbers -/
def okB (n : Nat) (x mo : Nat → Nat) (p j : Nat) : Bool := decide (p + j < n ∧ 48 ≤ x (p + j) ∧ x (p + j) ≤ 48 + mo j)
theorem okB_t {n : Nat} {x mo : Nat → Nat} {p j : Nat} (h : okB n x mo p j = true) : p + j < n ∧ 48 ≤ x (p + j) ∧ x (p + j) ≤ 48 + mo j := of_decide_eq_true h
theorem okB_f {n : Nat} {x mo : Nat → Nat} {p j : Nat} (h : okB n x mo p j = false) : ¬ (p + j < n ∧ 48 ≤ x (p + j) ∧ x (p + j) ≤ 48 + mo j) := of_decide_eq_false h
/-- how many of so many come, one behind another -/
def rdM (ok : Nat → Bool) : Nat → Nat
  | 0 => 0
  | j + 1 => if rdM ok j = j then (if ok j = true then j + 1 else j) else rdM ok j
theorem rdM_le {ok : Nat → Bool} : ∀ j, rdM ok j ≤ j
  | 0 => Nat.le_refl 0
  | j + 1 => by
    have := rdM_le (ok := ok) j
    unfold rdM
    split
    · split <;> omega
    · omega
theorem rdM_go {ok : Nat → Bool} {j : Nat} (h : rdM ok j = j) (ho : ok j = true) : rdM ok (j + 1) = j + 1 := by
  rw [rdM, if_pos h, if_pos ho]
theorem rdM_no {ok : Nat → Bool} {j : Nat} (h : rdM ok j = j) (ho : ok j = false) : rdM ok (j + 1) = j := by
  rw [rdM, if_pos h, ho]; rfl
theorem rdM_ba {ok : Nat → Bool} {j : Nat} (h : rdM ok j ≠ j) : rdM ok (j + 1) = rdM ok j := by
  rw [rdM, if_neg h]
theorem rdM_st {ok : Nat → Bool} {j : Nat} (h : rdM ok j = j) (ho : ok j = false) : ∀ k, rdM ok (j + 1 + k) = j
  | 0 => rdM_no h ho
  | k + 1 => by
    have h2 := rdM_st h ho k
    have h3 := rdM_ba (ok := ok) (j := j + 1 + k) (by omega)
    rw [show j + 1 + (k + 1) = j + 1 + k + 1 by omega, h3, h2]
theorem rdM_ok {ok : Nat → Bool} : ∀ j, rdM ok j = j → ∀ i, i < j → ok i = true
  | 0, _, i, hi => absurd hi (Nat.not_lt_zero i)
  | j + 1, h, i, hi => by
    have h2 := rdM_le (ok := ok) j
    by_cases h1 : rdM ok j = j
    · cases ho : ok j
      · have := rdM_no h1 ho; omega
      · by_cases e : i = j
        · subst e; exact ho
        · exact rdM_ok j h1 i (by omega)
    · have := rdM_ba (ok := ok) h1; omega
theorem rdM_pl {n : Nat} {x mo : Nat → Nat} {p : Nat} (hp : p ≤ n) : ∀ j, p + rdM (okB n x mo p) j ≤ n
  | 0 => hp
  | j + 1 => by
    have h := rdM_pl (x := x) (mo := mo) hp j
    by_cases h1 : rdM (okB n x mo p) j = j
    · cases ho : okB n x mo p j
      · rw [rdM_no h1 ho]; omega
      · have := (okB_t ho).1
        rw [rdM_go h1 ho]; omega
    · rw [rdM_ba h1]; exact h
def digN (x : Nat → Nat) (p j : Nat) : Nat := x (p + j) - 48
def smD (x : Nat → Nat) (p : Nat) : Nat := digN x p 0 + digN x p 1 + digN x p 2 + digN x p 3
def setN (ν : Nat → Nat) (o N : Nat) (dg : Nat → Nat) : Nat → Nat := fun k => if o ≤ k ∧ k < o + N then dg (k - o) else ν k
theorem setN_n {ν dg : Nat → Nat} {o N k : Nat} (h : k < o ∨ o + N ≤ k) : setN ν o N dg k = ν k := if_neg (by omega)
theorem setN_s {ν dg : Nat → Nat} {o N j : Nat} (h : j < N) : setN ν o N dg (o + j) = dg j := by
  show (if o ≤ o + j ∧ o + j < o + N then dg (o + j - o) else ν (o + j)) = dg j
  rw [if_pos (by omega), show o + j - o = j by omega]
/-- weights: whether they come, and how far -/
def wgR (n : Nat) (x : Nat → Nat) (p : Nat) : Bool × Nat := if rdM (okB n x (fun _ => 5) p) 4 = 4 then (if 1 ≤ smD x p ∧ smD x p ≤ 6 then (true, p + 4) else (false, p + 3)) else (false, p + rdM (okB n x (fun _ => 5) p) 4)
/-- a clause: whether it comes, how far, what is told -/
def clR (n : Nat) (x ν : Nat → Nat) (p : Nat) : Bool × Nat × (Nat → Nat) :=
  if p < n then
    if x p = 119 then ((wgR n x (p + 1)).1, (wgR n x (p + 1)).2, setN ν 8 4 (digN x (p + 1)))
    else if x p = 99 then (decide (rdM (okB n x (fun _ => 9) (p + 1)) 4 = 4), p + 1 + rdM (okB n x (fun _ => 9) (p + 1)) 4, setN ν 3 4 (digN x (p + 1)))
    else if x p = 103 then (decide (rdM (okB n x (fun _ => 9) (p + 1)) 1 = 1), p + 1 + rdM (okB n x (fun _ => 9) (p + 1)) 1, setN ν 7 1 (digN x (p + 1)))
    else if x p = 114 then (decide (rdM (okB n x (fun j => ν 1 - j) (p + 1)) (ν 1 + 1) = ν 1 + 1), p + 1 + rdM (okB n x (fun j => ν 1 - j) (p + 1)) (ν 1 + 1), setN ν 12 (ν 1 + 1) (digN x (p + 1)))
    else (false, p, ν)
  else (false, p, ν)
theorem cl_w {n : Nat} {x ν : Nat → Nat} {p : Nat} (h : p < n) (e : x p = 119) : clR n x ν p = ((wgR n x (p + 1)).1, (wgR n x (p + 1)).2, setN ν 8 4 (digN x (p + 1))) := by
  unfold clR; rw [if_pos h, if_pos e]
theorem cl_c {n : Nat} {x ν : Nat → Nat} {p : Nat} (h : p < n) (e : x p = 99) : clR n x ν p = (decide (rdM (okB n x (fun _ => 9) (p + 1)) 4 = 4), p + 1 + rdM (okB n x (fun _ => 9) (p + 1)) 4, setN ν 3 4 (digN x (p + 1))) := by
  unfold clR; rw [if_pos h, if_neg (by omega), if_pos e]
theorem cl_g {n : Nat} {x ν : Nat → Nat} {p : Nat} (h : p < n) (e : x p = 103) : clR n x ν p = (decide (rdM (okB n x (fun _ => 9) (p + 1)) 1 = 1), p + 1 + rdM (okB n x (fun _ => 9) (p + 1)) 1, setN ν 7 1 (digN x (p + 1))) := by
  unfold clR; rw [if_pos h, if_neg (by omega), if_neg (by omega), if_pos e]
theorem cl_r {n : Nat} {x ν : Nat → Nat} {p : Nat} (h : p < n) (e : x p = 114) : clR n x ν p = (decide (rdM (okB n x (fun j => ν 1 - j) (p + 1)) (ν 1 + 1) = ν 1 + 1), p + 1 + rdM (okB n x (fun j => ν 1 - j) (p + 1)) (ν 1 + 1), setN ν 12 (ν 1 + 1) (digN x (p + 1))) := by
  unfold clR; rw [if_pos h, if_neg (by omega), if_neg (by omega), if_neg (by omega), if_pos e]
theorem cl_o {n : Nat} {x ν : Nat → Nat} {p : Nat} (h : ¬ p < n ∨ (x p ≠ 119 ∧ x p ≠ 99 ∧ x p ≠ 103 ∧ x p ≠ 114)) : clR n x ν p = (false, p, ν) := by
  unfold clR
  by_cases h1 : p < n
  · rw [if_pos h1, if_neg (by omega), if_neg (by omega), if_neg (by omega), if_neg (by omega)]
  · rw [if_neg h1]
theorem cl_ex {n : Nat} {x : Nat → Nat} {p : Nat} : (p < n ∧ x p = 119) ∨ (p < n ∧ x p = 99) ∨ (p < n ∧ x p = 103) ∨ (p < n ∧ x p = 114) ∨ (¬ p < n ∨ (x p ≠ 119 ∧ x p ≠ 99 ∧ x p ≠ 103 ∧ x p ≠ 114)) := by omega
theorem wg_le {n : Nat} {x : Nat → Nat} {p : Nat} (hp : p ≤ n) : (wgR n x p).2 ≤ n := by
  have h := rdM_pl (x := x) (mo := fun _ => 5) hp 4
  unfold wgR
  split
  · split
    · show p + 4 ≤ n; omega
    · show p + 3 ≤ n; omega
  · exact h
theorem cl_le {n : Nat} {x ν : Nat → Nat} {p : Nat} (hp : p ≤ n) : (clR n x ν p).2.1 ≤ n := by
  rcases cl_ex (n := n) (x := x) (p := p) with ⟨h, e⟩ | ⟨h, e⟩ | ⟨h, e⟩ | ⟨h, e⟩ | h
  · rw [cl_w h e]; exact wg_le (by omega)
  · rw [cl_c h e]; exact rdM_pl (by omega) _
  · rw [cl_g h e]; exact rdM_pl (by omega) _
  · rw [cl_r h e]; exact rdM_pl (by omega) _
  · rw [cl_o h]; exact hp
theorem WF.sw {ν dg : Nat → Nat} (w : WF ν) (h5 : ∀ j, j < 4 → dg j ≤ 5) (h1 : 1 ≤ dg 0 + dg 1 + dg 2 + dg 3) (h6 : dg 0 + dg 1 + dg 2 + dg 3 ≤ 6) : WF (setN ν 8 4 dg) := by
  obtain ⟨w0, w1, w1', w2, w3, w6, w7, w8, w8a, w8b, wr, wi, wk, ws, ws2, wp, wp2, w71, wl, wl2⟩ := w
  have e : ∀ i, i < 8 ∨ 8 + (4) ≤ i → setN ν 8 (4) dg i = ν i := fun i hi => setN_n hi
  have v : ∀ j, j < 4 → setN ν 8 (4) dg (8 + j) = dg j := fun j hj => setN_s hj
  have er : ∀ k, 8 + (4) ≤ k → rlN (setN ν 8 (4) dg) k = rlN ν k := fun k hk => by
    funext s; unfold rlN; split
    · rw [e _ (by omega)]
    · rfl
  refine ⟨?_, ?_, ?_, ?_, fun j hj => ?_, ?_, ?_, fun j hj => ?_, ?_, ?_, ?_, fun i hi => ?_, fun i hi hi2 => ?_, ?_, fun j hj => ?_, ?_, fun j hj => ?_, ?_, ?_, fun j hj => ?_⟩
  · rw [e _ (by omega)]; exact w0
  · rw [e _ (by omega)]; exact w1
  · rw [e _ (by omega)]; exact w1'
  · rw [e _ (by omega), e 1 (by omega)]; exact w2
  · rw [e _ (by omega)]; exact w3 j hj
  · rw [e _ (by omega)]; exact w6
  · rw [e _ (by omega)]; exact w7
  · rw [v j (by omega)]; exact h5 j hj
  · have a0 := v 0 (by omega)
    have a1 := v 1 (by omega)
    have a2 := v 2 (by omega)
    have a3 := v 3 (by omega)
    simp only [Nat.reduceAdd] at a0 a1 a2 a3
    rw [a0, a1, a2, a3]; exact h1
  · have a0 := v 0 (by omega)
    have a1 := v 1 (by omega)
    have a2 := v 2 (by omega)
    have a3 := v 3 (by omega)
    simp only [Nat.reduceAdd] at a0 a1 a2 a3
    rw [a0, a1, a2, a3]; exact h6
  · rw [e 1 (by omega), er _ (by omega)]; exact wr
  · rw [e _ (by omega)]; exact wi i hi
  · rw [e _ (by omega)] at hi2
    rw [e 1 (by omega), er _ (by omega)]; exact wk i hi hi2
  · rw [e _ (by omega)]; exact ws
  · rw [e 41 (by omega)] at hj
    rw [e _ (by omega), e _ (by omega), e 1 (by omega)]; exact ws2 j hj
  · rw [e _ (by omega)]; exact wp
  · rw [e 52 (by omega)] at hj
    rw [e _ (by omega), e _ (by omega)]; exact wp2 j hj
  · rw [e _ (by omega)]; exact w71
  · rw [e _ (by omega)]; exact wl
  · rw [e 72 (by omega)] at hj
    rw [e _ (by omega), e _ (by omega), e _ (by omega)]; exact wl2 j hj
theorem WF.sc {ν dg : Nat → Nat} (w : WF ν) (h9 : ∀ j, j < 4 → dg j ≤ 9) : WF (setN ν 3 4 dg) := by
  obtain ⟨w0, w1, w1', w2, w3, w6, w7, w8, w8a, w8b, wr, wi, wk, ws, ws2, wp, wp2, w71, wl, wl2⟩ := w
  have e : ∀ i, i < 3 ∨ 3 + (4) ≤ i → setN ν 3 (4) dg i = ν i := fun i hi => setN_n hi
  have v : ∀ j, j < 4 → setN ν 3 (4) dg (3 + j) = dg j := fun j hj => setN_s hj
  have er : ∀ k, 3 + (4) ≤ k → rlN (setN ν 3 (4) dg) k = rlN ν k := fun k hk => by
    funext s; unfold rlN; split
    · rw [e _ (by omega)]
    · rfl
  refine ⟨?_, ?_, ?_, ?_, fun j hj => ?_, ?_, ?_, fun j hj => ?_, ?_, ?_, ?_, fun i hi => ?_, fun i hi hi2 => ?_, ?_, fun j hj => ?_, ?_, fun j hj => ?_, ?_, ?_, fun j hj => ?_⟩
  · rw [e _ (by omega)]; exact w0
  · rw [e _ (by omega)]; exact w1
  · rw [e _ (by omega)]; exact w1'
  · rw [e _ (by omega), e 1 (by omega)]; exact w2
  · rw [v j (by omega)]; exact h9 j (by omega)
  · have a3 := v 3 (by omega)
    have := h9 3 (by omega)
    simp only [Nat.reduceAdd] at a3
    rw [a3]; omega
  · rw [e _ (by omega)]; exact w7
  · rw [e _ (by omega)]; exact w8 j hj
  · rw [e _ (by omega), e _ (by omega), e _ (by omega), e _ (by omega)]; exact w8a
  · rw [e _ (by omega), e _ (by omega), e _ (by omega), e _ (by omega)]; exact w8b
  · rw [e 1 (by omega), er _ (by omega)]; exact wr
  · rw [e _ (by omega)]; exact wi i hi
  · rw [e _ (by omega)] at hi2
    rw [e 1 (by omega), er _ (by omega)]; exact wk i hi hi2
  · rw [e _ (by omega)]; exact ws
  · rw [e 41 (by omega)] at hj
    rw [e _ (by omega), e _ (by omega), e 1 (by omega)]; exact ws2 j hj
  · rw [e _ (by omega)]; exact wp
  · rw [e 52 (by omega)] at hj
    rw [e _ (by omega), e _ (by omega)]; exact wp2 j hj
  · rw [e _ (by omega)]; exact w71
  · rw [e _ (by omega)]; exact wl
  · rw [e 72 (by omega)] at hj
    rw [e _ (by omega), e _ (by omega), e _ (by omega)]; exact wl2 j hj
theorem WF.sg {ν dg : Nat → Nat} (w : WF ν) (h9 : dg 0 ≤ 9) : WF (setN ν 7 1 dg) := by
  obtain ⟨w0, w1, w1', w2, w3, w6, w7, w8, w8a, w8b, wr, wi, wk, ws, ws2, wp, wp2, w71, wl, wl2⟩ := w
  have e : ∀ i, i < 7 ∨ 7 + (1) ≤ i → setN ν 7 (1) dg i = ν i := fun i hi => setN_n hi
  have v : ∀ j, j < 1 → setN ν 7 (1) dg (7 + j) = dg j := fun j hj => setN_s hj
  have er : ∀ k, 7 + (1) ≤ k → rlN (setN ν 7 (1) dg) k = rlN ν k := fun k hk => by
    funext s; unfold rlN; split
    · rw [e _ (by omega)]
    · rfl
  refine ⟨?_, ?_, ?_, ?_, fun j hj => ?_, ?_, ?_, fun j hj => ?_, ?_, ?_, ?_, fun i hi => ?_, fun i hi hi2 => ?_, ?_, fun j hj => ?_, ?_, fun j hj => ?_, ?_, ?_, fun j hj => ?_⟩
  · rw [e _ (by omega)]; exact w0
  · rw [e _ (by omega)]; exact w1
  · rw [e _ (by omega)]; exact w1'
  · rw [e _ (by omega), e 1 (by omega)]; exact w2
  · rw [e _ (by omega)]; exact w3 j hj
  · rw [e _ (by omega)]; exact w6
  · have a0 := v 0 (by omega)
    simp only [Nat.add_zero] at a0
    rw [a0]; exact h9
  · rw [e _ (by omega)]; exact w8 j hj
  · rw [e _ (by omega), e _ (by omega), e _ (by omega), e _ (by omega)]; exact w8a
  · rw [e _ (by omega), e _ (by omega), e _ (by omega), e _ (by omega)]; exact w8b
  · rw [e 1 (by omega), er _ (by omega)]; exact wr
  · rw [e _ (by omega)]; exact wi i hi
  · rw [e _ (by omega)] at hi2
    rw [e 1 (by omega), er _ (by omega)]; exact wk i hi hi2
  · rw [e _ (by omega)]; exact ws
  · rw [e 41 (by omega)] at hj
    rw [e _ (by omega), e _ (by omega), e 1 (by omega)]; exact ws2 j hj
  · rw [e _ (by omega)]; exact wp
  · rw [e 52 (by omega)] at hj
    rw [e _ (by omega), e _ (by omega)]; exact wp2 j hj
  · rw [e _ (by omega)]; exact w71
  · rw [e _ (by omega)]; exact wl
  · rw [e 72 (by omega)] at hj
    rw [e _ (by omega), e _ (by omega), e _ (by omega)]; exact wl2 j hj
theorem WF.sr {ν dg : Nat → Nat} (w : WF ν) (hr : ∀ j, j ≤ ν 1 → dg j ≤ ν 1 - j) : WF (setN ν 12 (ν 1 + 1) dg) := by
  have hw1' := w.2.2.1
  obtain ⟨w0, w1, w1', w2, w3, w6, w7, w8, w8a, w8b, wr, wi, wk, ws, ws2, wp, wp2, w71, wl, wl2⟩ := w
  have e : ∀ i, i < 12 ∨ 12 + (ν 1 + 1) ≤ i → setN ν 12 (ν 1 + 1) dg i = ν i := fun i hi => setN_n hi
  have v : ∀ j, j < ν 1 + 1 → setN ν 12 (ν 1 + 1) dg (12 + j) = dg j := fun j hj => setN_s hj
  have er : ∀ k, 12 + (ν 1 + 1) ≤ k → rlN (setN ν 12 (ν 1 + 1) dg) k = rlN ν k := fun k hk => by
    funext s; unfold rlN; split
    · rw [e _ (by omega)]
    · rfl
  refine ⟨?_, ?_, ?_, ?_, fun j hj => ?_, ?_, ?_, fun j hj => ?_, ?_, ?_, ?_, fun i hi => ?_, fun i hi hi2 => ?_, ?_, fun j hj => ?_, ?_, fun j hj => ?_, ?_, ?_, fun j hj => ?_⟩
  · rw [e _ (by omega)]; exact w0
  · rw [e _ (by omega)]; exact w1
  · rw [e _ (by omega)]; exact w1'
  · rw [e _ (by omega), e 1 (by omega)]; exact w2
  · rw [e _ (by omega)]; exact w3 j hj
  · rw [e _ (by omega)]; exact w6
  · rw [e _ (by omega)]; exact w7
  · rw [e _ (by omega)]; exact w8 j hj
  · rw [e _ (by omega), e _ (by omega), e _ (by omega), e _ (by omega)]; exact w8a
  · rw [e _ (by omega), e _ (by omega), e _ (by omega), e _ (by omega)]; exact w8b
  · rw [e 1 (by omega)]
    refine ⟨fun s hs => ?_, fun s hs => ?_⟩
    · have := hr s hs
      unfold rlN
      rw [if_pos (by omega), v s (by omega)]; omega
    · have := wr.2 s hs
      unfold rlN at this ⊢
      split
      · rename_i h5
        rw [if_pos h5] at this
        rw [e _ (by omega)]; exact this
      · rfl
  · rw [e _ (by omega)]; exact wi i hi
  · rw [e _ (by omega)] at hi2
    rw [e 1 (by omega), er _ (by omega)]; exact wk i hi hi2
  · rw [e _ (by omega)]; exact ws
  · rw [e 41 (by omega)] at hj
    rw [e _ (by omega), e _ (by omega), e 1 (by omega)]; exact ws2 j hj
  · rw [e _ (by omega)]; exact wp
  · rw [e 52 (by omega)] at hj
    rw [e _ (by omega), e _ (by omega)]; exact wp2 j hj
  · rw [e _ (by omega)]; exact w71
  · rw [e _ (by omega)]; exact wl
  · rw [e 72 (by omega)] at hj
    rw [e _ (by omega), e _ (by omega), e _ (by omega)]; exact wl2 j hj
theorem cl_wf {n : Nat} {x ν : Nat → Nat} {p : Nat} (w : WF ν) (h : (clR n x ν p).1 = true) : WF (clR n x ν p).2.2 := by
  rcases cl_ex (n := n) (x := x) (p := p) with ⟨h1, e⟩ | ⟨h1, e⟩ | ⟨h1, e⟩ | ⟨h1, e⟩ | h1
  · rw [cl_w h1 e] at h ⊢
    have h : (wgR n x (p + 1)).1 = true := h
    show WF (setN ν 8 4 (digN x (p + 1)))
    unfold wgR at h
    by_cases h4 : rdM (okB n x (fun _ => 5) (p + 1)) 4 = 4
    · rw [if_pos h4] at h
      by_cases hs : 1 ≤ smD x (p + 1) ∧ smD x (p + 1) ≤ 6
      · exact w.sw (fun j hj => by have := okB_t (rdM_ok 4 h4 j hj); unfold digN; omega) hs.1 hs.2
      · rw [if_neg hs] at h; cases h
    · rw [if_neg h4] at h; cases h
  · rw [cl_c h1 e] at h ⊢
    have h4 := of_decide_eq_true h
    exact w.sc (fun j hj => by have := okB_t (rdM_ok 4 h4 j hj); unfold digN; omega)
  · rw [cl_g h1 e] at h ⊢
    have h4 := of_decide_eq_true h
    exact w.sg (by have := okB_t (rdM_ok 1 h4 0 (by omega)); unfold digN; omega)
  · rw [cl_r h1 e] at h ⊢
    have h4 := of_decide_eq_true h
    exact w.sr (fun j hj => by have := okB_t (rdM_ok _ h4 j (by omega)); unfold digN; omega)
  · rw [cl_o h1] at h; cases h
/-- the whole text from a place on, so many clauses at most: how many, what is told; how far -/
def tlR (n : Nat) (x : Nat → Nat) : Nat → Nat → (Nat → Nat) → Nat → Option (Nat × (Nat → Nat)) × Nat
  | 0, _, _, p => (none, p)
  | k + 1, c, ν, p => if (clR n x ν p).1 = true then (if (clR n x ν p).2.1 = n then (some (c, (clR n x ν p).2.2), n) else if c = 6 ∨ x (clR n x ν p).2.1 ≠ 59 then (none, (clR n x ν p).2.1) else tlR n x k (c + 1) (clR n x ν p).2.2 ((clR n x ν p).2.1 + 1)) else (none, (clR n x ν p).2.1)
theorem HC.cs {ν ν' : Nat → Nat} {sd bl : Int32} {f f' : Nat → Nat → Int32} (H : HC ν sd bl f 25) (h7 : f' 25 3 = nI (ν' 7)) (hb : ∀ j, j ≠ 3 → f' 25 j = f 25 j) (hc : ∀ j, j < 4 → f' 26 j = nI (ν' (3 + j))) (hq : ∀ j, j < 4 → f' 27 j = nI (ν' (8 + j))) (hr : ∀ j, j < 4 → f' 28 j = nI (ν' (12 + j))) (ho : ∀ a, 29 ≤ a → a ≤ 36 → f' a = f a) (hn : ∀ k, k < 3 ∨ 16 ≤ k → ν' k = ν k) : HC ν' sd bl f' 25 := by
  obtain ⟨a0, a1, a2, a3, a4, a5, a6, ac, aq, ar, ai, ak, as, ap, al, asi, api, ali, aL⟩ := H.op
  simp only [Nat.reduceAdd] at ac aq ar ai ak as ap al asi api ali aL
  refine HC.mk ?_ ?_ ?_ h7 ?_ ?_ ?_ hc hq hr (fun j hj => ?_) (fun i j hi hj e => ?_) ?_ ?_ ?_ (fun k j hk hj => ?_) (fun k j hk hj => ?_) (fun j hj => ?_) ⟨?_, ?_, ?_⟩
  · rw [hb _ (by omega), hn _ (by omega)]; exact a0
  · rw [hb _ (by omega), hn _ (by omega)]; exact a1
  · rw [hb _ (by omega), hn _ (by omega)]; exact a2
  · rw [hb _ (by omega)]; exact a4
  · rw [hb _ (by omega)]; exact a5
  · rw [hb _ (by omega), hn _ (by omega)]; exact a6
  · show f' 30 j = _
    rw [ho 30 (by omega) (by omega), hn _ (by omega)]; exact ai j hj
  · show f' 29 (i * 4 + j) = _
    rw [hn _ (by omega)] at e
    rw [ho 29 (by omega) (by omega), hn _ (by omega)]; exact ak i j hi hj e
  · show f' 31 2 = _
    rw [ho 31 (by omega) (by omega), hn _ (by omega)]; exact as
  · show f' 33 2 = _
    rw [ho 33 (by omega) (by omega), hn _ (by omega)]; exact ap
  · show f' 35 2 = _
    rw [ho 35 (by omega) (by omega), hn _ (by omega)]; exact al
  · show f' 32 (k * 3 + j) = _
    rw [ho 32 (by omega) (by omega), hn _ (by omega)]; exact asi k j hk hj
  · show f' 34 (k * 3 + j) = _
    rw [ho 34 (by omega) (by omega), hn _ (by omega)]; exact api k j hk hj
  · show f' 36 j = _
    rw [ho 36 (by omega) (by omega), hn _ (by omega)]; exact ali j hj
  · show f' 31 0 = _
    rw [ho 31 (by omega) (by omega)]; exact aL.1
  · show f' 33 0 = _
    rw [ho 33 (by omega) (by omega)]; exact aL.2.1
  · show f' 35 0 = _
    rw [ho 35 (by omega) (by omega)]; exact aL.2.2
theorem HM.set {ν dg : Nat → Nat} {sd bl : Int32} {f f' : Nat → Nat → Int32} {o N : Nat} (M : HM ν sd bl f 67) (hN : o + N ≤ 69) (hs : ∀ j, j < N → f' 67 (o + j) = nI (dg j)) (ho : ∀ k, ¬ (o ≤ k ∧ k < o + N) → f' 67 k = f 67 k) : HM (setN ν o N dg) sd bl f' 67 := fun k hk => by
  by_cases h : o ≤ k ∧ k < o + N
  · have e := hs (k - o) (by omega)
    rw [show o + (k - o) = k by omega] at e
    rw [e, va_n (by omega) (by omega)]
    show _ = nI (if o ≤ k ∧ k < o + N then dg (k - o) else ν k)
    rw [if_pos h]
  · rw [ho k h, M k hk, va_c (setN_n (by omega))]
