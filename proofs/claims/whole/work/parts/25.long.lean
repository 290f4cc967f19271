/-! the long run: what comes, closed sets, parts -/
def bitN (a k : Nat) : Bool := Nat.beq (a / 2 ^ k % 2) 1
/-- by moves m: the bits of those one comes to -/
def rcp (m : Nat → Nat → Nat) (s : Nat) : Nat → Nat
  | 0 => 0
  | t + 1 => rcp m s t ||| (if 0 < m s t then 2 ^ t else 0)
def rcl (C : Nat) (m : Nat → Nat → Nat) : Nat → Nat → Nat
  | 0, s => rcp m s (C + 1)
  | k + 1, s => if bitN (rcl C m k s) k then rcl C m k s ||| rcl C m k k else rcl C m k s
def rea (C : Nat) (m : Nat → Nat → Nat) (s : Nat) : Nat := rcl C m (C + 1) s
def icl (ρ : Nat → Nat) (set : Nat) : Nat → Bool
  | 0 => true
  | s + 1 => icl ρ set s && (!bitN set s || Nat.beq (ρ s) set)
/-- how many closed sets up to n; the i-th of them -/
def csp (ρ : Nat → Nat) (C : Nat) : Nat → Nat
  | 0 => 0
  | n + 1 => csp ρ C n + (if icl ρ (n + 1) (C + 1) then 1 else 0)
def cfi (ρ : Nat → Nat) (C i : Nat) : Nat → Option Nat
  | 0 => none
  | n + 1 => if icl ρ (n + 1) (C + 1) && Nat.beq (csp ρ C n) i then some (n + 1) else cfi ρ C i n
/-- the sum of weights less the moves -/
def lam (m : Nat → Nat → Nat) (S u t : Nat) : Int := (if u = t then (S : Int) else 0) - (m u t : Int)
def pmx (C : Nat) (m : Nat → Nat → Nat) (S s i : Nat) : Int := if i / 4 = s then (if i % 4 = s then 1 else 0) else if i / 4 ≤ C then lam m S (i / 4) (i % 4) else if i / 4 = i % 4 then 1 else 0
def pa (C : Nat) (m : Nat → Nat → Nat) (S s : Nat) : Int := dt4 (pmx C m S s)
def smI (p : Nat → Int) : Nat → Int
  | 0 => 0
  | s + 1 => smI p s + p s
def pas (C : Nat) (m : Nat → Nat → Nat) (S n : Nat) : Int := smI (pa C m S) n
/-- those of a set but one; the minor of some -/
def thl (C set s : Nat) : List Nat := (List.range (C + 1)).filter fun u => bitN set u && !Nat.beq u s
def dtl (m : Nat → Nat → Nat) (S : Nat) : List Nat → Int
  | [] => 1
  | [a] => lam m S a a
  | [a, b] => lam m S a a * lam m S b b - lam m S a b * lam m S b a
  | [a, b, c] => lam m S a a * (lam m S b b * lam m S c c - lam m S b c * lam m S c b) - lam m S a b * (lam m S b a * lam m S c c - lam m S b c * lam m S c a) + lam m S a c * (lam m S b a * lam m S c b - lam m S b b * lam m S c a)
  | _ => 0
def sty (C : Nat) (m : Nat → Nat → Nat) (S set s : Nat) : Int := if bitN set s then dtl m S (thl C set s) else 0
def alp (C : Nat) (m : Nat → Nat → Nat) (S set : Nat) : Int := sty C m S set 0 + sty C m S set 1 + sty C m S set 2 + sty C m S set 3
def okT (C : Nat) (m : Nat → Nat → Nat) (S set : Nat) (p t : Nat → Int) (al ps : Int) : Bool :=
  decide (0 < al) && decide (al < 10000) && decide (0 < ps) && decide (ps < 10000) && (List.range (C + 1)).all fun s => decide (0 ≤ p s) && decide (0 ≤ t s) && decide (p s * al = t s * ps) && (!bitN set s || (decide (0 < dtl m S ((thl C set s).take 1)) && decide (0 < dtl m S ((thl C set s).take 2)) && decide (0 < dtl m S (thl C set s))))
def okS (C : Nat) (m : Nat → Nat → Nat) (S set : Nat) : Bool := okT C m S set (pa C m S) (sty C m S set) (alp C m S set) (pas C m S (C + 1))
/-- where there is one closed set alone, class and reference have the same parts -/
def okM (C : Nat) (m : Nat → Nat → Nat) (S : Nat) : Prop := csp (rea C m) C (2 ^ (C + 1) - 1) = 1 → ∃ set, cfi (rea C m) C 0 (2 ^ (C + 1) - 1) = some set ∧ okS C m S set = true
-- the same, to be run
def f4 {α : Type} (a b c d : α) : Nat → α
  | 0 => a
  | 1 => b
  | 2 => c
  | _ => d
def fo {α : Type} (n : Nat) (k : Nat → α) : α := match n with
  | 0 => k 0
  | x + 1 => k (x + 1)
theorem fo_eq {α : Type} (n : Nat) (k : Nat → α) : fo n k = k n := by cases n <;> rfl
def fi {α : Type} (n : Int) (k : Int → α) : α := match n with
  | .ofNat 0 => k 0
  | .ofNat (x + 1) => k (.ofNat (x + 1))
  | .negSucc x => k (.negSucc x)
theorem fi_eq {α : Type} (n : Int) (k : Int → α) : fi n k = k n := by
  cases n with
  | ofNat x => cases x <;> rfl
  | negSucc x => rfl
def okU (C : Nat) (m : Nat → Nat → Nat) (S set : Nat) : Bool :=
  fi (pa C m S 0) fun p0 => fi (pa C m S 1) fun p1 => fi (pa C m S 2) fun p2 => fi (pa C m S 3) fun p3 =>
  fi (sty C m S set 0) fun t0 => fi (sty C m S set 1) fun t1 => fi (sty C m S set 2) fun t2 => fi (sty C m S set 3) fun t3 =>
  fi (t0 + t1 + t2 + t3) fun al => fi (smI (f4 p0 p1 p2 p3) (C + 1)) fun ps => okT C m S set (f4 p0 p1 p2 p3) (f4 t0 t1 t2 t3) al ps
def rst {α : Type} (k a b c d : Nat) (ct : Nat → Nat → Nat → Nat → α) : α :=
  fo (f4 a b c d k) fun x => fo (if bitN a k then a ||| x else a) fun a' => fo (if bitN b k then b ||| x else b) fun b' => fo (if bitN c k then c ||| x else c) fun c' => fo (if bitN d k then d ||| x else d) fun d' => ct a' b' c' d'
def rsn {α : Type} : Nat → Nat → Nat → Nat → Nat → Nat → (Nat → Nat → Nat → Nat → α) → α
  | 0, _, a, b, c, d, ct => ct a b c d
  | n + 1, k, a, b, c, d, ct => rst k a b c d fun a b c d => rsn n (k + 1) a b c d ct
def okR (C : Nat) (m : Nat → Nat → Nat) (S : Nat) : Bool :=
  fo (rcp m 0 (C + 1)) fun a => fo (rcp m 1 (C + 1)) fun b => fo (rcp m 2 (C + 1)) fun c => fo (rcp m 3 (C + 1)) fun d =>
  rsn (C + 1) 0 a b c d fun a b c d =>
    !Nat.beq (csp (f4 a b c d) C (2 ^ (C + 1) - 1)) 1 || match cfi (f4 a b c d) C 0 (2 ^ (C + 1) - 1) with
    | none => false
    | some set => okU C m S set
def tab {α : Type} (K : Nat) (q : Nat → Nat) (ct : (Nat → Nat → Nat) → α) : α :=
  fo (mv K q 0 0) fun a0 => fo (mv K q 0 1) fun a1 => fo (mv K q 0 2) fun a2 => fo (mv K q 0 3) fun a3 =>
  fo (mv K q 1 0) fun b0 => fo (mv K q 1 1) fun b1 => fo (mv K q 1 2) fun b2 => fo (mv K q 1 3) fun b3 =>
  fo (mv K q 2 0) fun c0 => fo (mv K q 2 1) fun c1 => fo (mv K q 2 2) fun c2 => fo (mv K q 2 3) fun c3 =>
  fo (mv K q 3 0) fun d0 => fo (mv K q 3 1) fun d1 => fo (mv K q 3 2) fun d2 => fo (mv K q 3 3) fun d3 =>
  ct fun y => f4 (f4 a0 a1 a2 a3) (f4 b0 b1 b2 b3) (f4 c0 c1 c2 c3) (f4 d0 d1 d2 d3) y
def okQ (K : Nat) (q : Nat → Nat) : Bool := tab K q fun P => fo (S4 q) fun S =>
  ((List.range 4).all fun a => (List.range 3).all fun b => (List.range 2).all fun c => okR 3 (fun s => P (s + f4 a b c 0 s)) S) &&
  ((List.range 3).all fun a => (List.range 2).all fun b => okR 2 (fun s => P (s + f4 a b 0 0 s)) S) &&
  ((List.range 2).all fun a => okR 1 (fun s => P (s + f4 a 0 0 0 s)) S)
theorem f4_eq {α : Type} {f : Nat → α} {k : Nat} (h : k < 4) : f4 (f 0) (f 1) (f 2) (f 3) k = f k := by
  match k, h with
  | 0, _ => rfl
  | 1, _ => rfl
  | 2, _ => rfl
  | 3, _ => rfl
theorem rsn_eq {α : Type} {C : Nat} {m : Nat → Nat → Nat} (ct : Nat → Nat → Nat → Nat → α) : ∀ n k, k + n ≤ 4 → rsn n k (rcl C m k 0) (rcl C m k 1) (rcl C m k 2) (rcl C m k 3) ct = ct (rcl C m (k + n) 0) (rcl C m (k + n) 1) (rcl C m (k + n) 2) (rcl C m (k + n) 3)
  | 0, k, _ => rfl
  | n + 1, k, h => by
    have e := rsn_eq (C := C) (m := m) ct n (k + 1) (by omega)
    rw [show k + (n + 1) = k + 1 + n by omega, ← e]
    show rst k _ _ _ _ (fun a b c d => rsn n (k + 1) a b c d ct) = _
    unfold rst
    simp only [fo_eq]
    rw [f4_eq (f := rcl C m k) (show k < 4 by omega)]
    rfl
theorem icl_cg {ρ ρ' : Nat → Nat} {set : Nat} : ∀ n, (∀ s, s < n → ρ s = ρ' s) → icl ρ set n = icl ρ' set n
  | 0, _ => rfl
  | n + 1, h => by
    unfold icl
    rw [icl_cg n (fun s hs => h s (by omega)), h n (by omega)]
theorem csp_cg {ρ ρ' : Nat → Nat} {C : Nat} (h : ∀ s, s < C + 1 → ρ s = ρ' s) : ∀ n, csp ρ C n = csp ρ' C n
  | 0 => rfl
  | n + 1 => by
    unfold csp
    rw [csp_cg h n, icl_cg _ h]
theorem cfi_cg {ρ ρ' : Nat → Nat} {C i : Nat} (h : ∀ s, s < C + 1 → ρ s = ρ' s) : ∀ n, cfi ρ C i n = cfi ρ' C i n
  | 0 => rfl
  | n + 1 => by
    unfold cfi
    rw [cfi_cg h n, icl_cg _ h, csp_cg h n]
theorem smI_cg {p p' : Nat → Int} : ∀ n, (∀ s, s < n → p s = p' s) → smI p n = smI p' n
  | 0, _ => rfl
  | n + 1, h => by
    unfold smI
    rw [smI_cg n (fun s hs => h s (by omega)), h n (by omega)]
theorem okT_cg {C S set : Nat} {m : Nat → Nat → Nat} {p p' t t' : Nat → Int} {al ps : Int} (h : ∀ s, s < C + 1 → p s = p' s) (h' : ∀ s, s < C + 1 → t s = t' s) (k : okT C m S set p t al ps = true) : okT C m S set p' t' al ps = true := by
  unfold okT at k ⊢
  rw [Bool.and_eq_true, List.all_eq_true] at k ⊢
  refine ⟨k.1, fun s hs => ?_⟩
  have := k.2 s hs
  rw [List.mem_range] at hs
  rw [← h s hs, ← h' s hs]
  exact this
theorem okR_ok {C S : Nat} {m : Nat → Nat → Nat} (hC : C ≤ 3) (h : okR C m S = true) : okM C m S := by
  unfold okR at h
  simp only [fo_eq] at h
  have e := rsn_eq (C := C) (m := m) (fun a b c d => !Nat.beq (csp (f4 a b c d) C (2 ^ (C + 1) - 1)) 1 || match cfi (f4 a b c d) C 0 (2 ^ (C + 1) - 1) with
    | none => false
    | some set => okU C m S set) (C + 1) 0 (by omega)
  have h : rsn (C + 1) 0 (rcl C m 0 0) (rcl C m 0 1) (rcl C m 0 2) (rcl C m 0 3) (fun a b c d => !Nat.beq (csp (f4 a b c d) C (2 ^ (C + 1) - 1)) 1 || match cfi (f4 a b c d) C 0 (2 ^ (C + 1) - 1) with
    | none => false
    | some set => okU C m S set) = true := h
  rw [e] at h
  simp only [Nat.zero_add] at h
  have hρ : ∀ s, s < C + 1 → f4 (rcl C m (C + 1) 0) (rcl C m (C + 1) 1) (rcl C m (C + 1) 2) (rcl C m (C + 1) 3) s = rea C m s := fun s hs => f4_eq (f := rea C m) (show s < 4 by omega)
  rw [csp_cg hρ, cfi_cg hρ] at h
  intro h1
  rw [h1] at h
  simp only [Nat.beq_refl, Bool.not_true, Bool.false_or] at h
  split at h
  · exact absurd h (by decide)
  · rename_i set he
    refine ⟨set, he, ?_⟩
    unfold okU at h
    simp only [fi_eq] at h
    have e2 : smI (f4 (pa C m S 0) (pa C m S 1) (pa C m S 2) (pa C m S 3)) (C + 1) = pas C m S (C + 1) := smI_cg _ (fun s hs => f4_eq (f := pa C m S) (by omega))
    rw [e2] at h
    exact okT_cg (fun s hs => f4_eq (f := pa C m S) (by omega)) (fun s hs => f4_eq (f := sty C m S set) (by omega)) h
-- moves that are the same
theorem rcp_cg {m m' : Nat → Nat → Nat} (h : ∀ s t, s < 4 → t < 4 → m s t = m' s t) {s : Nat} (hs : s < 4) : ∀ n, n ≤ 4 → rcp m s n = rcp m' s n
  | 0, _ => rfl
  | n + 1, hn => by
    unfold rcp
    rw [rcp_cg h hs n (by omega), h s n hs (by omega)]
theorem rcl_cg {m m' : Nat → Nat → Nat} (h : ∀ s t, s < 4 → t < 4 → m s t = m' s t) {C : Nat} (hC : C ≤ 3) : ∀ k s, k ≤ 4 → s < 4 → rcl C m k s = rcl C m' k s
  | 0, s, _, hs => rcp_cg h hs (C + 1) (by omega)
  | k + 1, s, hk, hs => by
    unfold rcl
    rw [rcl_cg h hC k s (by omega) hs, rcl_cg h hC k k (by omega) (by omega)]
theorem dt4_cg {x y : Nat → Int} (e : ∀ i, i < 16 → x i = y i) : dt4 x = dt4 y := by
  simp only [dt4, pr4, Nat.reduceMul, Nat.reduceAdd, Nat.mul_zero, Nat.zero_add, Nat.add_zero]
  rw [e 0 (by omega), e 1 (by omega), e 2 (by omega), e 3 (by omega), e 4 (by omega), e 5 (by omega), e 6 (by omega), e 7 (by omega), e 8 (by omega), e 9 (by omega), e 10 (by omega), e 11 (by omega), e 12 (by omega), e 13 (by omega), e 14 (by omega), e 15 (by omega)]
theorem lam_cg {m m' : Nat → Nat → Nat} (h : ∀ s t, s < 4 → t < 4 → m s t = m' s t) {S u t : Nat} (hu : u < 4) (ht : t < 4) : lam m S u t = lam m' S u t := by unfold lam; rw [h u t hu ht]
theorem pa_cg {m m' : Nat → Nat → Nat} (h : ∀ s t, s < 4 → t < 4 → m s t = m' s t) {C S s : Nat} : pa C m S s = pa C m' S s := by
  refine dt4_cg (fun i hi => ?_)
  unfold pmx
  rw [lam_cg h (S := S) (u := i / 4) (t := i % 4) (by omega) (by omega)]
theorem dtl_cg {m m' : Nat → Nat → Nat} (h : ∀ s t, s < 4 → t < 4 → m s t = m' s t) {S : Nat} : ∀ l : List Nat, (∀ x ∈ l, x < 4) → dtl m S l = dtl m' S l
  | [], _ => rfl
  | [a], e => lam_cg h (e a (by simp)) (e a (by simp))
  | [a, b], e => by
    have ha := e a (by simp)
    have hb := e b (by simp)
    simp only [dtl, lam_cg h ha ha, lam_cg h ha hb, lam_cg h hb ha, lam_cg h hb hb]
  | [a, b, c], e => by
    have ha := e a (by simp)
    have hb := e b (by simp)
    have hc := e c (by simp)
    simp only [dtl, lam_cg h ha ha, lam_cg h ha hb, lam_cg h ha hc, lam_cg h hb ha, lam_cg h hb hb, lam_cg h hb hc, lam_cg h hc ha, lam_cg h hc hb, lam_cg h hc hc]
  | _ :: _ :: _ :: _ :: _, _ => rfl
theorem thl_lt {C set s : Nat} (hC : C ≤ 3) : ∀ x ∈ thl C set s, x < 4 := by
  intro x hx
  unfold thl at hx
  rw [List.mem_filter, List.mem_range] at hx
  omega
theorem sty_cg {m m' : Nat → Nat → Nat} (h : ∀ s t, s < 4 → t < 4 → m s t = m' s t) {C S set s : Nat} (hC : C ≤ 3) : sty C m S set s = sty C m' S set s := by
  unfold sty
  rw [dtl_cg h _ (thl_lt hC)]
theorem okM_cg {m m' : Nat → Nat → Nat} (h : ∀ s t, s < 4 → t < 4 → m s t = m' s t) {C S : Nat} (hC : C ≤ 3) (k : okM C m S) : okM C m' S := by
  have hρ : ∀ s, s < C + 1 → rea C m s = rea C m' s := fun s hs => rcl_cg h hC (C + 1) s (by omega) (by omega)
  intro h1
  rw [← csp_cg hρ] at h1
  obtain ⟨set, h2, h3⟩ := k h1
  refine ⟨set, ?_, ?_⟩
  · rw [← cfi_cg hρ]; exact h2
  · unfold okS at h3 ⊢
    have e1 : alp C m S set = alp C m' S set := by unfold alp; rw [sty_cg h hC, sty_cg h hC, sty_cg h hC, sty_cg h hC]
    have e2 : pas C m S (C + 1) = pas C m' S (C + 1) := smI_cg _ (fun s _ => pa_cg h)
    rw [e1, e2] at h3
    have h3 := okT_cg (p' := pa C m' S) (t' := sty C m' S set) (fun s _ => pa_cg h) (fun s _ => sty_cg h hC) h3
    unfold okT at h3 ⊢
    rw [Bool.and_eq_true, List.all_eq_true] at h3 ⊢
    refine ⟨h3.1, fun s hs => ?_⟩
    have h4 := h3.2 s hs
    rw [dtl_cg h _ (thl_lt hC), dtl_cg h _ (fun x hx => thl_lt hC x (List.mem_of_mem_take hx)), dtl_cg h _ (fun x hx => thl_lt hC x (List.mem_of_mem_take hx))] at h4
    exact h4
theorem thn_K {K y d : Nat} : thn K y d = thn (if K = 1 then 1 else 0) y d := by
  unfold thn
  by_cases h : K = 1 <;> simp [h]
theorem mv_K {K : Nat} {q : Nat → Nat} {y t : Nat} : mv K q y t = mv (if K = 1 then 1 else 0) (f4 (q 0) (q 1) (q 2) (q 3)) y t := by
  simp only [mv, mvp]
  rw [thn_K (K := K) (d := 0), thn_K (K := K) (d := 1), thn_K (K := K) (d := 2), thn_K (K := K) (d := 3)]
  rfl
theorem tab_eq {α : Type} (K : Nat) (q : Nat → Nat) (ct : (Nat → Nat → Nat) → α) : tab K q ct = ct fun y => f4 (f4 (mv K q 0 0) (mv K q 0 1) (mv K q 0 2) (mv K q 0 3)) (f4 (mv K q 1 0) (mv K q 1 1) (mv K q 1 2) (mv K q 1 3)) (f4 (mv K q 2 0) (mv K q 2 1) (mv K q 2 2) (mv K q 2 3)) (f4 (mv K q 3 0) (mv K q 3 1) (mv K q 3 2) (mv K q 3 3)) y := by
  unfold tab
  simp only [fo_eq]
theorem tab_at {K : Nat} {q : Nat → Nat} {y t : Nat} (hy : y < 4) (ht : t < 4) : f4 (f4 (mv K q 0 0) (mv K q 0 1) (mv K q 0 2) (mv K q 0 3)) (f4 (mv K q 1 0) (mv K q 1 1) (mv K q 1 2) (mv K q 1 3)) (f4 (mv K q 2 0) (mv K q 2 1) (mv K q 2 2) (mv K q 2 3)) (f4 (mv K q 3 0) (mv K q 3 1) (mv K q 3 2) (mv K q 3 3)) y t = mv K q y t := by
  have e : ∀ y, f4 (mv K q y 0) (mv K q y 1) (mv K q y 2) (mv K q y 3) t = mv K q y t := fun y => f4_eq (f := mv K q y) ht
  match y, hy with
  | 0, _ => exact e 0
  | 1, _ => exact e 1
  | 2, _ => exact e 2
  | 3, _ => exact e 3
theorem okQ_ok {K : Nat} {q : Nat → Nat} (k : okQ K q = true) {C : Nat} {r : Nat → Nat} (h1 : 1 ≤ C) (hC : C ≤ 3) (R : RU C r) : okM C (fun s t => mv K q (s + r s) t) (S4 q) := by
  unfold okQ at k
  rw [tab_eq, fo_eq] at k
  simp only [Bool.and_eq_true, List.all_eq_true, List.mem_range] at k
  obtain ⟨⟨k3, k2⟩, k1⟩ := k
  have hr : ∀ s, s < 4 → s + r s ≤ 3 := fun s hs => R.le hC s hs
  have key : ∀ (a b c : Nat), f4 a b c 0 0 = r 0 → f4 a b c 0 1 = r 1 → f4 a b c 0 2 = r 2 → r 3 = 0 → ∀ s t, s < 4 → t < 4 → f4 (f4 (mv K q 0 0) (mv K q 0 1) (mv K q 0 2) (mv K q 0 3)) (f4 (mv K q 1 0) (mv K q 1 1) (mv K q 1 2) (mv K q 1 3)) (f4 (mv K q 2 0) (mv K q 2 1) (mv K q 2 2) (mv K q 2 3)) (f4 (mv K q 3 0) (mv K q 3 1) (mv K q 3 2) (mv K q 3 3)) (s + f4 a b c 0 s) t = mv K q (s + r s) t := by
    intro a b c e0 e1 e2 e3 s t hs ht
    have e : f4 a b c 0 s = r s := by
      match s, hs with
      | 0, _ => exact e0
      | 1, _ => exact e1
      | 2, _ => exact e2
      | 3, _ => exact e3.symm
    rw [e]
    exact tab_at (by have := hr s hs; omega) ht
  have r3 : r 3 = 0 := by have := hr 3 (by omega); omega
  have hC' : C = 1 ∨ C = 2 ∨ C = 3 := by omega
  rcases hC' with rfl | rfl | rfl
  · exact okM_cg (key (r 0) 0 0 rfl (by have := R.1 1 (by omega); have e : r 1 = 0 := (by omega); rw [e]; rfl) (R.2 2 (by omega)).symm r3) (by omega) (okR_ok (by omega) (k1 (r 0) (by have := R.1 0 (by omega); omega)))
  · exact okM_cg (key (r 0) (r 1) 0 rfl rfl (by have := R.1 2 (by omega); have e : r 2 = 0 := (by omega); rw [e]; rfl) r3) (by omega) (okR_ok (by omega) (k2 (r 0) (by have := R.1 0 (by omega); omega) (r 1) (by have := R.1 1 (by omega); omega)))
  · exact okM_cg (key (r 0) (r 1) (r 2) rfl rfl rfl r3) (by omega) (okR_ok (by omega) (k3 (r 0) (by have := R.1 0 (by omega); omega) (r 1) (by have := R.1 1 (by omega); omega) (r 2) (by have := R.1 2 (by omega); omega)))
