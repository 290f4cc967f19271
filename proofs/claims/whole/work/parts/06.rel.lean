/-! worlds and heaps: the cell a of a world lies at base + a; the script lies at b -/
def pVal (b base : Nat) (v : Value) : Value := match v with
  | .ref a => .ref (base + a)
  | .retAddr _ => .ref b
  | .int x => .int x
  | .long x => .long x
  | .float x => .float x
  | .double x => .double x
  | .null => .null
theorem pVal_cat (b base : Nat) (v : Value) : (pVal b base v).category = v.category := by cases v <;> rfl
theorem pVal_rf (b base : Nat) (r : Option Nat) : pVal b base (va_rf r) = va_rf (r.map (fun a => base + a)) := by cases r <;> rfl
theorem pVal_cats (b base : Nat) (S : List Value) : ((S.map (pVal b base)).map fun v => v.category) = S.map fun v => v.category := by
  rw [List.map_map]
  exact List.map_congr_left fun v _ => pVal_cat b base v
def pEnt (w : pWD) (b base : Nat) (cid : Nat → ClassId) (a : Nat) : va_E := match w.1[a]? with
  | some (.inl ci) => .inr (ci, (List.range (pN ci)).map (fun k => pVal b base (pFv w ci k a)))
  | some (.inr (.long, n)) => .inl (cid a, n, .inr (.inl (w.2.2.2 a)))
  | some (.inr (.object _, n)) => .inl (cid a, n, .inr (.inr (.inr (.inr (fun k => (pR w a k).map (fun q => base + q))))))
  | some (.inr (_, n)) => .inl (cid a, n, .inl (w.2.2.1 a))
  | none => .inr (0, [])
def pWs (w : pWD) (b base : Nat) (cid : Nat → ClassId) : va_W := (List.range w.1.length).map fun a => (base + a, pEnt w b base cid a)
theorem pWs_at {w : pWD} {b base : Nat} {cid : Nat → ClassId} {a : Nat} (h : a < w.1.length) : (pWs w b base cid)[a]? = some (base + a, pEnt w b base cid a) := by
  simp [pWs, h]
theorem pWs_len (w : pWD) (b base : Nat) (cid : Nat → ClassId) : (pWs w b base cid).length = w.1.length := by simp [pWs]
theorem pWs_inv {w : pWD} {b base : Nat} {cid : Nat → ClassId} {k : Nat} {q : Nat × va_E} (h : (pWs w b base cid)[k]? = some q) : k < w.1.length ∧ q = (base + k, pEnt w b base cid k) := by
  have hl : k < w.1.length := by
    have := (List.getElem?_eq_some_iff.mp h).1
    rwa [pWs_len] at this
  rw [pWs_at hl] at h
  exact ⟨hl, (Option.some.inj h).symm⟩
theorem pWs_D (w : pWD) (b base : Nat) (cid : Nat → ClassId) : va_D (fun q : Nat => base ≤ q) (pWs w b base cid) := by
  refine ⟨fun i j p q hi hj e => ?_, fun k q hk => ?_⟩
  · obtain ⟨-, rfl⟩ := pWs_inv hi
    obtain ⟨-, rfl⟩ := pWs_inv hj
    have e' : base + i = base + j := e
    omega
  · obtain ⟨-, rfl⟩ := pWs_inv hk
    exact Nat.le_add_right base k
theorem pEnt_congr {w w' : pWD} {b base : Nat} {cid cid' : Nat → ClassId} {a : Nat} (h1 : w'.1[a]? = w.1[a]?) (h2 : w'.2.2.1 a = w.2.2.1 a) (h3 : w'.2.2.2 a = w.2.2.2 a) (h4 : ∀ k, pR w' a k = pR w a k) (h5 : cid' a = cid a) : pEnt w' b base cid' a = pEnt w b base cid a := by
  have hf : ∀ ci k, pFv w' ci k a = pFv w ci k a := fun ci k => by unfold pFv; rw [h2, h3, h4]
  unfold pEnt
  rw [h1, h2, h3, h5]
  simp only [hf, h4]
theorem pWs_set {w w' : pWD} {b base : Nat} {cid : Nat → ClassId} {a : Nat} {e : va_E} (hl : w'.1 = w.1) (h : ∀ q, q ≠ a → pEnt w' b base cid q = pEnt w b base cid q) (he : pEnt w' b base cid a = e) : pWs w' b base cid = (pWs w b base cid).set a (base + a, e) := by
  apply List.ext_getElem?
  intro i
  rw [List.getElem?_set]
  by_cases hi : i < w.1.length
  · rw [pWs_at (by rw [hl]; exact hi)]
    by_cases hia : a = i
    · subst hia
      rw [if_pos rfl, if_pos (by rw [pWs_len]; exact hi), he]
    · rw [if_neg hia, pWs_at hi, h i (fun z => hia z.symm)]
  · have n1 : (pWs w' b base cid)[i]? = none := List.getElem?_eq_none (by rw [pWs_len, hl]; omega)
    have n2 : (pWs w b base cid)[i]? = none := List.getElem?_eq_none (by rw [pWs_len]; omega)
    rw [n1]
    by_cases hia : a = i
    · subst hia
      rw [if_pos rfl, if_neg (by rw [pWs_len]; exact hi)]
    · rw [if_neg hia, n2]
theorem pWs_push {w w' : pWD} {b base : Nat} {cid cid' : Nat → ClassId} {x : pSC} {e : va_E} (hl : w'.1 = w.1 ++ [x]) (h : ∀ q, q < w.1.length → pEnt w' b base cid' q = pEnt w b base cid q) (he : pEnt w' b base cid' w.1.length = e) : pWs w' b base cid' = pWs w b base cid ++ [(base + w.1.length, e)] := by
  unfold pWs
  rw [hl, List.length_append, List.length_singleton, List.range_succ, List.map_append, List.map_cons, List.map_nil, he]
  congr 1
  exact List.map_congr_left fun q hq => by rw [h q (List.mem_range.mp hq)]
theorem pMap_set {α : Type} {N k : Nat} {f g : Nat → α} {x : α} (hk : g k = x) (h : ∀ j, j ≠ k → g j = f j) : (List.range N).map g = ((List.range N).map f).set k x := by
  apply List.ext_getElem?
  intro i
  rw [List.getElem?_set]
  by_cases hik : k = i
  · subst hik
    rw [if_pos rfl, List.length_map, List.length_range]
    by_cases hi : k < N
    · rw [if_pos hi, List.getElem?_map, List.getElem?_range hi, Option.map_some, hk]
    · rw [if_neg hi]
      exact List.getElem?_eq_none (by simp; omega)
  · rw [if_neg hik, List.getElem?_map, List.getElem?_map]
    cases hr : (List.range N)[i]? with
    | none => rfl
    | some y =>
      have hy : y = i := by
        have hl := (List.getElem?_eq_some_iff.mp hr).1
        rw [List.length_range] at hl
        rw [List.getElem?_range hl] at hr
        exact (Option.some.inj hr).symm
      subst hy
      rw [Option.map_some, Option.map_some, h y (fun z => hik z.symm)]
theorem upM_at {α : Type} (f : Nat → Nat → α) (a k : Nat) (v : α) : upM f a k v a = fun j => if j = k then v else f a j := by
  funext j
  simp [upM]
theorem upM_ne {α : Type} (f : Nat → Nat → α) {a q : Nat} (k : Nat) (v : α) (h : q ≠ a) : upM f a k v q = f q := by
  funext j
  simp [upM, h]
theorem cpM_at {α : Type} (f : Nat → Nat → α) (a0 a sp dp n : Nat) : cpM f a0 a sp dp n a = va_cpy (f a0) (f a) sp dp n := by
  funext j
  simp [cpM]
theorem cpM_ne {α : Type} (f : Nat → Nat → α) {a q : Nat} (a0 sp dp n : Nat) (h : q ≠ a) : cpM f a0 a sp dp n q = f q := by
  funext j
  simp [cpM, h]
theorem clM_at {α : Type} (f : Nat → Nat → α) (a : Nat) (v : α) : clM f a v a = fun _ => v := by
  funext j
  simp [clM]
theorem clM_ne {α : Type} (f : Nat → Nat → α) {a q : Nat} (v : α) (h : q ≠ a) : clM f a v q = f q := by
  funext j
  simp [clM, h]
theorem pR_set_ne {w : pWD} {a k v q j : Nat} {mi : Nat → Nat → Int32} {ml : Nat → Nat → Int64} (h : q ≠ a ∨ j ≠ k) : pR (w.1, pRset w a k v, mi, ml) q j = pR w q j := by
  unfold pR pRset
  show ((w.2.1.set a _).getD q []).getD j none = _
  by_cases hq : q = a
  · subst hq
    have hj : j ≠ k := h.resolve_left (fun z => z rfl)
    simp only [List.getD_eq_getElem?_getD]
    cases hw : w.2.1[q]? with
    | none =>
      have h1 : (w.2.1.set q ((Option.getD none []).set k (some v)))[q]? = none := by
        rw [List.getElem?_eq_none_iff, List.length_set]
        exact List.getElem?_eq_none_iff.mp hw
      rw [h1]
    | some r =>
      rw [List.getElem?_set_self (List.getElem?_eq_some_iff.mp hw).1]
      simp only [Option.getD_some]
      rw [List.getElem?_set_ne (Ne.symm hj)]
  · simp only [List.getD_eq_getElem?_getD]
    rw [List.getElem?_set_ne (Ne.symm hq)]
theorem pR_set_at {w : pWD} {a k v : Nat} {mi : Nat → Nat → Int32} {ml : Nat → Nat → Int64} (h : k < (w.2.1.getD a []).length) : pR (w.1, pRset w a k v, mi, ml) a k = some v := by
  unfold pR pRset
  show ((w.2.1.set a _).getD a []).getD k none = _
  simp only [List.getD_eq_getElem?_getD] at h ⊢
  cases hw : w.2.1[a]? with
  | none => rw [hw] at h; simp at h
  | some r =>
    rw [hw] at h
    have hl : a < w.2.1.length := (List.getElem?_eq_some_iff.mp hw).1
    rw [List.getElem?_set_self hl]
    simp only [Option.getD_some] at h ⊢
    rw [List.getElem?_set_self h]
    rfl
/-- what a heap has to do with a world -/
def pRel (D : va_G) (w : pWD) (b base : Nat) (cid : Nat → ClassId) (s : State) (H : Heap) : Prop :=
  (∃ tys, va_K D vwCl tys s ∧ ∀ (a : Nat) (ty : FieldType) (n : Nat), w.1[a]? = some (.inr (ty, n)) → (cid a, ty) ∈ tys) ∧ va_P D vwCl (pWs w b base cid) H ∧ w.2.1.length = w.1.length
theorem pRel.moved {D : va_G} {w : pWD} {b base : Nat} {cid : Nat → ClassId} {u U : State} {H : Heap} (hvm : u.vm.Alike U.vm) (h : pRel D w b base cid u H) : pRel D w b base cid U H := by
  obtain ⟨⟨tys, hK, ht⟩, hP, hl⟩ := h
  exact ⟨⟨tys, va_K.moved hvm hK, ht⟩, hP, hl⟩
theorem pEnt_i {w : pWD} {b base : Nat} {cid : Nat → ClassId} {a n : Nat} {ty : FieldType} (h : w.1[a]? = some (.inr (ty, n))) (ht : ty = .int ∨ ty = .byte ∨ ty = .boolean) : pEnt w b base cid a = .inl (cid a, n, .inl (w.2.2.1 a)) := by
  unfold pEnt
  rw [h]
  rcases ht with rfl | rfl | rfl <;> rfl
theorem pEnt_l {w : pWD} {b base : Nat} {cid : Nat → ClassId} {a n : Nat} (h : w.1[a]? = some (.inr (.long, n))) : pEnt w b base cid a = .inl (cid a, n, .inr (.inl (w.2.2.2 a))) := by
  unfold pEnt
  rw [h]
theorem pEnt_q {w : pWD} {b base : Nat} {cid : Nat → ClassId} {a n : Nat} {C : String} (h : w.1[a]? = some (.inr (.object C, n))) : pEnt w b base cid a = .inl (cid a, n, .inr (.inr (.inr (.inr (fun k => (pR w a k).map (fun q => base + q)))))) := by
  unfold pEnt
  rw [h]
theorem pEnt_o {w : pWD} {b base : Nat} {cid : Nat → ClassId} {a ci : Nat} (h : w.1[a]? = some (.inl ci)) : pEnt w b base cid a = .inr (ci, (List.range (pN ci)).map (fun k => pVal b base (pFv w ci k a))) := by
  unfold pEnt
  rw [h]
theorem pW_lt {w : pWD} {a : Nat} {x : pSC} (h : w.1[a]? = some x) : a < w.1.length := (List.getElem?_eq_some_iff.mp h).1
/-- an array of ints (bytes, booleans) at a has been written -/
theorem pRel_i {D : va_G} {w : pWD} {b base : Nat} {cid : Nat → ClassId} {s : State} {H H1 : Heap} {a n : Nat} {ty : FieldType} {g : Nat → Int32} {mi : Nat → Nat → Int32} (h : pRel D w b base cid s H) (ha : w.1[a]? = some (.inr (ty, n))) (ht : ty = .int ∨ ty = .byte ∨ ty = .boolean) (h1 : mi a = g) (h2 : ∀ q, q ≠ a → mi q = w.2.2.1 q)
    (hP : va_P D vwCl ((pWs w b base cid).set a (base + a, .inl (cid a, n, .inl g))) H1) : pRel D (w.1, w.2.1, mi, w.2.2.2) b base cid s H1 := by
  refine ⟨h.1, ?_, h.2.2⟩
  rw [pWs_set (w := w) (w' := (w.1, w.2.1, mi, w.2.2.2)) (a := a) (e := .inl (cid a, n, .inl g)) rfl (fun q hq => pEnt_congr rfl (h2 q hq) rfl (fun _ => rfl) rfl)]
  · exact hP
  · rw [pEnt_i (w := (w.1, w.2.1, mi, w.2.2.2)) ha ht]
    show Sum.inl (cid a, n, Sum.inl (mi a)) = _
    rw [h1]
theorem pRel_l {D : va_G} {w : pWD} {b base : Nat} {cid : Nat → ClassId} {s : State} {H H1 : Heap} {a n : Nat} {g : Nat → Int64} {ml : Nat → Nat → Int64} (h : pRel D w b base cid s H) (ha : w.1[a]? = some (.inr (.long, n))) (h1 : ml a = g) (h2 : ∀ q, q ≠ a → ml q = w.2.2.2 q)
    (hP : va_P D vwCl ((pWs w b base cid).set a (base + a, .inl (cid a, n, .inr (.inl g)))) H1) : pRel D (w.1, w.2.1, w.2.2.1, ml) b base cid s H1 := by
  refine ⟨h.1, ?_, h.2.2⟩
  rw [pWs_set (w := w) (w' := (w.1, w.2.1, w.2.2.1, ml)) (a := a) (e := .inl (cid a, n, .inr (.inl g))) rfl (fun q hq => pEnt_congr rfl rfl (h2 q hq) (fun _ => rfl) rfl)]
  · exact hP
  · rw [pEnt_l (w := (w.1, w.2.1, w.2.2.1, ml)) ha]
    show Sum.inl (cid a, n, Sum.inr (Sum.inl (ml a))) = _
    rw [h1]
theorem pRel_q {D : va_G} {w : pWD} {b base : Nat} {cid : Nat → ClassId} {s : State} {H H1 : Heap} {a n k v : Nat} {C : String} (h : pRel D w b base cid s H) (ha : w.1[a]? = some (.inr (.object C, n))) (hk : k < (w.2.1.getD a []).length)
    (hP : va_P D vwCl ((pWs w b base cid).set a (base + a, .inl (cid a, n, .inr (.inr (.inr (.inr (va_up (fun k => (pR w a k).map (fun q => base + q)) k (some (base + v))))))))) H1) : pRel D (w.1, pRset w a k v, w.2.2.1, w.2.2.2) b base cid s H1 := by
  refine ⟨h.1, ?_, ?_⟩
  · rw [pWs_set (w := w) (w' := (w.1, pRset w a k v, w.2.2.1, w.2.2.2)) (a := a) (e := .inl (cid a, n, .inr (.inr (.inr (.inr (va_up (fun k => (pR w a k).map (fun q => base + q)) k (some (base + v)))))))) rfl (fun q hq => pEnt_congr rfl rfl rfl (fun _ => pR_set_ne (Or.inl hq)) rfl)]
    · exact hP
    · rw [pEnt_q (w := (w.1, pRset w a k v, w.2.2.1, w.2.2.2)) ha]
      congr 7
      funext j
      by_cases hj : j = k
      · subst hj
        rw [pR_set_at hk]
        simp [va_up]
      · rw [pR_set_ne (Or.inr hj)]
        simp [va_up, hj]
  · show (w.2.1.set a _).length = _
    rw [List.length_set]
    exact h.2.2
/-- a field of the object at a has been written -/
theorem pRel_f {D : va_G} {w : pWD} {b base : Nat} {cid : Nat → ClassId} {s : State} {H H1 : Heap} {a ci k : Nat} {v : Value} {rr : List (List (Option Nat))} {mi : Nat → Nat → Int32} {ml : Nat → Nat → Int64} (h : pRel D w b base cid s H) (ha : w.1[a]? = some (.inl ci)) (hr : rr.length = w.2.1.length)
    (h1 : ∀ q, q ≠ a → mi q = w.2.2.1 q) (h2 : ∀ q, q ≠ a → ml q = w.2.2.2 q) (h3 : ∀ q j, q ≠ a → pR (w.1, rr, mi, ml) q j = pR w q j) (h4 : pFv (w.1, rr, mi, ml) ci k a = v) (h5 : ∀ j, j ≠ k → pFv (w.1, rr, mi, ml) ci j a = pFv w ci j a)
    (hP : va_P D vwCl ((pWs w b base cid).set a (base + a, .inr (ci, ((List.range (pN ci)).map (fun k => pVal b base (pFv w ci k a))).set k (pVal b base v)))) H1) : pRel D (w.1, rr, mi, ml) b base cid s H1 := by
  refine ⟨h.1, ?_, hr.trans h.2.2⟩
  rw [pWs_set (w := w) (w' := (w.1, rr, mi, ml)) (a := a) (e := .inr (ci, ((List.range (pN ci)).map (fun k => pVal b base (pFv w ci k a))).set k (pVal b base v))) rfl (fun q hq => pEnt_congr rfl (h1 q hq) (h2 q hq) (fun j => h3 q j hq) rfl)]
  · exact hP
  · rw [pEnt_o (w := (w.1, rr, mi, ml)) ha, pMap_set (k := k) (x := pVal b base v) (f := fun k => pVal b base (pFv w ci k a))]
    · show pVal b base (pFv (w.1, rr, mi, ml) ci k a) = _
      rw [h4]
    · intro j hj
      show pVal b base (pFv (w.1, rr, mi, ml) ci j a) = _
      rw [h5 j hj]
/-- locals -/
def pLs (b base nL : Nat) (ls : Array Slot) (L : pLT) : Prop := ∃ lv, lv_has ls nL lv ∧ ∀ (i : Nat) (v : Value), L[i]? = some (some v) → (i, pVal b base v) ∈ lv
theorem pGetD {L : pLT} {i : Nat} {v : Value} (h : L.getD i none = some v) : L[i]? = some (some v) := by
  rw [List.getD_eq_getElem?_getD] at h
  cases hl : L[i]? with
  | none => rw [hl] at h; cases h
  | some o => rw [hl] at h; exact congrArg some h
theorem pLs_at {b base nL : Nat} {ls : Array Slot} {L : pLT} (h : pLs b base nL ls L) {i : Nat} {v : Value} (hi : L.getD i none = some v) : ls[i]? = some (.val (pVal b base v)) := by
  obtain ⟨lv, h1, h2⟩ := h
  exact h1.2.2 _ (h2 i v (pGetD hi))
theorem pClr_spec {L : pLT} {i j : Nat} {u : Value} (h : (pClr L i)[j]? = some (some u)) : L[j]? = some (some u) ∧ ¬ (j + 1 = i ∧ u.category = 2) := by
  cases i with
  | zero => exact ⟨h, fun q => by omega⟩
  | succ i =>
    have hset : (L.set i none)[j]? = some (some u) → L[j]? = some (some u) ∧ ¬ (j + 1 = i + 1 ∧ u.category = 2) := by
      intro h
      rw [List.getElem?_set] at h
      by_cases hij : i = j
      · rw [if_pos hij] at h
        split at h <;> cases h
      · rw [if_neg hij] at h
        exact ⟨h, fun q => hij (by omega)⟩
    have hno : L.getD i none = none ∨ (∃ v, L.getD i none = some v ∧ v.category = 1) → L[j]? = some (some u) → L[j]? = some (some u) ∧ ¬ (j + 1 = i + 1 ∧ u.category = 2) := by
      intro hd h'
      refine ⟨h', fun q => ?_⟩
      have e : j = i := by omega
      have h2 : L.getD i none = some u := by rw [← e, List.getD_eq_getElem?_getD, h']; rfl
      rw [h2] at hd
      rcases hd with hd | ⟨v, hd, hc⟩
      · cases hd
      · cases hd
        omega
    unfold pClr at h
    cases hd : L.getD i none with
    | none => simp only [hd] at h; exact hno (Or.inl hd) h
    | some v =>
      cases v <;> simp only [hd] at h <;> first | exact hset h | exact hno (Or.inr ⟨_, hd, rfl⟩) h
theorem pLs_st1 {b base nL : Nat} {ls : Array Slot} {L : pLT} {i : Nat} {v : Value} {lv : List (Nat × Value)} (h2 : ∀ (i : Nat) (v : Value), L[i]? = some (some v) → (i, pVal b base v) ∈ lv)
    (h1 : lv_has ls nL ((i, pVal b base v) :: lv.filter (fun q => !(q.1 == i) && !(q.1 + 1 == i && q.2.category == 2)))) : pLs b base nL ls (pS1 L i v) := by
  refine ⟨_, h1, fun j u hj => ?_⟩
  unfold pS1 at hj
  rw [List.getElem?_set] at hj
  by_cases hij : i = j
  · rw [if_pos hij] at hj
    split at hj
    · cases hj
      rw [hij]
      exact List.mem_cons_self
    · cases hj
  · rw [if_neg hij] at hj
    obtain ⟨g1, g2⟩ := pClr_spec hj
    refine List.mem_cons_of_mem _ (List.mem_filter.mpr ⟨h2 j u g1, ?_⟩)
    have n1 : (j == i) = false := by simpa using fun z : j = i => hij z.symm
    have n2 : (j + 1 == i && (pVal b base u).category == 2) = false := by
      rw [pVal_cat]
      cases hz : (j + 1 == i && u.category == 2) with
      | false => rfl
      | true =>
        simp only [Bool.and_eq_true, beq_iff_eq] at hz
        exact absurd hz g2
    show (!(j == i) && !(j + 1 == i && (pVal b base u).category == 2)) = true
    rw [n1, n2]
    rfl
theorem pLs_st2 {b base nL : Nat} {ls : Array Slot} {L : pLT} {i : Nat} {v : Value} {lv : List (Nat × Value)} (h2 : ∀ (i : Nat) (v : Value), L[i]? = some (some v) → (i, pVal b base v) ∈ lv)
    (h1 : lv_has ls nL ((i, pVal b base v) :: lv.filter (fun q => !(q.1 == i) && (!(q.1 == i + 1) && !(q.1 + 1 == i && q.2.category == 2))))) : pLs b base nL ls (pS2 L i v) := by
  refine ⟨_, h1, fun j u hj => ?_⟩
  unfold pS2 at hj
  rw [List.getElem?_set] at hj
  by_cases hij1 : i + 1 = j
  · rw [if_pos hij1] at hj
    split at hj <;> cases hj
  · rw [if_neg hij1, List.getElem?_set] at hj
    by_cases hij : i = j
    · rw [if_pos hij] at hj
      split at hj
      · cases hj
        rw [hij]
        exact List.mem_cons_self
      · cases hj
    · rw [if_neg hij] at hj
      obtain ⟨g1, g2⟩ := pClr_spec hj
      refine List.mem_cons_of_mem _ (List.mem_filter.mpr ⟨h2 j u g1, ?_⟩)
      have n1 : (j == i) = false := by simpa using fun z : j = i => hij z.symm
      have n3 : (j == i + 1) = false := by simpa using fun z : j = i + 1 => hij1 z.symm
      have n2 : (j + 1 == i && (pVal b base u).category == 2) = false := by
        rw [pVal_cat]
        cases hz : (j + 1 == i && u.category == 2) with
        | false => rfl
        | true =>
          simp only [Bool.and_eq_true, beq_iff_eq] at hz
          exact absurd hz g2
      show (!(j == i) && (!(j == i + 1) && !(j + 1 == i && (pVal b base u).category == 2))) = true
      rw [n1, n2, n3]
      rfl
theorem pEnA_args (b base : Nat) : ∀ (as : List Value) (i0 : Nat) (i : Nat) (v : Value), (pEnA as)[i]? = some (some v) → (i0 + i, pVal b base v) ∈ lv_args i0 (as.map (pVal b base))
  | [], _, i, v, h => by simp [pEnA] at h
  | x :: as, i0, i, v, h => by
    have two : ∀ (y : Value), (some y :: none :: pEnA as)[i]? = some (some v) → pVal b base y = pVal b base x → (pVal b base x).category = 2 → (i0 + i, pVal b base v) ∈ lv_args i0 ((x :: as).map (pVal b base)) := by
      intro y h e hc
      rw [List.map_cons, lv_args, if_pos hc]
      match i, h with
      | 0, h =>
        simp only [List.getElem?_cons_zero, Option.some.injEq] at h
        rw [← h, e]
        exact List.mem_cons_self
      | 1, h => simp at h
      | i + 2, h =>
        simp only [List.getElem?_cons_succ] at h
        have := pEnA_args b base as (i0 + 2) i v h
        rw [show i0 + (i + 2) = i0 + 2 + i by omega]
        exact List.mem_cons_of_mem _ this
    have one : (some x :: pEnA as)[i]? = some (some v) → ¬ (pVal b base x).category = 2 → (i0 + i, pVal b base v) ∈ lv_args i0 ((x :: as).map (pVal b base)) := by
      intro h hc
      rw [List.map_cons, lv_args, if_neg hc]
      match i, h with
      | 0, h =>
        simp only [List.getElem?_cons_zero, Option.some.injEq] at h
        rw [← h]
        exact List.mem_cons_self
      | i + 1, h =>
        simp only [List.getElem?_cons_succ] at h
        have := pEnA_args b base as (i0 + 1) i v h
        rw [show i0 + (i + 1) = i0 + 1 + i by omega]
        exact List.mem_cons_of_mem _ this
    cases x with
    | long y => exact two (.long y) h rfl rfl
    | double y => exact two (.double y) h rfl rfl
    | int y => exact one h (by simp [pVal, Value.category])
    | float y => exact one h (by simp [pVal, Value.category])
    | null => exact one h (by simp [pVal, Value.category])
    | ref y => exact one h (by simp [pVal, Value.category])
    | retAddr y => exact one h (by simp [pVal, Value.category])
theorem pEn_ls {b base k : Nat} {as : List Value} (h : (lg_sl (as.map (pVal b base))).length ≤ pL k) : pLs b base (pL k) ((lg_sl (as.map (pVal b base)) ++ List.replicate (pL k - (lg_sl (as.map (pVal b base))).length) Slot.unset).toArray) (pEn k as) := by
  refine ⟨_, lv_entry _ h, fun i v hi => ?_⟩
  unfold pEn at hi
  by_cases hl : i < (pEnA as).length
  · rw [List.getElem?_append_left hl] at hi
    have := pEnA_args b base as 0 i v hi
    rwa [Nat.zero_add] at this
  · rw [List.getElem?_append_right (by omega)] at hi
    have := List.eq_of_mem_replicate (List.mem_of_getElem? hi)
    cases this
theorem pEnA_len (b base : Nat) : ∀ as : List Value, (lg_sl (as.map (pVal b base))).length = (pEnA as).length
  | [] => rfl
  | x :: as => by
    have ih := pEnA_len b base as
    have e : (lg_sl ((x :: as).map (pVal b base))).length = (if (pVal b base x).category = 2 then 2 else 1) + (lg_sl (as.map (pVal b base))).length := by
      unfold lg_sl
      simp only [List.map_cons, List.flatMap_cons, List.length_append]
      split <;> rfl
    rw [e, ih]
    cases x <;> simp [pVal, Value.category, pEnA] <;> omega
