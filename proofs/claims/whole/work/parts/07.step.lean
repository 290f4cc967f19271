/-! a step of the pure machine is a step of the machine -/
/-- what the tables say that isn't a word of the list: the array of tapes, the links of nest mates -/
def pNs (U : State) : Prop := va_AO (pNm 4) U ∧ ∀ q ∈ pLKN, va_Nw (.methodLinkNest (pNm q.1) q.2.1 (pY q.2.2) "ReorderMind") U
theorem pNs.warm {s U : State} (hW : s.WarmedH U.vm) (h : pNs s) : pNs U := ⟨h.1.moved hW.alike, fun q hq => va_Nw.warmM hW (h.2 q hq)⟩
theorem pNs.same {u U : State} (hvm : u.vm = U.vm) (h : pNs u) : pNs U := ⟨h.1.moved (by rw [hvm]; exact Vm.Alike.refl _), fun q hq => va_Nw.same rfl hvm (h.2 q hq)⟩
def pCx (p : Program) (R : Room) (s : State) (m : MethodId) (args : Array Value) (meth : Method) (c : Code) (b base : Nat) (X : pSX) (k : Nat) : Prop :=
  p.tables.exec = Jvm.exec ∧ c.code = pB k ∧ c.maxLocals = pL k ∧ s.vm.findClass (pNm (pCi k)) = some m.cls ∧ (∀ wd ∈ pWL, wd.before args s = true) ∧ (pKd k = 2 → meth.name = "<init>") ∧ va_X b X.1 X.2 s s.heap ∧ b < base ∧ base ≤ s.heap.size ∧ 1 ≤ R.frames ∧ 64 ≤ R.locals ∧ pNs s
theorem pIn_vp {i : Int32} {n : Nat} (h : pIn i n = true) : vp_in i n := by
  unfold pIn at h
  simp only [Bool.not_eq_true', Bool.or_eq_false_iff, decide_eq_false_iff_not] at h
  rintro (z | z)
  · exact h.1 z
  · exact h.2 z
theorem pLdI_inv {L : pLT} {i : Nat} {v : Value} (h : pLdI L i = some v) : ∃ z, L.getD i none = some (.int z) ∧ v = .int z := by
  unfold pLdI at h
  split at h
  · next z hz => cases h; exact ⟨z, hz, rfl⟩
  · cases h
theorem pLdL_inv {L : pLT} {i : Nat} {v : Value} (h : pLdL L i = some v) : ∃ z, L.getD i none = some (.long z) ∧ v = .long z := by
  unfold pLdL at h
  split at h
  · next z hz => cases h; exact ⟨z, hz, rfl⟩
  · cases h
theorem pLdA_inv {L : pLT} {i : Nat} {v : Value} (h : pLdA L i = some v) : (∃ z, L.getD i none = some (.ref z) ∧ v = .ref z) ∨ (L.getD i none = some .null ∧ v = .null) ∨ (∃ z, L.getD i none = some (.retAddr z) ∧ v = .retAddr z) := by
  unfold pLdA at h
  split at h
  · next z hz => cases h; exact Or.inl ⟨z, hz, rfl⟩
  · next hz => cases h; exact Or.inr (Or.inl ⟨hz, rfl⟩)
  · next z hz => cases h; exact Or.inr (Or.inr ⟨z, hz, rfl⟩)
  · cases h
theorem pI1_inv {f : Int32 → Int32} {S T : List Value} (h : pI1 f S = some T) : ∃ x U, S = .int x :: U ∧ T = .int (f x) :: U := by
  unfold pI1 at h
  split at h
  · cases h; exact ⟨_, _, rfl, rfl⟩
  · cases h
theorem pI2_inv {f : Int32 → Int32 → Int32} {S T : List Value} (h : pI2 f S = some T) : ∃ x y U, S = .int y :: .int x :: U ∧ T = .int (f x y) :: U := by
  unfold pI2 at h
  split at h
  · cases h; exact ⟨_, _, _, rfl, rfl⟩
  · cases h
theorem pL2_inv {f : Int64 → Int64 → Int64} {S T : List Value} (h : pL2 f S = some T) : ∃ x y U, S = .long y :: .long x :: U ∧ T = .long (f x y) :: U := by
  unfold pL2 at h
  split at h
  · cases h; exact ⟨_, _, _, rfl, rfl⟩
  · cases h
theorem pEnt_a {w : pWD} {b base : Nat} {cid : Nat → ClassId} {a n : Nat} {ty : FieldType} (h : w.1[a]? = some (.inr (ty, n))) : ∃ x : vp_A, pEnt w b base cid a = .inl (cid a, x) ∧ x.1 = n := by
  unfold pEnt
  rw [h]
  cases ty <;> exact ⟨_, rfl, rfl⟩
theorem p_addr {D : va_G} {w : pWD} {b base q : Nat} {cid : Nat → ClassId} {e : va_E} {H1 : Heap} (hP : va_P D vwCl (pWs w b base cid ++ [(q, e)]) H1) (hD : va_D (fun q : Nat => base ≤ q) (pWs w b base cid ++ [(q, e)])) (hz : H1.size ≤ base + w.1.length + 1) : q = base + w.1.length := by
  have hat : (pWs w b base cid ++ [(q, e)])[w.1.length]? = some (q, e) := by
    rw [List.getElem?_append_right (by rw [pWs_len]; exact Nat.le_refl _), pWs_len, Nat.sub_self]
    rfl
  have h1 : base ≤ q := hD.2 _ _ hat
  have h2 : q < H1.size := (hP _ _ hat).lt
  rcases Nat.lt_or_ge q (base + w.1.length) with h3 | h3
  · have hj : q - base < w.1.length := by omega
    have hat2 : (pWs w b base cid ++ [(q, e)])[q - base]? = some (base + (q - base), pEnt w b base cid (q - base)) := by
      rw [List.getElem?_append_left (by rw [pWs_len]; exact hj)]
      exact pWs_at hj
    have := hD.1 _ _ _ _ hat2 hat (show base + (q - base) = q by omega)
    omega
  · omega
theorem pR_push {w : pWD} {r : List (Option Nat)} {x : pSC} {mi : Nat → Nat → Int32} {ml : Nat → Nat → Int64} (hl : w.2.1.length = w.1.length) {q : Nat} (hq : q < w.1.length) (j : Nat) : pR (w.1 ++ [x], w.2.1 ++ [r], mi, ml) q j = pR w q j := by
  unfold pR
  simp only [List.getD_eq_getElem?_getD]
  rw [List.getElem?_append_left (by omega)]
theorem pR_new {w : pWD} {r : List (Option Nat)} {x : pSC} {mi : Nat → Nat → Int32} {ml : Nat → Nat → Int64} (hl : w.2.1.length = w.1.length) (j : Nat) : pR (w.1 ++ [x], w.2.1 ++ [r], mi, ml) w.1.length j = r.getD j none := by
  unfold pR
  simp only [List.getD_eq_getElem?_getD]
  rw [List.getElem?_append_right (by omega), hl, Nat.sub_self]
  rfl
theorem pRel_new {D : va_G} {w : pWD} {b base : Nat} {cid cid' : Nat → ClassId} {s : State} {H H1 : Heap} {x : pSC} {r : List (Option Nat)} {e : va_E} (h : pRel D w b base cid s H) (hc : ∀ q, q < w.1.length → cid' q = cid q)
    (hK : ∃ tys, va_K D vwCl tys s ∧ ∀ (a : Nat) (ty : FieldType) (n : Nat), (w.1 ++ [x])[a]? = some (.inr (ty, n)) → (cid' a, ty) ∈ tys)
    (he : pEnt (w.1 ++ [x], w.2.1 ++ [r], clM w.2.2.1 w.1.length 0, clM w.2.2.2 w.1.length 0) b base cid' w.1.length = e) (hP : va_P D vwCl (pWs w b base cid ++ [(base + w.1.length, e)]) H1) : pRel D (w.1 ++ [x], w.2.1 ++ [r], clM w.2.2.1 w.1.length 0, clM w.2.2.2 w.1.length 0) b base cid' s H1 := by
  refine ⟨hK, ?_, ?_⟩
  · rw [pWs_push (w := w) (w' := (w.1 ++ [x], w.2.1 ++ [r], clM w.2.2.1 w.1.length 0, clM w.2.2.2 w.1.length 0)) (x := x) (cid := cid) rfl (fun q hq => pEnt_congr (List.getElem?_append_left hq) (clM_ne _ _ (by omega)) (clM_ne _ _ (by omega)) (fun j => pR_push h.2.2 hq j) (hc q hq)) he]
    exact hP
  · show (w.2.1 ++ [r]).length = (w.1 ++ [x]).length
    rw [List.length_append, List.length_append, h.2.2]
    rfl
theorem pNew_at {w : pWD} {x : pSC} : (w.1 ++ [x])[w.1.length]? = some x := by
  rw [List.getElem?_append_right (Nat.le_refl _), Nat.sub_self]
  rfl
theorem pNew_K {D : va_G} {w : pWD} {b base : Nat} {cid : Nat → ClassId} {s : State} {H : Heap} {cA : ClassId} {ty : FieldType} {n : Nat} {tys : List (ClassId × FieldType)} (ht : ∀ (a : Nat) (ty : FieldType) (n : Nat), w.1[a]? = some (.inr (ty, n)) → (cid a, ty) ∈ tys) (hK : va_K D vwCl (tys ++ [(cA, ty)]) s) :
    ∃ tys, va_K D vwCl tys s ∧ ∀ (a : Nat) (ty' : FieldType) (n' : Nat), (w.1 ++ [.inr (ty, n)])[a]? = some (.inr (ty', n')) → ((fun q => if q = w.1.length then cA else cid q) a, ty') ∈ tys := by
  refine ⟨_, hK, fun a ty' n' ha => ?_⟩
  rcases Nat.lt_or_ge a w.1.length with h1 | h1
  · rw [List.getElem?_append_left h1] at ha
    show ((if a = w.1.length then cA else cid a), ty') ∈ _
    rw [if_neg (by omega)]
    exact List.mem_append_left _ (ht a ty' n' ha)
  · have h2 : a = w.1.length := by
      have := (List.getElem?_eq_some_iff.mp ha).1
      rw [List.length_append] at this
      have h3 : a < w.1.length + 1 := this
      omega
    subst h2
    rw [pNew_at] at ha
    cases ha
    show ((if w.1.length = w.1.length then cA else cid _), ty) ∈ _
    rw [if_pos rfl]
    exact List.mem_append_right _ List.mem_cons_self
theorem pFv_new {w : pWD} {ci k x : Nat} (hl : w.2.1.length = w.1.length) (h8 : ci < 8) (hk : k < pN ci) (b base : Nat) : pVal b base (pFv (w.1 ++ [.inl x], w.2.1 ++ [List.replicate (pN ci) none], clM w.2.2.1 w.1.length 0, clM w.2.2.2 w.1.length 0) ci k w.1.length) = defaultValue (pTy ci k) := by
  rw [pDfA ci h8 k hk]
  unfold pFv
  have e : pR (w.1 ++ [.inl x], w.2.1 ++ [List.replicate (pN ci) none], clM w.2.2.1 w.1.length 0, clM w.2.2.2 w.1.length 0) w.1.length k = none := by
    rw [pR_new hl, List.getD_eq_getElem?_getD]
    rw [List.getElem?_replicate]
    split <;> rfl
  rw [e]
  simp only [clM_at]
  cases pTy ci k <;> rfl
section PST
variable {p : Program} {l : Launch} {e : Env} {R : Room} {s : State} {m : MethodId} {args : Array Value} {below : List Frame} {meth : Method} {c : Code} {H : Heap} {locs : List Loc} {cells slots : Nat} {Q : State → Prop}
variable {D : va_G} {b base k pc : Nat} {X : pSX} {cid : Nat → ClassId} {ls : Array Slot} {w : pWD}
theorem pW_size {g : JFrame} (kk : H.size ≤ s.heap.size + cells → s.heap.size ≤ H.size → W p l e R s m args below meth c H locs cells slots Q g) : W p l e R s m args below meth c H locs cells slots Q g := by
  intro T hT Z
  have h1 : T.heap.size ≤ s.heap.size + cells := Z.same.2.2.1
  have h2 : s.heap.size ≤ T.heap.size := Z.same.2.1
  rw [hT] at h1 h2
  exact kk h1 h2 T hT Z
theorem p_put {a ci y i : Nat} {v : Value} {rest : List Value} (C : pCx p R s m args meth c b base X k) (hw : w.1[a]? = some (.inl ci)) (h8 : ci < 8) (hy : y < pN ci) (hlk : pFL (pCi k, i, ci, y)) (hf : (pT ci y).2.2.2 = false ∨ (pKd k = 2 ∧ pCi k = ci)) (hn : narrow (pTy ci y) v = v) (hfit : fits (pTy ci y) v = true)
    (hd : decode (pB k) pc = .ok (.putfield i, 3)) (hRel : pRel D w b base cid s H) (hS : va_S (fun q : Nat => base ≤ q) s.heap H locs)
    (kk : ∀ (H1 : Heap) (locs1 : List Loc), va_P D vwCl ((pWs w b base cid).set a (base + a, .inr (ci, ((List.range (pN ci)).map (fun k => pVal b base (pFv w ci k a))).set y v))) H1 → va_S (fun q : Nat => base ≤ q) s.heap H1 locs1 → W p l e R s m args below meth c H1 locs1 cells slots Q (F0 m (pc + 3) ls rest)) :
    W p l e R s m args below meth c H locs cells slots Q (F0 m pc ls (v :: .ref (base + a) :: rest)) := by
  obtain ⟨hx, hb, hml, hown, hts, hini, hX, hbb, hbs, hRf, hRl, hAO⟩ := C
  obtain ⟨⟨tys, hK, ht⟩, hP, hl2⟩ := hRel
  have he : (pWs w b base cid)[a]? = some (base + a, .inr (ci, (List.range (pN ci)).map (fun k => pVal b base (pFv w ci k a)))) := by rw [pWs_at (pW_lt hw), pEnt_o hw]
  have hlen : y < ((List.range (pN ci)).map (fun k => pVal b base (pFv w ci k a))).length := by simpa using hy
  cases hfin : (pT ci y).2.2.2 with
  | false => exact va_put (D := D) hx hb hts (pUW ci h8) (pTy ci) (pTyA ci h8) (pNmA ci h8) hown hK hP (pWs_D w b base cid) hS a he (pClA ci h8) y hy (hts _ (pW_in hlk rfl)) (fun _ h9 => h9) hfin (pTyA ci h8 y hy) hn hfit hlen hd (fun H1 locs1 g1 _ g3 => kk H1 locs1 g1 g3)
  | true =>
    have hf := hf.resolve_left (by rw [hfin]; exact fun z => by cases z)
    have hdecl : (pT ci y).1 = pNm (pCi k) := by rw [hf.2]; exact pOwA ci h8 y hy
    exact va_putF (D := D) hx hb hts (pUW ci h8) (pTy ci) (pTyA ci h8) (pNmA ci h8) hown hK hP (pWs_D w b base cid) hS a he (pClA ci h8) y hy (hts _ (pW_in hlk rfl)) (fun _ h9 => h9) hfin (hini hf.1) hdecl (pTyA ci h8 y hy) hn hfit hlen hd (fun H1 locs1 g1 _ g3 => kk H1 locs1 g1 g3)
def pK (p : Program) (l : Launch) (e : Env) (R : Room) (s : State) (m : MethodId) (args : Array Value) (below : List Frame) (meth : Method) (c : Code) (slots : Nat) (Q : State → Prop) (D : va_G) (b base k : Nat) (w : pWD) (pc' : Nat) (L' : pLT) (S' : List Value) (w' : pWD) : Prop :=
  ∀ (H1 : Heap) (locs1 : List Loc) (ls1 : Array Slot) (cid1 : Nat → ClassId) (cells1 slots1 : Nat), pRel D w' b base cid1 s H1 → va_S (fun q : Nat => base ≤ q) s.heap H1 locs1 → pLs b base (pL k) ls1 L' → s.heap.size + cells1 = base + nC w' → slots1 + nS w = slots + nS w' →
    W p l e R s m args below meth c H1 locs1 cells1 slots1 Q (F0 m pc' ls1 (S'.map (pVal b base)))

theorem p_step_iconst {n : Int} {len x y : Nat} {sw : List (Nat × Nat)} {L : pLT} {S : List Value} {pc' : Nat} {L' : pLT} {S' : List Value} {w' : pWD} (C : pCx p R s m args meth c b base X k) (hd : decode (pB k) pc = .ok (.iconst n, len)) (hq : pChk2 k pc (.iconst n, len, x, y, sw) = true)
    (h : pStep X (.iconst n, len, x, y, sw) pc L S w = some (true, pc', L', S', w')) (hRel : pRel D w b base cid s H) (hS : va_S (fun q : Nat => base ≤ q) s.heap H locs) (hl : pLs b base (pL k) ls L) (hcnt : s.heap.size + cells = base + nC w) (hfc : cells + nC w' ≤ R.cells + nC w) (hfs : slots + nS w' ≤ R.slots + nS w)
    (kk : pK p l e R s m args below meth c slots Q D b base k w pc' L' S' w') : W p l e R s m args below meth c H locs cells slots Q (F0 m pc ls (S.map (pVal b base))) := by
  obtain ⟨hx, hb, hml, hown, hts, hini, hX, hbb, hbs, hRf, hRl, hAO⟩ := id C
  simp only [pChk2, Bool.and_eq_true, decide_eq_true_eq] at hq
  obtain ⟨h1, h2⟩ := hq
  have hlen := Nat.eq_of_beq_eq_true h2
  subst hlen
  simp only [pStep, Option.some.injEq, Prod.mk.injEq] at h
  obtain ⟨-, rfl, rfl, rfl, rfl⟩ := h
  exact lv_iconst hx hb hd h1 (kk H locs ls cid cells slots hRel hS hl hcnt rfl)

theorem p_step_bipush {n : Int} {len x y : Nat} {sw : List (Nat × Nat)} {L : pLT} {S : List Value} {pc' : Nat} {L' : pLT} {S' : List Value} {w' : pWD} (C : pCx p R s m args meth c b base X k) (hd : decode (pB k) pc = .ok (.bipush n, len)) (hq : pChk2 k pc (.bipush n, len, x, y, sw) = true)
    (h : pStep X (.bipush n, len, x, y, sw) pc L S w = some (true, pc', L', S', w')) (hRel : pRel D w b base cid s H) (hS : va_S (fun q : Nat => base ≤ q) s.heap H locs) (hl : pLs b base (pL k) ls L) (hcnt : s.heap.size + cells = base + nC w) (hfc : cells + nC w' ≤ R.cells + nC w) (hfs : slots + nS w' ≤ R.slots + nS w)
    (kk : pK p l e R s m args below meth c slots Q D b base k w pc' L' S' w') : W p l e R s m args below meth c H locs cells slots Q (F0 m pc ls (S.map (pVal b base))) := by
  obtain ⟨hx, hb, hml, hown, hts, hini, hX, hbb, hbs, hRf, hRl, hAO⟩ := id C
  simp only [pChk2, Bool.and_eq_true, decide_eq_true_eq] at hq
  obtain ⟨h1, h2⟩ := hq
  have hlen := Nat.eq_of_beq_eq_true h2
  subst hlen
  simp only [pStep, Option.some.injEq, Prod.mk.injEq] at h
  obtain ⟨-, rfl, rfl, rfl, rfl⟩ := h
  exact lv_bipush hx hb hd h1 (kk H locs ls cid cells slots hRel hS hl hcnt rfl)

theorem p_step_sipush {n : Int} {len x y : Nat} {sw : List (Nat × Nat)} {L : pLT} {S : List Value} {pc' : Nat} {L' : pLT} {S' : List Value} {w' : pWD} (C : pCx p R s m args meth c b base X k) (hd : decode (pB k) pc = .ok (.sipush n, len)) (hq : pChk2 k pc (.sipush n, len, x, y, sw) = true)
    (h : pStep X (.sipush n, len, x, y, sw) pc L S w = some (true, pc', L', S', w')) (hRel : pRel D w b base cid s H) (hS : va_S (fun q : Nat => base ≤ q) s.heap H locs) (hl : pLs b base (pL k) ls L) (hcnt : s.heap.size + cells = base + nC w) (hfc : cells + nC w' ≤ R.cells + nC w) (hfs : slots + nS w' ≤ R.slots + nS w)
    (kk : pK p l e R s m args below meth c slots Q D b base k w pc' L' S' w') : W p l e R s m args below meth c H locs cells slots Q (F0 m pc ls (S.map (pVal b base))) := by
  obtain ⟨hx, hb, hml, hown, hts, hini, hX, hbb, hbs, hRf, hRl, hAO⟩ := id C
  simp only [pChk2, Bool.and_eq_true, decide_eq_true_eq] at hq
  obtain ⟨h1, h2⟩ := hq
  have hlen := Nat.eq_of_beq_eq_true h2
  subst hlen
  simp only [pStep, Option.some.injEq, Prod.mk.injEq] at h
  obtain ⟨-, rfl, rfl, rfl, rfl⟩ := h
  exact lv_sipush hx hb hd h1 (kk H locs ls cid cells slots hRel hS hl hcnt rfl)

theorem p_step_lconst {n : Fin 2} {len x y : Nat} {sw : List (Nat × Nat)} {L : pLT} {S : List Value} {pc' : Nat} {L' : pLT} {S' : List Value} {w' : pWD} (C : pCx p R s m args meth c b base X k) (hd : decode (pB k) pc = .ok (.lconst n, len)) (hq : pChk2 k pc (.lconst n, len, x, y, sw) = true)
    (h : pStep X (.lconst n, len, x, y, sw) pc L S w = some (true, pc', L', S', w')) (hRel : pRel D w b base cid s H) (hS : va_S (fun q : Nat => base ≤ q) s.heap H locs) (hl : pLs b base (pL k) ls L) (hcnt : s.heap.size + cells = base + nC w) (hfc : cells + nC w' ≤ R.cells + nC w) (hfs : slots + nS w' ≤ R.slots + nS w)
    (kk : pK p l e R s m args below meth c slots Q D b base k w pc' L' S' w') : W p l e R s m args below meth c H locs cells slots Q (F0 m pc ls (S.map (pVal b base))) := by
  obtain ⟨hx, hb, hml, hown, hts, hini, hX, hbb, hbs, hRf, hRl, hAO⟩ := id C
  simp only [pChk2] at hq
  have hlen := Nat.eq_of_beq_eq_true hq
  subst hlen
  simp only [pStep, Option.some.injEq, Prod.mk.injEq] at h
  obtain ⟨-, rfl, rfl, rfl, rfl⟩ := h
  exact lv_lconst hx hb hd rfl (kk H locs ls cid cells slots hRel hS hl hcnt rfl)

theorem p_step_ldc {i : Nat} {len x y : Nat} {sw : List (Nat × Nat)} {L : pLT} {S : List Value} {pc' : Nat} {L' : pLT} {S' : List Value} {w' : pWD} (C : pCx p R s m args meth c b base X k) (hd : decode (pB k) pc = .ok (.ldc i, len)) (hq : pChk2 k pc (.ldc i, len, x, y, sw) = true)
    (h : pStep X (.ldc i, len, x, y, sw) pc L S w = some (true, pc', L', S', w')) (hRel : pRel D w b base cid s H) (hS : va_S (fun q : Nat => base ≤ q) s.heap H locs) (hl : pLs b base (pL k) ls L) (hcnt : s.heap.size + cells = base + nC w) (hfc : cells + nC w' ≤ R.cells + nC w) (hfs : slots + nS w' ≤ R.slots + nS w)
    (kk : pK p l e R s m args below meth c slots Q D b base k w pc' L' S' w') : W p l e R s m args below meth c H locs cells slots Q (F0 m pc ls (S.map (pVal b base))) := by
  obtain ⟨hx, hb, hml, hown, hts, hini, hX, hbb, hbs, hRf, hRl, hAO⟩ := id C
  simp only [pChk2, Bool.and_eq_true] at hq
  obtain ⟨h1, h2⟩ := hq
  have hlen := Nat.eq_of_beq_eq_true h2
  subst hlen
  simp only [pStep, Option.some.injEq, Prod.mk.injEq] at h
  obtain ⟨-, rfl, rfl, rfl, rfl⟩ := h
  exact lv_ldc hx hb hown (hts _ (pW_in (pCN_ok _ (List.contains_iff_mem.mp h1)) rfl)) hd (kk H locs ls cid cells slots hRel hS hl hcnt rfl)

theorem p_step_ldc2_w {i : Nat} {len x y : Nat} {sw : List (Nat × Nat)} {L : pLT} {S : List Value} {pc' : Nat} {L' : pLT} {S' : List Value} {w' : pWD} (C : pCx p R s m args meth c b base X k) (hd : decode (pB k) pc = .ok (.ldc2_w i, len)) (hq : pChk2 k pc (.ldc2_w i, len, x, y, sw) = true)
    (h : pStep X (.ldc2_w i, len, x, y, sw) pc L S w = some (true, pc', L', S', w')) (hRel : pRel D w b base cid s H) (hS : va_S (fun q : Nat => base ≤ q) s.heap H locs) (hl : pLs b base (pL k) ls L) (hcnt : s.heap.size + cells = base + nC w) (hfc : cells + nC w' ≤ R.cells + nC w) (hfs : slots + nS w' ≤ R.slots + nS w)
    (kk : pK p l e R s m args below meth c slots Q D b base k w pc' L' S' w') : W p l e R s m args below meth c H locs cells slots Q (F0 m pc ls (S.map (pVal b base))) := by
  obtain ⟨hx, hb, hml, hown, hts, hini, hX, hbb, hbs, hRf, hRl, hAO⟩ := id C
  simp only [pChk2, Bool.and_eq_true] at hq
  obtain ⟨h1, h2⟩ := hq
  have hlen := Nat.eq_of_beq_eq_true h2
  subst hlen
  simp only [pStep, Option.some.injEq, Prod.mk.injEq] at h
  obtain ⟨-, rfl, rfl, rfl, rfl⟩ := h
  exact lv_ldc2 hx hb hown (hts _ (pW_in (pCJ_ok _ (List.contains_iff_mem.mp h1)) rfl)) hd (kk H locs ls cid cells slots hRel hS hl hcnt rfl)

theorem p_step_aconst_null {len x y : Nat} {sw : List (Nat × Nat)} {L : pLT} {S : List Value} {pc' : Nat} {L' : pLT} {S' : List Value} {w' : pWD} (C : pCx p R s m args meth c b base X k) (hd : decode (pB k) pc = .ok (.aconst_null, len)) (hq : pChk2 k pc (.aconst_null, len, x, y, sw) = true)
    (h : pStep X (.aconst_null, len, x, y, sw) pc L S w = some (true, pc', L', S', w')) (hRel : pRel D w b base cid s H) (hS : va_S (fun q : Nat => base ≤ q) s.heap H locs) (hl : pLs b base (pL k) ls L) (hcnt : s.heap.size + cells = base + nC w) (hfc : cells + nC w' ≤ R.cells + nC w) (hfs : slots + nS w' ≤ R.slots + nS w)
    (kk : pK p l e R s m args below meth c slots Q D b base k w pc' L' S' w') : W p l e R s m args below meth c H locs cells slots Q (F0 m pc ls (S.map (pVal b base))) := by
  obtain ⟨hx, hb, hml, hown, hts, hini, hX, hbb, hbs, hRf, hRl, hAO⟩ := id C
  simp only [pChk2] at hq
  have hlen := Nat.eq_of_beq_eq_true hq
  subst hlen
  simp only [pStep, Option.some.injEq, Prod.mk.injEq] at h
  obtain ⟨-, rfl, rfl, rfl, rfl⟩ := h
  exact lv_null hx hb hd (kk H locs ls cid cells slots hRel hS hl hcnt rfl)

theorem p_step_iload {i : Nat} {len x y : Nat} {sw : List (Nat × Nat)} {L : pLT} {S : List Value} {pc' : Nat} {L' : pLT} {S' : List Value} {w' : pWD} (C : pCx p R s m args meth c b base X k) (hd : decode (pB k) pc = .ok (.iload i, len)) (hq : pChk2 k pc (.iload i, len, x, y, sw) = true)
    (h : pStep X (.iload i, len, x, y, sw) pc L S w = some (true, pc', L', S', w')) (hRel : pRel D w b base cid s H) (hS : va_S (fun q : Nat => base ≤ q) s.heap H locs) (hl : pLs b base (pL k) ls L) (hcnt : s.heap.size + cells = base + nC w) (hfc : cells + nC w' ≤ R.cells + nC w) (hfs : slots + nS w' ≤ R.slots + nS w)
    (kk : pK p l e R s m args below meth c slots Q D b base k w pc' L' S' w') : W p l e R s m args below meth c H locs cells slots Q (F0 m pc ls (S.map (pVal b base))) := by
  obtain ⟨hx, hb, hml, hown, hts, hini, hX, hbb, hbs, hRf, hRl, hAO⟩ := id C
  simp only [pChk2] at hq
  have hlen := Nat.eq_of_beq_eq_true hq
  subst hlen
  simp only [pStep, Option.map_eq_some_iff] at h
  obtain ⟨v, hv, he⟩ := h
  simp only [Prod.mk.injEq] at he
  obtain ⟨-, rfl, rfl, rfl, rfl⟩ := he
  obtain ⟨z, hz, rfl⟩ := pLdI_inv hv
  exact lv_iload hx hb hd (pLs_at hl hz) (kk H locs ls cid cells slots hRel hS hl hcnt rfl)

theorem p_step_iload_n {i : Fin 4} {len x y : Nat} {sw : List (Nat × Nat)} {L : pLT} {S : List Value} {pc' : Nat} {L' : pLT} {S' : List Value} {w' : pWD} (C : pCx p R s m args meth c b base X k) (hd : decode (pB k) pc = .ok (.iload_n i, len)) (hq : pChk2 k pc (.iload_n i, len, x, y, sw) = true)
    (h : pStep X (.iload_n i, len, x, y, sw) pc L S w = some (true, pc', L', S', w')) (hRel : pRel D w b base cid s H) (hS : va_S (fun q : Nat => base ≤ q) s.heap H locs) (hl : pLs b base (pL k) ls L) (hcnt : s.heap.size + cells = base + nC w) (hfc : cells + nC w' ≤ R.cells + nC w) (hfs : slots + nS w' ≤ R.slots + nS w)
    (kk : pK p l e R s m args below meth c slots Q D b base k w pc' L' S' w') : W p l e R s m args below meth c H locs cells slots Q (F0 m pc ls (S.map (pVal b base))) := by
  obtain ⟨hx, hb, hml, hown, hts, hini, hX, hbb, hbs, hRf, hRl, hAO⟩ := id C
  simp only [pChk2] at hq
  have hlen := Nat.eq_of_beq_eq_true hq
  subst hlen
  simp only [pStep, Option.map_eq_some_iff] at h
  obtain ⟨v, hv, he⟩ := h
  simp only [Prod.mk.injEq] at he
  obtain ⟨-, rfl, rfl, rfl, rfl⟩ := he
  obtain ⟨z, hz, rfl⟩ := pLdI_inv hv
  exact lv_iload_n hx hb hd rfl (pLs_at hl hz) (kk H locs ls cid cells slots hRel hS hl hcnt rfl)

theorem p_step_lload {i : Nat} {len x y : Nat} {sw : List (Nat × Nat)} {L : pLT} {S : List Value} {pc' : Nat} {L' : pLT} {S' : List Value} {w' : pWD} (C : pCx p R s m args meth c b base X k) (hd : decode (pB k) pc = .ok (.lload i, len)) (hq : pChk2 k pc (.lload i, len, x, y, sw) = true)
    (h : pStep X (.lload i, len, x, y, sw) pc L S w = some (true, pc', L', S', w')) (hRel : pRel D w b base cid s H) (hS : va_S (fun q : Nat => base ≤ q) s.heap H locs) (hl : pLs b base (pL k) ls L) (hcnt : s.heap.size + cells = base + nC w) (hfc : cells + nC w' ≤ R.cells + nC w) (hfs : slots + nS w' ≤ R.slots + nS w)
    (kk : pK p l e R s m args below meth c slots Q D b base k w pc' L' S' w') : W p l e R s m args below meth c H locs cells slots Q (F0 m pc ls (S.map (pVal b base))) := by
  obtain ⟨hx, hb, hml, hown, hts, hini, hX, hbb, hbs, hRf, hRl, hAO⟩ := id C
  simp only [pChk2] at hq
  have hlen := Nat.eq_of_beq_eq_true hq
  subst hlen
  simp only [pStep, Option.map_eq_some_iff] at h
  obtain ⟨v, hv, he⟩ := h
  simp only [Prod.mk.injEq] at he
  obtain ⟨-, rfl, rfl, rfl, rfl⟩ := he
  obtain ⟨z, hz, rfl⟩ := pLdL_inv hv
  exact lv_lload hx hb hd (pLs_at hl hz) (kk H locs ls cid cells slots hRel hS hl hcnt rfl)

theorem p_step_lload_n {i : Fin 4} {len x y : Nat} {sw : List (Nat × Nat)} {L : pLT} {S : List Value} {pc' : Nat} {L' : pLT} {S' : List Value} {w' : pWD} (C : pCx p R s m args meth c b base X k) (hd : decode (pB k) pc = .ok (.lload_n i, len)) (hq : pChk2 k pc (.lload_n i, len, x, y, sw) = true)
    (h : pStep X (.lload_n i, len, x, y, sw) pc L S w = some (true, pc', L', S', w')) (hRel : pRel D w b base cid s H) (hS : va_S (fun q : Nat => base ≤ q) s.heap H locs) (hl : pLs b base (pL k) ls L) (hcnt : s.heap.size + cells = base + nC w) (hfc : cells + nC w' ≤ R.cells + nC w) (hfs : slots + nS w' ≤ R.slots + nS w)
    (kk : pK p l e R s m args below meth c slots Q D b base k w pc' L' S' w') : W p l e R s m args below meth c H locs cells slots Q (F0 m pc ls (S.map (pVal b base))) := by
  obtain ⟨hx, hb, hml, hown, hts, hini, hX, hbb, hbs, hRf, hRl, hAO⟩ := id C
  simp only [pChk2] at hq
  have hlen := Nat.eq_of_beq_eq_true hq
  subst hlen
  simp only [pStep, Option.map_eq_some_iff] at h
  obtain ⟨v, hv, he⟩ := h
  simp only [Prod.mk.injEq] at he
  obtain ⟨-, rfl, rfl, rfl, rfl⟩ := he
  obtain ⟨z, hz, rfl⟩ := pLdL_inv hv
  exact lv_lload_n hx hb hd rfl (pLs_at hl hz) (kk H locs ls cid cells slots hRel hS hl hcnt rfl)

theorem p_step_aload {i : Nat} {len x y : Nat} {sw : List (Nat × Nat)} {L : pLT} {S : List Value} {pc' : Nat} {L' : pLT} {S' : List Value} {w' : pWD} (C : pCx p R s m args meth c b base X k) (hd : decode (pB k) pc = .ok (.aload i, len)) (hq : pChk2 k pc (.aload i, len, x, y, sw) = true)
    (h : pStep X (.aload i, len, x, y, sw) pc L S w = some (true, pc', L', S', w')) (hRel : pRel D w b base cid s H) (hS : va_S (fun q : Nat => base ≤ q) s.heap H locs) (hl : pLs b base (pL k) ls L) (hcnt : s.heap.size + cells = base + nC w) (hfc : cells + nC w' ≤ R.cells + nC w) (hfs : slots + nS w' ≤ R.slots + nS w)
    (kk : pK p l e R s m args below meth c slots Q D b base k w pc' L' S' w') : W p l e R s m args below meth c H locs cells slots Q (F0 m pc ls (S.map (pVal b base))) := by
  obtain ⟨hx, hb, hml, hown, hts, hini, hX, hbb, hbs, hRf, hRl, hAO⟩ := id C
  simp only [pChk2] at hq
  have hlen := Nat.eq_of_beq_eq_true hq
  subst hlen
  simp only [pStep, Option.map_eq_some_iff] at h
  obtain ⟨v, hv, he⟩ := h
  simp only [Prod.mk.injEq] at he
  obtain ⟨-, rfl, rfl, rfl, rfl⟩ := he
  rcases pLdA_inv hv with ⟨z, hz, rfl⟩ | ⟨hz, rfl⟩ | ⟨z, hz, rfl⟩
  · exact lv_aload hx hb hd (pLs_at hl hz) (kk H locs ls cid cells slots hRel hS hl hcnt rfl)
  · exact lv_aloadN hx hb hd (pLs_at hl hz) (kk H locs ls cid cells slots hRel hS hl hcnt rfl)
  · exact lv_aload hx hb hd (pLs_at hl hz) (kk H locs ls cid cells slots hRel hS hl hcnt rfl)

theorem p_step_aload_n {i : Fin 4} {len x y : Nat} {sw : List (Nat × Nat)} {L : pLT} {S : List Value} {pc' : Nat} {L' : pLT} {S' : List Value} {w' : pWD} (C : pCx p R s m args meth c b base X k) (hd : decode (pB k) pc = .ok (.aload_n i, len)) (hq : pChk2 k pc (.aload_n i, len, x, y, sw) = true)
    (h : pStep X (.aload_n i, len, x, y, sw) pc L S w = some (true, pc', L', S', w')) (hRel : pRel D w b base cid s H) (hS : va_S (fun q : Nat => base ≤ q) s.heap H locs) (hl : pLs b base (pL k) ls L) (hcnt : s.heap.size + cells = base + nC w) (hfc : cells + nC w' ≤ R.cells + nC w) (hfs : slots + nS w' ≤ R.slots + nS w)
    (kk : pK p l e R s m args below meth c slots Q D b base k w pc' L' S' w') : W p l e R s m args below meth c H locs cells slots Q (F0 m pc ls (S.map (pVal b base))) := by
  obtain ⟨hx, hb, hml, hown, hts, hini, hX, hbb, hbs, hRf, hRl, hAO⟩ := id C
  simp only [pChk2] at hq
  have hlen := Nat.eq_of_beq_eq_true hq
  subst hlen
  simp only [pStep, Option.map_eq_some_iff] at h
  obtain ⟨v, hv, he⟩ := h
  simp only [Prod.mk.injEq] at he
  obtain ⟨-, rfl, rfl, rfl, rfl⟩ := he
  rcases pLdA_inv hv with ⟨z, hz, rfl⟩ | ⟨hz, rfl⟩ | ⟨z, hz, rfl⟩
  · exact lv_aload_n hx hb hd rfl (pLs_at hl hz) (kk H locs ls cid cells slots hRel hS hl hcnt rfl)
  · exact lv_aload_nN hx hb hd rfl (pLs_at hl hz) (kk H locs ls cid cells slots hRel hS hl hcnt rfl)
  · exact lv_aload_n hx hb hd rfl (pLs_at hl hz) (kk H locs ls cid cells slots hRel hS hl hcnt rfl)

theorem p_step_istore {i : Nat} {len x y : Nat} {sw : List (Nat × Nat)} {L : pLT} {S : List Value} {pc' : Nat} {L' : pLT} {S' : List Value} {w' : pWD} (C : pCx p R s m args meth c b base X k) (hd : decode (pB k) pc = .ok (.istore i, len)) (hq : pChk2 k pc (.istore i, len, x, y, sw) = true)
    (h : pStep X (.istore i, len, x, y, sw) pc L S w = some (true, pc', L', S', w')) (hRel : pRel D w b base cid s H) (hS : va_S (fun q : Nat => base ≤ q) s.heap H locs) (hl : pLs b base (pL k) ls L) (hcnt : s.heap.size + cells = base + nC w) (hfc : cells + nC w' ≤ R.cells + nC w) (hfs : slots + nS w' ≤ R.slots + nS w)
    (kk : pK p l e R s m args below meth c slots Q D b base k w pc' L' S' w') : W p l e R s m args below meth c H locs cells slots Q (F0 m pc ls (S.map (pVal b base))) := by
  obtain ⟨hx, hb, hml, hown, hts, hini, hX, hbb, hbs, hRf, hRl, hAO⟩ := id C
  simp only [pChk2, Bool.and_eq_true] at hq
  obtain ⟨h1, h2⟩ := hq
  have h1 := Nat.le_of_ble_eq_true h1
  have hlen := Nat.eq_of_beq_eq_true h2
  subst hlen
  cases S with
  | nil => simp [pStep] at h
  | cons v T =>
    cases v <;> simp only [pStep, Option.some.injEq, Prod.mk.injEq, reduceCtorEq] at h
    obtain ⟨-, rfl, rfl, rfl, rfl⟩ := h
    obtain ⟨lv, g1, g2⟩ := hl
    exact lv_istore hx hb hd g1 h1 rfl (fun ls1 g3 => kk H locs ls1 cid cells slots hRel hS (pLs_st1 g2 g3) hcnt rfl)

theorem p_step_istore_n {i : Fin 4} {len x y : Nat} {sw : List (Nat × Nat)} {L : pLT} {S : List Value} {pc' : Nat} {L' : pLT} {S' : List Value} {w' : pWD} (C : pCx p R s m args meth c b base X k) (hd : decode (pB k) pc = .ok (.istore_n i, len)) (hq : pChk2 k pc (.istore_n i, len, x, y, sw) = true)
    (h : pStep X (.istore_n i, len, x, y, sw) pc L S w = some (true, pc', L', S', w')) (hRel : pRel D w b base cid s H) (hS : va_S (fun q : Nat => base ≤ q) s.heap H locs) (hl : pLs b base (pL k) ls L) (hcnt : s.heap.size + cells = base + nC w) (hfc : cells + nC w' ≤ R.cells + nC w) (hfs : slots + nS w' ≤ R.slots + nS w)
    (kk : pK p l e R s m args below meth c slots Q D b base k w pc' L' S' w') : W p l e R s m args below meth c H locs cells slots Q (F0 m pc ls (S.map (pVal b base))) := by
  obtain ⟨hx, hb, hml, hown, hts, hini, hX, hbb, hbs, hRf, hRl, hAO⟩ := id C
  simp only [pChk2, Bool.and_eq_true] at hq
  obtain ⟨h1, h2⟩ := hq
  have h1 := Nat.le_of_ble_eq_true h1
  have hlen := Nat.eq_of_beq_eq_true h2
  subst hlen
  cases S with
  | nil => simp [pStep] at h
  | cons v T =>
    cases v <;> simp only [pStep, Option.some.injEq, Prod.mk.injEq, reduceCtorEq] at h
    obtain ⟨-, rfl, rfl, rfl, rfl⟩ := h
    obtain ⟨lv, g1, g2⟩ := hl
    exact lv_istore_n hx hb hd rfl g1 h1 rfl (fun ls1 g3 => kk H locs ls1 cid cells slots hRel hS (pLs_st1 g2 g3) hcnt rfl)

theorem p_step_lstore {i : Nat} {len x y : Nat} {sw : List (Nat × Nat)} {L : pLT} {S : List Value} {pc' : Nat} {L' : pLT} {S' : List Value} {w' : pWD} (C : pCx p R s m args meth c b base X k) (hd : decode (pB k) pc = .ok (.lstore i, len)) (hq : pChk2 k pc (.lstore i, len, x, y, sw) = true)
    (h : pStep X (.lstore i, len, x, y, sw) pc L S w = some (true, pc', L', S', w')) (hRel : pRel D w b base cid s H) (hS : va_S (fun q : Nat => base ≤ q) s.heap H locs) (hl : pLs b base (pL k) ls L) (hcnt : s.heap.size + cells = base + nC w) (hfc : cells + nC w' ≤ R.cells + nC w) (hfs : slots + nS w' ≤ R.slots + nS w)
    (kk : pK p l e R s m args below meth c slots Q D b base k w pc' L' S' w') : W p l e R s m args below meth c H locs cells slots Q (F0 m pc ls (S.map (pVal b base))) := by
  obtain ⟨hx, hb, hml, hown, hts, hini, hX, hbb, hbs, hRf, hRl, hAO⟩ := id C
  simp only [pChk2, Bool.and_eq_true] at hq
  obtain ⟨h1, h2⟩ := hq
  have h1 := Nat.le_of_ble_eq_true h1
  have hlen := Nat.eq_of_beq_eq_true h2
  subst hlen
  cases S with
  | nil => simp [pStep] at h
  | cons v T =>
    cases v <;> simp only [pStep, Option.some.injEq, Prod.mk.injEq, reduceCtorEq] at h
    obtain ⟨-, rfl, rfl, rfl, rfl⟩ := h
    obtain ⟨lv, g1, g2⟩ := hl
    exact lv_lstore hx hb hd g1 h1 rfl (fun ls1 g3 => kk H locs ls1 cid cells slots hRel hS (pLs_st2 g2 g3) hcnt rfl)

theorem p_step_lstore_n {i : Fin 4} {len x y : Nat} {sw : List (Nat × Nat)} {L : pLT} {S : List Value} {pc' : Nat} {L' : pLT} {S' : List Value} {w' : pWD} (C : pCx p R s m args meth c b base X k) (hd : decode (pB k) pc = .ok (.lstore_n i, len)) (hq : pChk2 k pc (.lstore_n i, len, x, y, sw) = true)
    (h : pStep X (.lstore_n i, len, x, y, sw) pc L S w = some (true, pc', L', S', w')) (hRel : pRel D w b base cid s H) (hS : va_S (fun q : Nat => base ≤ q) s.heap H locs) (hl : pLs b base (pL k) ls L) (hcnt : s.heap.size + cells = base + nC w) (hfc : cells + nC w' ≤ R.cells + nC w) (hfs : slots + nS w' ≤ R.slots + nS w)
    (kk : pK p l e R s m args below meth c slots Q D b base k w pc' L' S' w') : W p l e R s m args below meth c H locs cells slots Q (F0 m pc ls (S.map (pVal b base))) := by
  obtain ⟨hx, hb, hml, hown, hts, hini, hX, hbb, hbs, hRf, hRl, hAO⟩ := id C
  simp only [pChk2, Bool.and_eq_true] at hq
  obtain ⟨h1, h2⟩ := hq
  have h1 := Nat.le_of_ble_eq_true h1
  have hlen := Nat.eq_of_beq_eq_true h2
  subst hlen
  cases S with
  | nil => simp [pStep] at h
  | cons v T =>
    cases v <;> simp only [pStep, Option.some.injEq, Prod.mk.injEq, reduceCtorEq] at h
    obtain ⟨-, rfl, rfl, rfl, rfl⟩ := h
    obtain ⟨lv, g1, g2⟩ := hl
    exact lv_lstore_n hx hb hd rfl g1 h1 rfl (fun ls1 g3 => kk H locs ls1 cid cells slots hRel hS (pLs_st2 g2 g3) hcnt rfl)

theorem p_step_astore {i : Nat} {len x y : Nat} {sw : List (Nat × Nat)} {L : pLT} {S : List Value} {pc' : Nat} {L' : pLT} {S' : List Value} {w' : pWD} (C : pCx p R s m args meth c b base X k) (hd : decode (pB k) pc = .ok (.astore i, len)) (hq : pChk2 k pc (.astore i, len, x, y, sw) = true)
    (h : pStep X (.astore i, len, x, y, sw) pc L S w = some (true, pc', L', S', w')) (hRel : pRel D w b base cid s H) (hS : va_S (fun q : Nat => base ≤ q) s.heap H locs) (hl : pLs b base (pL k) ls L) (hcnt : s.heap.size + cells = base + nC w) (hfc : cells + nC w' ≤ R.cells + nC w) (hfs : slots + nS w' ≤ R.slots + nS w)
    (kk : pK p l e R s m args below meth c slots Q D b base k w pc' L' S' w') : W p l e R s m args below meth c H locs cells slots Q (F0 m pc ls (S.map (pVal b base))) := by
  obtain ⟨hx, hb, hml, hown, hts, hini, hX, hbb, hbs, hRf, hRl, hAO⟩ := id C
  simp only [pChk2, Bool.and_eq_true] at hq
  obtain ⟨h1, h2⟩ := hq
  have h1 := Nat.le_of_ble_eq_true h1
  have hlen := Nat.eq_of_beq_eq_true h2
  subst hlen
  cases S with
  | nil => simp [pStep] at h
  | cons v T =>
    obtain ⟨lv, g1, g2⟩ := hl
    cases v with
    | ref z =>
      simp only [pStep, Option.some.injEq, Prod.mk.injEq] at h
      obtain ⟨-, rfl, rfl, rfl, rfl⟩ := h
      exact lv_astore hx hb hd g1 h1 rfl (fun ls1 g3 => kk H locs ls1 cid cells slots hRel hS (pLs_st1 g2 g3) hcnt rfl)
    | null =>
      simp only [pStep, Option.some.injEq, Prod.mk.injEq] at h
      obtain ⟨-, rfl, rfl, rfl, rfl⟩ := h
      exact lv_astoreN hx hb hd g1 h1 rfl (fun ls1 g3 => kk H locs ls1 cid cells slots hRel hS (pLs_st1 g2 g3) hcnt rfl)
    | _ => simp [pStep] at h

theorem p_step_astore_n {i : Fin 4} {len x y : Nat} {sw : List (Nat × Nat)} {L : pLT} {S : List Value} {pc' : Nat} {L' : pLT} {S' : List Value} {w' : pWD} (C : pCx p R s m args meth c b base X k) (hd : decode (pB k) pc = .ok (.astore_n i, len)) (hq : pChk2 k pc (.astore_n i, len, x, y, sw) = true)
    (h : pStep X (.astore_n i, len, x, y, sw) pc L S w = some (true, pc', L', S', w')) (hRel : pRel D w b base cid s H) (hS : va_S (fun q : Nat => base ≤ q) s.heap H locs) (hl : pLs b base (pL k) ls L) (hcnt : s.heap.size + cells = base + nC w) (hfc : cells + nC w' ≤ R.cells + nC w) (hfs : slots + nS w' ≤ R.slots + nS w)
    (kk : pK p l e R s m args below meth c slots Q D b base k w pc' L' S' w') : W p l e R s m args below meth c H locs cells slots Q (F0 m pc ls (S.map (pVal b base))) := by
  obtain ⟨hx, hb, hml, hown, hts, hini, hX, hbb, hbs, hRf, hRl, hAO⟩ := id C
  simp only [pChk2, Bool.and_eq_true] at hq
  obtain ⟨h1, h2⟩ := hq
  have h1 := Nat.le_of_ble_eq_true h1
  have hlen := Nat.eq_of_beq_eq_true h2
  subst hlen
  cases S with
  | nil => simp [pStep] at h
  | cons v T =>
    obtain ⟨lv, g1, g2⟩ := hl
    cases v with
    | ref z =>
      simp only [pStep, Option.some.injEq, Prod.mk.injEq] at h
      obtain ⟨-, rfl, rfl, rfl, rfl⟩ := h
      exact lv_astore_n hx hb hd rfl g1 h1 rfl (fun ls1 g3 => kk H locs ls1 cid cells slots hRel hS (pLs_st1 g2 g3) hcnt rfl)
    | null =>
      simp only [pStep, Option.some.injEq, Prod.mk.injEq] at h
      obtain ⟨-, rfl, rfl, rfl, rfl⟩ := h
      exact lv_astore_nN hx hb hd rfl g1 h1 rfl (fun ls1 g3 => kk H locs ls1 cid cells slots hRel hS (pLs_st1 g2 g3) hcnt rfl)
    | _ => simp [pStep] at h

theorem p_step_iinc {i : Nat} {n : Int} {len x y : Nat} {sw : List (Nat × Nat)} {L : pLT} {S : List Value} {pc' : Nat} {L' : pLT} {S' : List Value} {w' : pWD} (C : pCx p R s m args meth c b base X k) (hd : decode (pB k) pc = .ok (.iinc i n, len)) (hq : pChk2 k pc (.iinc i n, len, x, y, sw) = true)
    (h : pStep X (.iinc i n, len, x, y, sw) pc L S w = some (true, pc', L', S', w')) (hRel : pRel D w b base cid s H) (hS : va_S (fun q : Nat => base ≤ q) s.heap H locs) (hl : pLs b base (pL k) ls L) (hcnt : s.heap.size + cells = base + nC w) (hfc : cells + nC w' ≤ R.cells + nC w) (hfs : slots + nS w' ≤ R.slots + nS w)
    (kk : pK p l e R s m args below meth c slots Q D b base k w pc' L' S' w') : W p l e R s m args below meth c H locs cells slots Q (F0 m pc ls (S.map (pVal b base))) := by
  obtain ⟨hx, hb, hml, hown, hts, hini, hX, hbb, hbs, hRf, hRl, hAO⟩ := id C
  simp only [pChk2, Bool.and_eq_true, decide_eq_true_eq] at hq
  obtain ⟨h1, h2, h3⟩ := hq
  have h1 := Nat.le_of_ble_eq_true h1
  have hlen := Nat.eq_of_beq_eq_true h3
  subst hlen
  cases hz : L.getD i none with
  | none => simp only [pStep, hz, reduceCtorEq] at h
  | some v =>
    cases v <;> simp only [pStep, hz, Option.some.injEq, Prod.mk.injEq, reduceCtorEq] at h
    obtain ⟨-, rfl, rfl, rfl, rfl⟩ := h
    obtain ⟨lv, g1, g2⟩ := hl
    obtain ⟨j, hj⟩ := List.getElem?_of_mem (g2 i _ (pGetD hz))
    exact lv_iinc hx hb hd g1 hj (by rw [h2]) h1 rfl (fun ls1 g3 => kk H locs ls1 cid cells slots hRel hS (pLs_st1 g2 g3) hcnt rfl)

theorem p_step_iadd {len x y : Nat} {sw : List (Nat × Nat)} {L : pLT} {S : List Value} {pc' : Nat} {L' : pLT} {S' : List Value} {w' : pWD} (C : pCx p R s m args meth c b base X k) (hd : decode (pB k) pc = .ok (.iadd, len)) (hq : pChk2 k pc (.iadd, len, x, y, sw) = true)
    (h : pStep X (.iadd, len, x, y, sw) pc L S w = some (true, pc', L', S', w')) (hRel : pRel D w b base cid s H) (hS : va_S (fun q : Nat => base ≤ q) s.heap H locs) (hl : pLs b base (pL k) ls L) (hcnt : s.heap.size + cells = base + nC w) (hfc : cells + nC w' ≤ R.cells + nC w) (hfs : slots + nS w' ≤ R.slots + nS w)
    (kk : pK p l e R s m args below meth c slots Q D b base k w pc' L' S' w') : W p l e R s m args below meth c H locs cells slots Q (F0 m pc ls (S.map (pVal b base))) := by
  obtain ⟨hx, hb, hml, hown, hts, hini, hX, hbb, hbs, hRf, hRl, hAO⟩ := id C
  simp only [pChk2] at hq
  have hlen := Nat.eq_of_beq_eq_true hq
  subst hlen
  simp only [pStep, Option.map_eq_some_iff] at h
  obtain ⟨v, hv, he⟩ := h
  simp only [Prod.mk.injEq] at he
  obtain ⟨-, rfl, rfl, rfl, rfl⟩ := he
  obtain ⟨x1, x2, U, rfl, rfl⟩ := pI2_inv hv
  exact lv_iadd hx hb hd (kk H locs ls cid cells slots hRel hS hl hcnt rfl)

theorem p_step_isub {len x y : Nat} {sw : List (Nat × Nat)} {L : pLT} {S : List Value} {pc' : Nat} {L' : pLT} {S' : List Value} {w' : pWD} (C : pCx p R s m args meth c b base X k) (hd : decode (pB k) pc = .ok (.isub, len)) (hq : pChk2 k pc (.isub, len, x, y, sw) = true)
    (h : pStep X (.isub, len, x, y, sw) pc L S w = some (true, pc', L', S', w')) (hRel : pRel D w b base cid s H) (hS : va_S (fun q : Nat => base ≤ q) s.heap H locs) (hl : pLs b base (pL k) ls L) (hcnt : s.heap.size + cells = base + nC w) (hfc : cells + nC w' ≤ R.cells + nC w) (hfs : slots + nS w' ≤ R.slots + nS w)
    (kk : pK p l e R s m args below meth c slots Q D b base k w pc' L' S' w') : W p l e R s m args below meth c H locs cells slots Q (F0 m pc ls (S.map (pVal b base))) := by
  obtain ⟨hx, hb, hml, hown, hts, hini, hX, hbb, hbs, hRf, hRl, hAO⟩ := id C
  simp only [pChk2] at hq
  have hlen := Nat.eq_of_beq_eq_true hq
  subst hlen
  simp only [pStep, Option.map_eq_some_iff] at h
  obtain ⟨v, hv, he⟩ := h
  simp only [Prod.mk.injEq] at he
  obtain ⟨-, rfl, rfl, rfl, rfl⟩ := he
  obtain ⟨x1, x2, U, rfl, rfl⟩ := pI2_inv hv
  exact lv_isub hx hb hd (kk H locs ls cid cells slots hRel hS hl hcnt rfl)

theorem p_step_imul {len x y : Nat} {sw : List (Nat × Nat)} {L : pLT} {S : List Value} {pc' : Nat} {L' : pLT} {S' : List Value} {w' : pWD} (C : pCx p R s m args meth c b base X k) (hd : decode (pB k) pc = .ok (.imul, len)) (hq : pChk2 k pc (.imul, len, x, y, sw) = true)
    (h : pStep X (.imul, len, x, y, sw) pc L S w = some (true, pc', L', S', w')) (hRel : pRel D w b base cid s H) (hS : va_S (fun q : Nat => base ≤ q) s.heap H locs) (hl : pLs b base (pL k) ls L) (hcnt : s.heap.size + cells = base + nC w) (hfc : cells + nC w' ≤ R.cells + nC w) (hfs : slots + nS w' ≤ R.slots + nS w)
    (kk : pK p l e R s m args below meth c slots Q D b base k w pc' L' S' w') : W p l e R s m args below meth c H locs cells slots Q (F0 m pc ls (S.map (pVal b base))) := by
  obtain ⟨hx, hb, hml, hown, hts, hini, hX, hbb, hbs, hRf, hRl, hAO⟩ := id C
  simp only [pChk2] at hq
  have hlen := Nat.eq_of_beq_eq_true hq
  subst hlen
  simp only [pStep, Option.map_eq_some_iff] at h
  obtain ⟨v, hv, he⟩ := h
  simp only [Prod.mk.injEq] at he
  obtain ⟨-, rfl, rfl, rfl, rfl⟩ := he
  obtain ⟨x1, x2, U, rfl, rfl⟩ := pI2_inv hv
  exact lv_imul hx hb hd (kk H locs ls cid cells slots hRel hS hl hcnt rfl)

theorem p_step_iand {len x y : Nat} {sw : List (Nat × Nat)} {L : pLT} {S : List Value} {pc' : Nat} {L' : pLT} {S' : List Value} {w' : pWD} (C : pCx p R s m args meth c b base X k) (hd : decode (pB k) pc = .ok (.iand, len)) (hq : pChk2 k pc (.iand, len, x, y, sw) = true)
    (h : pStep X (.iand, len, x, y, sw) pc L S w = some (true, pc', L', S', w')) (hRel : pRel D w b base cid s H) (hS : va_S (fun q : Nat => base ≤ q) s.heap H locs) (hl : pLs b base (pL k) ls L) (hcnt : s.heap.size + cells = base + nC w) (hfc : cells + nC w' ≤ R.cells + nC w) (hfs : slots + nS w' ≤ R.slots + nS w)
    (kk : pK p l e R s m args below meth c slots Q D b base k w pc' L' S' w') : W p l e R s m args below meth c H locs cells slots Q (F0 m pc ls (S.map (pVal b base))) := by
  obtain ⟨hx, hb, hml, hown, hts, hini, hX, hbb, hbs, hRf, hRl, hAO⟩ := id C
  simp only [pChk2] at hq
  have hlen := Nat.eq_of_beq_eq_true hq
  subst hlen
  simp only [pStep, Option.map_eq_some_iff] at h
  obtain ⟨v, hv, he⟩ := h
  simp only [Prod.mk.injEq] at he
  obtain ⟨-, rfl, rfl, rfl, rfl⟩ := he
  obtain ⟨x1, x2, U, rfl, rfl⟩ := pI2_inv hv
  exact lv_iand hx hb hd (kk H locs ls cid cells slots hRel hS hl hcnt rfl)

theorem p_step_ior {len x y : Nat} {sw : List (Nat × Nat)} {L : pLT} {S : List Value} {pc' : Nat} {L' : pLT} {S' : List Value} {w' : pWD} (C : pCx p R s m args meth c b base X k) (hd : decode (pB k) pc = .ok (.ior, len)) (hq : pChk2 k pc (.ior, len, x, y, sw) = true)
    (h : pStep X (.ior, len, x, y, sw) pc L S w = some (true, pc', L', S', w')) (hRel : pRel D w b base cid s H) (hS : va_S (fun q : Nat => base ≤ q) s.heap H locs) (hl : pLs b base (pL k) ls L) (hcnt : s.heap.size + cells = base + nC w) (hfc : cells + nC w' ≤ R.cells + nC w) (hfs : slots + nS w' ≤ R.slots + nS w)
    (kk : pK p l e R s m args below meth c slots Q D b base k w pc' L' S' w') : W p l e R s m args below meth c H locs cells slots Q (F0 m pc ls (S.map (pVal b base))) := by
  obtain ⟨hx, hb, hml, hown, hts, hini, hX, hbb, hbs, hRf, hRl, hAO⟩ := id C
  simp only [pChk2] at hq
  have hlen := Nat.eq_of_beq_eq_true hq
  subst hlen
  simp only [pStep, Option.map_eq_some_iff] at h
  obtain ⟨v, hv, he⟩ := h
  simp only [Prod.mk.injEq] at he
  obtain ⟨-, rfl, rfl, rfl, rfl⟩ := he
  obtain ⟨x1, x2, U, rfl, rfl⟩ := pI2_inv hv
  exact lv_ior hx hb hd (kk H locs ls cid cells slots hRel hS hl hcnt rfl)

theorem p_step_ixor {len x y : Nat} {sw : List (Nat × Nat)} {L : pLT} {S : List Value} {pc' : Nat} {L' : pLT} {S' : List Value} {w' : pWD} (C : pCx p R s m args meth c b base X k) (hd : decode (pB k) pc = .ok (.ixor, len)) (hq : pChk2 k pc (.ixor, len, x, y, sw) = true)
    (h : pStep X (.ixor, len, x, y, sw) pc L S w = some (true, pc', L', S', w')) (hRel : pRel D w b base cid s H) (hS : va_S (fun q : Nat => base ≤ q) s.heap H locs) (hl : pLs b base (pL k) ls L) (hcnt : s.heap.size + cells = base + nC w) (hfc : cells + nC w' ≤ R.cells + nC w) (hfs : slots + nS w' ≤ R.slots + nS w)
    (kk : pK p l e R s m args below meth c slots Q D b base k w pc' L' S' w') : W p l e R s m args below meth c H locs cells slots Q (F0 m pc ls (S.map (pVal b base))) := by
  obtain ⟨hx, hb, hml, hown, hts, hini, hX, hbb, hbs, hRf, hRl, hAO⟩ := id C
  simp only [pChk2] at hq
  have hlen := Nat.eq_of_beq_eq_true hq
  subst hlen
  simp only [pStep, Option.map_eq_some_iff] at h
  obtain ⟨v, hv, he⟩ := h
  simp only [Prod.mk.injEq] at he
  obtain ⟨-, rfl, rfl, rfl, rfl⟩ := he
  obtain ⟨x1, x2, U, rfl, rfl⟩ := pI2_inv hv
  exact lv_ixor hx hb hd (kk H locs ls cid cells slots hRel hS hl hcnt rfl)

theorem p_step_ishl {len x y : Nat} {sw : List (Nat × Nat)} {L : pLT} {S : List Value} {pc' : Nat} {L' : pLT} {S' : List Value} {w' : pWD} (C : pCx p R s m args meth c b base X k) (hd : decode (pB k) pc = .ok (.ishl, len)) (hq : pChk2 k pc (.ishl, len, x, y, sw) = true)
    (h : pStep X (.ishl, len, x, y, sw) pc L S w = some (true, pc', L', S', w')) (hRel : pRel D w b base cid s H) (hS : va_S (fun q : Nat => base ≤ q) s.heap H locs) (hl : pLs b base (pL k) ls L) (hcnt : s.heap.size + cells = base + nC w) (hfc : cells + nC w' ≤ R.cells + nC w) (hfs : slots + nS w' ≤ R.slots + nS w)
    (kk : pK p l e R s m args below meth c slots Q D b base k w pc' L' S' w') : W p l e R s m args below meth c H locs cells slots Q (F0 m pc ls (S.map (pVal b base))) := by
  obtain ⟨hx, hb, hml, hown, hts, hini, hX, hbb, hbs, hRf, hRl, hAO⟩ := id C
  simp only [pChk2] at hq
  have hlen := Nat.eq_of_beq_eq_true hq
  subst hlen
  simp only [pStep, Option.map_eq_some_iff] at h
  obtain ⟨v, hv, he⟩ := h
  simp only [Prod.mk.injEq] at he
  obtain ⟨-, rfl, rfl, rfl, rfl⟩ := he
  obtain ⟨x1, x2, U, rfl, rfl⟩ := pI2_inv hv
  exact lv_ishl hx hb hd (kk H locs ls cid cells slots hRel hS hl hcnt rfl)

theorem p_step_ishr {len x y : Nat} {sw : List (Nat × Nat)} {L : pLT} {S : List Value} {pc' : Nat} {L' : pLT} {S' : List Value} {w' : pWD} (C : pCx p R s m args meth c b base X k) (hd : decode (pB k) pc = .ok (.ishr, len)) (hq : pChk2 k pc (.ishr, len, x, y, sw) = true)
    (h : pStep X (.ishr, len, x, y, sw) pc L S w = some (true, pc', L', S', w')) (hRel : pRel D w b base cid s H) (hS : va_S (fun q : Nat => base ≤ q) s.heap H locs) (hl : pLs b base (pL k) ls L) (hcnt : s.heap.size + cells = base + nC w) (hfc : cells + nC w' ≤ R.cells + nC w) (hfs : slots + nS w' ≤ R.slots + nS w)
    (kk : pK p l e R s m args below meth c slots Q D b base k w pc' L' S' w') : W p l e R s m args below meth c H locs cells slots Q (F0 m pc ls (S.map (pVal b base))) := by
  obtain ⟨hx, hb, hml, hown, hts, hini, hX, hbb, hbs, hRf, hRl, hAO⟩ := id C
  simp only [pChk2] at hq
  have hlen := Nat.eq_of_beq_eq_true hq
  subst hlen
  simp only [pStep, Option.map_eq_some_iff] at h
  obtain ⟨v, hv, he⟩ := h
  simp only [Prod.mk.injEq] at he
  obtain ⟨-, rfl, rfl, rfl, rfl⟩ := he
  obtain ⟨x1, x2, U, rfl, rfl⟩ := pI2_inv hv
  exact lv_ishr hx hb hd (kk H locs ls cid cells slots hRel hS hl hcnt rfl)

theorem p_step_iushr {len x y : Nat} {sw : List (Nat × Nat)} {L : pLT} {S : List Value} {pc' : Nat} {L' : pLT} {S' : List Value} {w' : pWD} (C : pCx p R s m args meth c b base X k) (hd : decode (pB k) pc = .ok (.iushr, len)) (hq : pChk2 k pc (.iushr, len, x, y, sw) = true)
    (h : pStep X (.iushr, len, x, y, sw) pc L S w = some (true, pc', L', S', w')) (hRel : pRel D w b base cid s H) (hS : va_S (fun q : Nat => base ≤ q) s.heap H locs) (hl : pLs b base (pL k) ls L) (hcnt : s.heap.size + cells = base + nC w) (hfc : cells + nC w' ≤ R.cells + nC w) (hfs : slots + nS w' ≤ R.slots + nS w)
    (kk : pK p l e R s m args below meth c slots Q D b base k w pc' L' S' w') : W p l e R s m args below meth c H locs cells slots Q (F0 m pc ls (S.map (pVal b base))) := by
  obtain ⟨hx, hb, hml, hown, hts, hini, hX, hbb, hbs, hRf, hRl, hAO⟩ := id C
  simp only [pChk2] at hq
  have hlen := Nat.eq_of_beq_eq_true hq
  subst hlen
  simp only [pStep, Option.map_eq_some_iff] at h
  obtain ⟨v, hv, he⟩ := h
  simp only [Prod.mk.injEq] at he
  obtain ⟨-, rfl, rfl, rfl, rfl⟩ := he
  obtain ⟨x1, x2, U, rfl, rfl⟩ := pI2_inv hv
  exact lv_iushr hx hb hd rfl (kk H locs ls cid cells slots hRel hS hl hcnt rfl)

theorem p_step_ladd {len x y : Nat} {sw : List (Nat × Nat)} {L : pLT} {S : List Value} {pc' : Nat} {L' : pLT} {S' : List Value} {w' : pWD} (C : pCx p R s m args meth c b base X k) (hd : decode (pB k) pc = .ok (.ladd, len)) (hq : pChk2 k pc (.ladd, len, x, y, sw) = true)
    (h : pStep X (.ladd, len, x, y, sw) pc L S w = some (true, pc', L', S', w')) (hRel : pRel D w b base cid s H) (hS : va_S (fun q : Nat => base ≤ q) s.heap H locs) (hl : pLs b base (pL k) ls L) (hcnt : s.heap.size + cells = base + nC w) (hfc : cells + nC w' ≤ R.cells + nC w) (hfs : slots + nS w' ≤ R.slots + nS w)
    (kk : pK p l e R s m args below meth c slots Q D b base k w pc' L' S' w') : W p l e R s m args below meth c H locs cells slots Q (F0 m pc ls (S.map (pVal b base))) := by
  obtain ⟨hx, hb, hml, hown, hts, hini, hX, hbb, hbs, hRf, hRl, hAO⟩ := id C
  simp only [pChk2] at hq
  have hlen := Nat.eq_of_beq_eq_true hq
  subst hlen
  simp only [pStep, Option.map_eq_some_iff] at h
  obtain ⟨v, hv, he⟩ := h
  simp only [Prod.mk.injEq] at he
  obtain ⟨-, rfl, rfl, rfl, rfl⟩ := he
  obtain ⟨x1, x2, U, rfl, rfl⟩ := pL2_inv hv
  exact lv_ladd hx hb hd (kk H locs ls cid cells slots hRel hS hl hcnt rfl)

theorem p_step_lsub {len x y : Nat} {sw : List (Nat × Nat)} {L : pLT} {S : List Value} {pc' : Nat} {L' : pLT} {S' : List Value} {w' : pWD} (C : pCx p R s m args meth c b base X k) (hd : decode (pB k) pc = .ok (.lsub, len)) (hq : pChk2 k pc (.lsub, len, x, y, sw) = true)
    (h : pStep X (.lsub, len, x, y, sw) pc L S w = some (true, pc', L', S', w')) (hRel : pRel D w b base cid s H) (hS : va_S (fun q : Nat => base ≤ q) s.heap H locs) (hl : pLs b base (pL k) ls L) (hcnt : s.heap.size + cells = base + nC w) (hfc : cells + nC w' ≤ R.cells + nC w) (hfs : slots + nS w' ≤ R.slots + nS w)
    (kk : pK p l e R s m args below meth c slots Q D b base k w pc' L' S' w') : W p l e R s m args below meth c H locs cells slots Q (F0 m pc ls (S.map (pVal b base))) := by
  obtain ⟨hx, hb, hml, hown, hts, hini, hX, hbb, hbs, hRf, hRl, hAO⟩ := id C
  simp only [pChk2] at hq
  have hlen := Nat.eq_of_beq_eq_true hq
  subst hlen
  simp only [pStep, Option.map_eq_some_iff] at h
  obtain ⟨v, hv, he⟩ := h
  simp only [Prod.mk.injEq] at he
  obtain ⟨-, rfl, rfl, rfl, rfl⟩ := he
  obtain ⟨x1, x2, U, rfl, rfl⟩ := pL2_inv hv
  exact lv_lsub hx hb hd (kk H locs ls cid cells slots hRel hS hl hcnt rfl)

theorem p_step_lmul {len x y : Nat} {sw : List (Nat × Nat)} {L : pLT} {S : List Value} {pc' : Nat} {L' : pLT} {S' : List Value} {w' : pWD} (C : pCx p R s m args meth c b base X k) (hd : decode (pB k) pc = .ok (.lmul, len)) (hq : pChk2 k pc (.lmul, len, x, y, sw) = true)
    (h : pStep X (.lmul, len, x, y, sw) pc L S w = some (true, pc', L', S', w')) (hRel : pRel D w b base cid s H) (hS : va_S (fun q : Nat => base ≤ q) s.heap H locs) (hl : pLs b base (pL k) ls L) (hcnt : s.heap.size + cells = base + nC w) (hfc : cells + nC w' ≤ R.cells + nC w) (hfs : slots + nS w' ≤ R.slots + nS w)
    (kk : pK p l e R s m args below meth c slots Q D b base k w pc' L' S' w') : W p l e R s m args below meth c H locs cells slots Q (F0 m pc ls (S.map (pVal b base))) := by
  obtain ⟨hx, hb, hml, hown, hts, hini, hX, hbb, hbs, hRf, hRl, hAO⟩ := id C
  simp only [pChk2] at hq
  have hlen := Nat.eq_of_beq_eq_true hq
  subst hlen
  simp only [pStep, Option.map_eq_some_iff] at h
  obtain ⟨v, hv, he⟩ := h
  simp only [Prod.mk.injEq] at he
  obtain ⟨-, rfl, rfl, rfl, rfl⟩ := he
  obtain ⟨x1, x2, U, rfl, rfl⟩ := pL2_inv hv
  exact lv_lmul hx hb hd (kk H locs ls cid cells slots hRel hS hl hcnt rfl)

theorem p_step_land {len x y : Nat} {sw : List (Nat × Nat)} {L : pLT} {S : List Value} {pc' : Nat} {L' : pLT} {S' : List Value} {w' : pWD} (C : pCx p R s m args meth c b base X k) (hd : decode (pB k) pc = .ok (.land, len)) (hq : pChk2 k pc (.land, len, x, y, sw) = true)
    (h : pStep X (.land, len, x, y, sw) pc L S w = some (true, pc', L', S', w')) (hRel : pRel D w b base cid s H) (hS : va_S (fun q : Nat => base ≤ q) s.heap H locs) (hl : pLs b base (pL k) ls L) (hcnt : s.heap.size + cells = base + nC w) (hfc : cells + nC w' ≤ R.cells + nC w) (hfs : slots + nS w' ≤ R.slots + nS w)
    (kk : pK p l e R s m args below meth c slots Q D b base k w pc' L' S' w') : W p l e R s m args below meth c H locs cells slots Q (F0 m pc ls (S.map (pVal b base))) := by
  obtain ⟨hx, hb, hml, hown, hts, hini, hX, hbb, hbs, hRf, hRl, hAO⟩ := id C
  simp only [pChk2] at hq
  have hlen := Nat.eq_of_beq_eq_true hq
  subst hlen
  simp only [pStep, Option.map_eq_some_iff] at h
  obtain ⟨v, hv, he⟩ := h
  simp only [Prod.mk.injEq] at he
  obtain ⟨-, rfl, rfl, rfl, rfl⟩ := he
  obtain ⟨x1, x2, U, rfl, rfl⟩ := pL2_inv hv
  exact lv_land hx hb hd (kk H locs ls cid cells slots hRel hS hl hcnt rfl)

theorem p_step_lor {len x y : Nat} {sw : List (Nat × Nat)} {L : pLT} {S : List Value} {pc' : Nat} {L' : pLT} {S' : List Value} {w' : pWD} (C : pCx p R s m args meth c b base X k) (hd : decode (pB k) pc = .ok (.lor, len)) (hq : pChk2 k pc (.lor, len, x, y, sw) = true)
    (h : pStep X (.lor, len, x, y, sw) pc L S w = some (true, pc', L', S', w')) (hRel : pRel D w b base cid s H) (hS : va_S (fun q : Nat => base ≤ q) s.heap H locs) (hl : pLs b base (pL k) ls L) (hcnt : s.heap.size + cells = base + nC w) (hfc : cells + nC w' ≤ R.cells + nC w) (hfs : slots + nS w' ≤ R.slots + nS w)
    (kk : pK p l e R s m args below meth c slots Q D b base k w pc' L' S' w') : W p l e R s m args below meth c H locs cells slots Q (F0 m pc ls (S.map (pVal b base))) := by
  obtain ⟨hx, hb, hml, hown, hts, hini, hX, hbb, hbs, hRf, hRl, hAO⟩ := id C
  simp only [pChk2] at hq
  have hlen := Nat.eq_of_beq_eq_true hq
  subst hlen
  simp only [pStep, Option.map_eq_some_iff] at h
  obtain ⟨v, hv, he⟩ := h
  simp only [Prod.mk.injEq] at he
  obtain ⟨-, rfl, rfl, rfl, rfl⟩ := he
  obtain ⟨x1, x2, U, rfl, rfl⟩ := pL2_inv hv
  exact lv_lor hx hb hd (kk H locs ls cid cells slots hRel hS hl hcnt rfl)

theorem p_step_lxor {len x y : Nat} {sw : List (Nat × Nat)} {L : pLT} {S : List Value} {pc' : Nat} {L' : pLT} {S' : List Value} {w' : pWD} (C : pCx p R s m args meth c b base X k) (hd : decode (pB k) pc = .ok (.lxor, len)) (hq : pChk2 k pc (.lxor, len, x, y, sw) = true)
    (h : pStep X (.lxor, len, x, y, sw) pc L S w = some (true, pc', L', S', w')) (hRel : pRel D w b base cid s H) (hS : va_S (fun q : Nat => base ≤ q) s.heap H locs) (hl : pLs b base (pL k) ls L) (hcnt : s.heap.size + cells = base + nC w) (hfc : cells + nC w' ≤ R.cells + nC w) (hfs : slots + nS w' ≤ R.slots + nS w)
    (kk : pK p l e R s m args below meth c slots Q D b base k w pc' L' S' w') : W p l e R s m args below meth c H locs cells slots Q (F0 m pc ls (S.map (pVal b base))) := by
  obtain ⟨hx, hb, hml, hown, hts, hini, hX, hbb, hbs, hRf, hRl, hAO⟩ := id C
  simp only [pChk2] at hq
  have hlen := Nat.eq_of_beq_eq_true hq
  subst hlen
  simp only [pStep, Option.map_eq_some_iff] at h
  obtain ⟨v, hv, he⟩ := h
  simp only [Prod.mk.injEq] at he
  obtain ⟨-, rfl, rfl, rfl, rfl⟩ := he
  obtain ⟨x1, x2, U, rfl, rfl⟩ := pL2_inv hv
  exact lv_lxor hx hb hd (kk H locs ls cid cells slots hRel hS hl hcnt rfl)

theorem p_step_idiv {len x y : Nat} {sw : List (Nat × Nat)} {L : pLT} {S : List Value} {pc' : Nat} {L' : pLT} {S' : List Value} {w' : pWD} (C : pCx p R s m args meth c b base X k) (hd : decode (pB k) pc = .ok (.idiv, len)) (hq : pChk2 k pc (.idiv, len, x, y, sw) = true)
    (h : pStep X (.idiv, len, x, y, sw) pc L S w = some (true, pc', L', S', w')) (hRel : pRel D w b base cid s H) (hS : va_S (fun q : Nat => base ≤ q) s.heap H locs) (hl : pLs b base (pL k) ls L) (hcnt : s.heap.size + cells = base + nC w) (hfc : cells + nC w' ≤ R.cells + nC w) (hfs : slots + nS w' ≤ R.slots + nS w)
    (kk : pK p l e R s m args below meth c slots Q D b base k w pc' L' S' w') : W p l e R s m args below meth c H locs cells slots Q (F0 m pc ls (S.map (pVal b base))) := by
  obtain ⟨hx, hb, hml, hown, hts, hini, hX, hbb, hbs, hRf, hRl, hAO⟩ := id C
  simp only [pChk2] at hq
  have hlen := Nat.eq_of_beq_eq_true hq
  subst hlen
  cases S with
  | nil => simp [pStep] at h
  | cons u S =>
  cases S with
  | nil => cases u <;> simp [pStep] at h
  | cons v T =>
  cases u <;> cases v <;> simp only [pStep, Option.some.injEq, Prod.mk.injEq, reduceCtorEq, Bool.not_eq_true', decide_eq_false_iff_not] at h
  obtain ⟨hne, rfl, rfl, rfl, rfl⟩ := h
  exact lv_idiv hx hb hd hne (kk H locs ls cid cells slots hRel hS hl hcnt rfl)

theorem p_step_irem {len x y : Nat} {sw : List (Nat × Nat)} {L : pLT} {S : List Value} {pc' : Nat} {L' : pLT} {S' : List Value} {w' : pWD} (C : pCx p R s m args meth c b base X k) (hd : decode (pB k) pc = .ok (.irem, len)) (hq : pChk2 k pc (.irem, len, x, y, sw) = true)
    (h : pStep X (.irem, len, x, y, sw) pc L S w = some (true, pc', L', S', w')) (hRel : pRel D w b base cid s H) (hS : va_S (fun q : Nat => base ≤ q) s.heap H locs) (hl : pLs b base (pL k) ls L) (hcnt : s.heap.size + cells = base + nC w) (hfc : cells + nC w' ≤ R.cells + nC w) (hfs : slots + nS w' ≤ R.slots + nS w)
    (kk : pK p l e R s m args below meth c slots Q D b base k w pc' L' S' w') : W p l e R s m args below meth c H locs cells slots Q (F0 m pc ls (S.map (pVal b base))) := by
  obtain ⟨hx, hb, hml, hown, hts, hini, hX, hbb, hbs, hRf, hRl, hAO⟩ := id C
  simp only [pChk2] at hq
  have hlen := Nat.eq_of_beq_eq_true hq
  subst hlen
  cases S with
  | nil => simp [pStep] at h
  | cons u S =>
  cases S with
  | nil => cases u <;> simp [pStep] at h
  | cons v T =>
  cases u <;> cases v <;> simp only [pStep, Option.some.injEq, Prod.mk.injEq, reduceCtorEq, Bool.not_eq_true', decide_eq_false_iff_not] at h
  obtain ⟨hne, rfl, rfl, rfl, rfl⟩ := h
  exact lv_irem hx hb hd hne (kk H locs ls cid cells slots hRel hS hl hcnt rfl)

theorem p_step_ldiv {len x y : Nat} {sw : List (Nat × Nat)} {L : pLT} {S : List Value} {pc' : Nat} {L' : pLT} {S' : List Value} {w' : pWD} (C : pCx p R s m args meth c b base X k) (hd : decode (pB k) pc = .ok (.ldiv, len)) (hq : pChk2 k pc (.ldiv, len, x, y, sw) = true)
    (h : pStep X (.ldiv, len, x, y, sw) pc L S w = some (true, pc', L', S', w')) (hRel : pRel D w b base cid s H) (hS : va_S (fun q : Nat => base ≤ q) s.heap H locs) (hl : pLs b base (pL k) ls L) (hcnt : s.heap.size + cells = base + nC w) (hfc : cells + nC w' ≤ R.cells + nC w) (hfs : slots + nS w' ≤ R.slots + nS w)
    (kk : pK p l e R s m args below meth c slots Q D b base k w pc' L' S' w') : W p l e R s m args below meth c H locs cells slots Q (F0 m pc ls (S.map (pVal b base))) := by
  obtain ⟨hx, hb, hml, hown, hts, hini, hX, hbb, hbs, hRf, hRl, hAO⟩ := id C
  simp only [pChk2] at hq
  have hlen := Nat.eq_of_beq_eq_true hq
  subst hlen
  cases S with
  | nil => simp [pStep] at h
  | cons u S =>
  cases S with
  | nil => cases u <;> simp [pStep] at h
  | cons v T =>
  cases u <;> cases v <;> simp only [pStep, Option.some.injEq, Prod.mk.injEq, reduceCtorEq, Bool.not_eq_true', decide_eq_false_iff_not] at h
  obtain ⟨hne, rfl, rfl, rfl, rfl⟩ := h
  exact lv_ldiv hx hb hd hne (kk H locs ls cid cells slots hRel hS hl hcnt rfl)

theorem p_step_lrem {len x y : Nat} {sw : List (Nat × Nat)} {L : pLT} {S : List Value} {pc' : Nat} {L' : pLT} {S' : List Value} {w' : pWD} (C : pCx p R s m args meth c b base X k) (hd : decode (pB k) pc = .ok (.lrem, len)) (hq : pChk2 k pc (.lrem, len, x, y, sw) = true)
    (h : pStep X (.lrem, len, x, y, sw) pc L S w = some (true, pc', L', S', w')) (hRel : pRel D w b base cid s H) (hS : va_S (fun q : Nat => base ≤ q) s.heap H locs) (hl : pLs b base (pL k) ls L) (hcnt : s.heap.size + cells = base + nC w) (hfc : cells + nC w' ≤ R.cells + nC w) (hfs : slots + nS w' ≤ R.slots + nS w)
    (kk : pK p l e R s m args below meth c slots Q D b base k w pc' L' S' w') : W p l e R s m args below meth c H locs cells slots Q (F0 m pc ls (S.map (pVal b base))) := by
  obtain ⟨hx, hb, hml, hown, hts, hini, hX, hbb, hbs, hRf, hRl, hAO⟩ := id C
  simp only [pChk2] at hq
  have hlen := Nat.eq_of_beq_eq_true hq
  subst hlen
  cases S with
  | nil => simp [pStep] at h
  | cons u S =>
  cases S with
  | nil => cases u <;> simp [pStep] at h
  | cons v T =>
  cases u <;> cases v <;> simp only [pStep, Option.some.injEq, Prod.mk.injEq, reduceCtorEq, Bool.not_eq_true', decide_eq_false_iff_not] at h
  obtain ⟨hne, rfl, rfl, rfl, rfl⟩ := h
  exact lv_lrem hx hb hd hne (kk H locs ls cid cells slots hRel hS hl hcnt rfl)

theorem p_step_lneg {len x y : Nat} {sw : List (Nat × Nat)} {L : pLT} {S : List Value} {pc' : Nat} {L' : pLT} {S' : List Value} {w' : pWD} (C : pCx p R s m args meth c b base X k) (hd : decode (pB k) pc = .ok (.lneg, len)) (hq : pChk2 k pc (.lneg, len, x, y, sw) = true)
    (h : pStep X (.lneg, len, x, y, sw) pc L S w = some (true, pc', L', S', w')) (hRel : pRel D w b base cid s H) (hS : va_S (fun q : Nat => base ≤ q) s.heap H locs) (hl : pLs b base (pL k) ls L) (hcnt : s.heap.size + cells = base + nC w) (hfc : cells + nC w' ≤ R.cells + nC w) (hfs : slots + nS w' ≤ R.slots + nS w)
    (kk : pK p l e R s m args below meth c slots Q D b base k w pc' L' S' w') : W p l e R s m args below meth c H locs cells slots Q (F0 m pc ls (S.map (pVal b base))) := by
  obtain ⟨hx, hb, hml, hown, hts, hini, hX, hbb, hbs, hRf, hRl, hAO⟩ := id C
  simp only [pChk2] at hq
  have hlen := Nat.eq_of_beq_eq_true hq
  subst hlen
  cases S with
  | nil => simp [pStep] at h
  | cons v T =>
    cases v <;> simp only [pStep, Option.some.injEq, Prod.mk.injEq, reduceCtorEq] at h
    obtain ⟨-, rfl, rfl, rfl, rfl⟩ := h
    exact lv_lneg hx hb hd (kk H locs ls cid cells slots hRel hS hl hcnt rfl)

theorem p_step_lshl {len x y : Nat} {sw : List (Nat × Nat)} {L : pLT} {S : List Value} {pc' : Nat} {L' : pLT} {S' : List Value} {w' : pWD} (C : pCx p R s m args meth c b base X k) (hd : decode (pB k) pc = .ok (.lshl, len)) (hq : pChk2 k pc (.lshl, len, x, y, sw) = true)
    (h : pStep X (.lshl, len, x, y, sw) pc L S w = some (true, pc', L', S', w')) (hRel : pRel D w b base cid s H) (hS : va_S (fun q : Nat => base ≤ q) s.heap H locs) (hl : pLs b base (pL k) ls L) (hcnt : s.heap.size + cells = base + nC w) (hfc : cells + nC w' ≤ R.cells + nC w) (hfs : slots + nS w' ≤ R.slots + nS w)
    (kk : pK p l e R s m args below meth c slots Q D b base k w pc' L' S' w') : W p l e R s m args below meth c H locs cells slots Q (F0 m pc ls (S.map (pVal b base))) := by
  obtain ⟨hx, hb, hml, hown, hts, hini, hX, hbb, hbs, hRf, hRl, hAO⟩ := id C
  simp only [pChk2] at hq
  have hlen := Nat.eq_of_beq_eq_true hq
  subst hlen
  cases S with
  | nil => simp [pStep] at h
  | cons u S =>
  cases S with
  | nil => cases u <;> simp [pStep] at h
  | cons v T =>
  cases u <;> cases v <;> simp only [pStep, Option.some.injEq, Prod.mk.injEq, reduceCtorEq] at h
  obtain ⟨-, rfl, rfl, rfl, rfl⟩ := h
  exact lv_lshl hx hb hd rfl (kk H locs ls cid cells slots hRel hS hl hcnt rfl)

theorem p_step_lcmp {len x y : Nat} {sw : List (Nat × Nat)} {L : pLT} {S : List Value} {pc' : Nat} {L' : pLT} {S' : List Value} {w' : pWD} (C : pCx p R s m args meth c b base X k) (hd : decode (pB k) pc = .ok (.lcmp, len)) (hq : pChk2 k pc (.lcmp, len, x, y, sw) = true)
    (h : pStep X (.lcmp, len, x, y, sw) pc L S w = some (true, pc', L', S', w')) (hRel : pRel D w b base cid s H) (hS : va_S (fun q : Nat => base ≤ q) s.heap H locs) (hl : pLs b base (pL k) ls L) (hcnt : s.heap.size + cells = base + nC w) (hfc : cells + nC w' ≤ R.cells + nC w) (hfs : slots + nS w' ≤ R.slots + nS w)
    (kk : pK p l e R s m args below meth c slots Q D b base k w pc' L' S' w') : W p l e R s m args below meth c H locs cells slots Q (F0 m pc ls (S.map (pVal b base))) := by
  obtain ⟨hx, hb, hml, hown, hts, hini, hX, hbb, hbs, hRf, hRl, hAO⟩ := id C
  simp only [pChk2] at hq
  have hlen := Nat.eq_of_beq_eq_true hq
  subst hlen
  cases S with
  | nil => simp [pStep] at h
  | cons u S =>
  cases S with
  | nil => cases u <;> simp [pStep] at h
  | cons v T =>
  cases u <;> cases v <;> simp only [pStep, Option.some.injEq, Prod.mk.injEq, reduceCtorEq] at h
  obtain ⟨-, rfl, rfl, rfl, rfl⟩ := h
  exact W.lcmp hx hb hd (kk H locs ls cid cells slots hRel hS hl hcnt rfl)

theorem p_step_i2l {len x y : Nat} {sw : List (Nat × Nat)} {L : pLT} {S : List Value} {pc' : Nat} {L' : pLT} {S' : List Value} {w' : pWD} (C : pCx p R s m args meth c b base X k) (hd : decode (pB k) pc = .ok (.i2l, len)) (hq : pChk2 k pc (.i2l, len, x, y, sw) = true)
    (h : pStep X (.i2l, len, x, y, sw) pc L S w = some (true, pc', L', S', w')) (hRel : pRel D w b base cid s H) (hS : va_S (fun q : Nat => base ≤ q) s.heap H locs) (hl : pLs b base (pL k) ls L) (hcnt : s.heap.size + cells = base + nC w) (hfc : cells + nC w' ≤ R.cells + nC w) (hfs : slots + nS w' ≤ R.slots + nS w)
    (kk : pK p l e R s m args below meth c slots Q D b base k w pc' L' S' w') : W p l e R s m args below meth c H locs cells slots Q (F0 m pc ls (S.map (pVal b base))) := by
  obtain ⟨hx, hb, hml, hown, hts, hini, hX, hbb, hbs, hRf, hRl, hAO⟩ := id C
  simp only [pChk2] at hq
  have hlen := Nat.eq_of_beq_eq_true hq
  subst hlen
  cases S with
  | nil => simp [pStep] at h
  | cons v T =>
    cases v <;> simp only [pStep, Option.some.injEq, Prod.mk.injEq, reduceCtorEq] at h
    obtain ⟨-, rfl, rfl, rfl, rfl⟩ := h
    exact lv_i2l hx hb hd rfl (kk H locs ls cid cells slots hRel hS hl hcnt rfl)

theorem p_step_l2i {len x y : Nat} {sw : List (Nat × Nat)} {L : pLT} {S : List Value} {pc' : Nat} {L' : pLT} {S' : List Value} {w' : pWD} (C : pCx p R s m args meth c b base X k) (hd : decode (pB k) pc = .ok (.l2i, len)) (hq : pChk2 k pc (.l2i, len, x, y, sw) = true)
    (h : pStep X (.l2i, len, x, y, sw) pc L S w = some (true, pc', L', S', w')) (hRel : pRel D w b base cid s H) (hS : va_S (fun q : Nat => base ≤ q) s.heap H locs) (hl : pLs b base (pL k) ls L) (hcnt : s.heap.size + cells = base + nC w) (hfc : cells + nC w' ≤ R.cells + nC w) (hfs : slots + nS w' ≤ R.slots + nS w)
    (kk : pK p l e R s m args below meth c slots Q D b base k w pc' L' S' w') : W p l e R s m args below meth c H locs cells slots Q (F0 m pc ls (S.map (pVal b base))) := by
  obtain ⟨hx, hb, hml, hown, hts, hini, hX, hbb, hbs, hRf, hRl, hAO⟩ := id C
  simp only [pChk2] at hq
  have hlen := Nat.eq_of_beq_eq_true hq
  subst hlen
  cases S with
  | nil => simp [pStep] at h
  | cons v T =>
    cases v <;> simp only [pStep, Option.some.injEq, Prod.mk.injEq, reduceCtorEq] at h
    obtain ⟨-, rfl, rfl, rfl, rfl⟩ := h
    exact lv_l2i hx hb hd rfl (kk H locs ls cid cells slots hRel hS hl hcnt rfl)

theorem p_step_i2b {len x y : Nat} {sw : List (Nat × Nat)} {L : pLT} {S : List Value} {pc' : Nat} {L' : pLT} {S' : List Value} {w' : pWD} (C : pCx p R s m args meth c b base X k) (hd : decode (pB k) pc = .ok (.i2b, len)) (hq : pChk2 k pc (.i2b, len, x, y, sw) = true)
    (h : pStep X (.i2b, len, x, y, sw) pc L S w = some (true, pc', L', S', w')) (hRel : pRel D w b base cid s H) (hS : va_S (fun q : Nat => base ≤ q) s.heap H locs) (hl : pLs b base (pL k) ls L) (hcnt : s.heap.size + cells = base + nC w) (hfc : cells + nC w' ≤ R.cells + nC w) (hfs : slots + nS w' ≤ R.slots + nS w)
    (kk : pK p l e R s m args below meth c slots Q D b base k w pc' L' S' w') : W p l e R s m args below meth c H locs cells slots Q (F0 m pc ls (S.map (pVal b base))) := by
  obtain ⟨hx, hb, hml, hown, hts, hini, hX, hbb, hbs, hRf, hRl, hAO⟩ := id C
  simp only [pChk2] at hq
  have hlen := Nat.eq_of_beq_eq_true hq
  subst hlen
  simp only [pStep, Option.map_eq_some_iff] at h
  obtain ⟨v, hv, he⟩ := h
  simp only [Prod.mk.injEq] at he
  obtain ⟨-, rfl, rfl, rfl, rfl⟩ := he
  obtain ⟨x1, U, rfl, rfl⟩ := pI1_inv hv
  exact lv_i2b hx hb hd rfl (kk H locs ls cid cells slots hRel hS hl hcnt rfl)

theorem p_step_i2s {len x y : Nat} {sw : List (Nat × Nat)} {L : pLT} {S : List Value} {pc' : Nat} {L' : pLT} {S' : List Value} {w' : pWD} (C : pCx p R s m args meth c b base X k) (hd : decode (pB k) pc = .ok (.i2s, len)) (hq : pChk2 k pc (.i2s, len, x, y, sw) = true)
    (h : pStep X (.i2s, len, x, y, sw) pc L S w = some (true, pc', L', S', w')) (hRel : pRel D w b base cid s H) (hS : va_S (fun q : Nat => base ≤ q) s.heap H locs) (hl : pLs b base (pL k) ls L) (hcnt : s.heap.size + cells = base + nC w) (hfc : cells + nC w' ≤ R.cells + nC w) (hfs : slots + nS w' ≤ R.slots + nS w)
    (kk : pK p l e R s m args below meth c slots Q D b base k w pc' L' S' w') : W p l e R s m args below meth c H locs cells slots Q (F0 m pc ls (S.map (pVal b base))) := by
  obtain ⟨hx, hb, hml, hown, hts, hini, hX, hbb, hbs, hRf, hRl, hAO⟩ := id C
  simp only [pChk2] at hq
  have hlen := Nat.eq_of_beq_eq_true hq
  subst hlen
  simp only [pStep, Option.map_eq_some_iff] at h
  obtain ⟨v, hv, he⟩ := h
  simp only [Prod.mk.injEq] at he
  obtain ⟨-, rfl, rfl, rfl, rfl⟩ := he
  obtain ⟨x1, U, rfl, rfl⟩ := pI1_inv hv
  exact lv_i2s hx hb hd rfl (kk H locs ls cid cells slots hRel hS hl hcnt rfl)

theorem p_step_dup {len x y : Nat} {sw : List (Nat × Nat)} {L : pLT} {S : List Value} {pc' : Nat} {L' : pLT} {S' : List Value} {w' : pWD} (C : pCx p R s m args meth c b base X k) (hd : decode (pB k) pc = .ok (.dup, len)) (hq : pChk2 k pc (.dup, len, x, y, sw) = true)
    (h : pStep X (.dup, len, x, y, sw) pc L S w = some (true, pc', L', S', w')) (hRel : pRel D w b base cid s H) (hS : va_S (fun q : Nat => base ≤ q) s.heap H locs) (hl : pLs b base (pL k) ls L) (hcnt : s.heap.size + cells = base + nC w) (hfc : cells + nC w' ≤ R.cells + nC w) (hfs : slots + nS w' ≤ R.slots + nS w)
    (kk : pK p l e R s m args below meth c slots Q D b base k w pc' L' S' w') : W p l e R s m args below meth c H locs cells slots Q (F0 m pc ls (S.map (pVal b base))) := by
  obtain ⟨hx, hb, hml, hown, hts, hini, hX, hbb, hbs, hRf, hRl, hAO⟩ := id C
  simp only [pChk2] at hq
  have hlen := Nat.eq_of_beq_eq_true hq
  subst hlen
  cases S with
  | nil => simp [pStep] at h
  | cons v T =>
    simp only [pStep, Option.some.injEq, Prod.mk.injEq] at h
    obtain ⟨hc, rfl, rfl, rfl, rfl⟩ := h
    exact lv_dup hx hb hd (by rw [pVal_cat]; exact Nat.eq_of_beq_eq_true hc) (kk H locs ls cid cells slots hRel hS hl hcnt rfl)

theorem p_step_pop {len x y : Nat} {sw : List (Nat × Nat)} {L : pLT} {S : List Value} {pc' : Nat} {L' : pLT} {S' : List Value} {w' : pWD} (C : pCx p R s m args meth c b base X k) (hd : decode (pB k) pc = .ok (.pop, len)) (hq : pChk2 k pc (.pop, len, x, y, sw) = true)
    (h : pStep X (.pop, len, x, y, sw) pc L S w = some (true, pc', L', S', w')) (hRel : pRel D w b base cid s H) (hS : va_S (fun q : Nat => base ≤ q) s.heap H locs) (hl : pLs b base (pL k) ls L) (hcnt : s.heap.size + cells = base + nC w) (hfc : cells + nC w' ≤ R.cells + nC w) (hfs : slots + nS w' ≤ R.slots + nS w)
    (kk : pK p l e R s m args below meth c slots Q D b base k w pc' L' S' w') : W p l e R s m args below meth c H locs cells slots Q (F0 m pc ls (S.map (pVal b base))) := by
  obtain ⟨hx, hb, hml, hown, hts, hini, hX, hbb, hbs, hRf, hRl, hAO⟩ := id C
  simp only [pChk2] at hq
  have hlen := Nat.eq_of_beq_eq_true hq
  subst hlen
  cases S with
  | nil => simp [pStep] at h
  | cons v T =>
    simp only [pStep, Option.some.injEq, Prod.mk.injEq] at h
    obtain ⟨hc, rfl, rfl, rfl, rfl⟩ := h
    exact lv_pop hx hb hd (by rw [pVal_cat]; exact Nat.eq_of_beq_eq_true hc) (kk H locs ls cid cells slots hRel hS hl hcnt rfl)

theorem p_step_dup2 {len x y : Nat} {sw : List (Nat × Nat)} {L : pLT} {S : List Value} {pc' : Nat} {L' : pLT} {S' : List Value} {w' : pWD} (C : pCx p R s m args meth c b base X k) (hd : decode (pB k) pc = .ok (.dup2, len)) (hq : pChk2 k pc (.dup2, len, x, y, sw) = true)
    (h : pStep X (.dup2, len, x, y, sw) pc L S w = some (true, pc', L', S', w')) (hRel : pRel D w b base cid s H) (hS : va_S (fun q : Nat => base ≤ q) s.heap H locs) (hl : pLs b base (pL k) ls L) (hcnt : s.heap.size + cells = base + nC w) (hfc : cells + nC w' ≤ R.cells + nC w) (hfs : slots + nS w' ≤ R.slots + nS w)
    (kk : pK p l e R s m args below meth c slots Q D b base k w pc' L' S' w') : W p l e R s m args below meth c H locs cells slots Q (F0 m pc ls (S.map (pVal b base))) := by
  obtain ⟨hx, hb, hml, hown, hts, hini, hX, hbb, hbs, hRf, hRl, hAO⟩ := id C
  simp only [pChk2] at hq
  have hlen := Nat.eq_of_beq_eq_true hq
  subst hlen
  cases S with
  | nil => simp [pStep] at h
  | cons v S =>
  cases S with
  | nil => simp [pStep] at h
  | cons u T =>
    simp only [pStep, Option.some.injEq, Prod.mk.injEq, Bool.and_eq_true] at h
    obtain ⟨⟨hc1, hc2⟩, rfl, rfl, rfl, rfl⟩ := h
    exact lv_dup2_11 hx hb hd (by rw [pVal_cat]; exact Nat.eq_of_beq_eq_true hc1) (by rw [pVal_cat]; exact Nat.eq_of_beq_eq_true hc2) (kk H locs ls cid cells slots hRel hS hl hcnt rfl)

theorem p_step_goto {n : Int} {len x y : Nat} {sw : List (Nat × Nat)} {L : pLT} {S : List Value} {pc' : Nat} {L' : pLT} {S' : List Value} {w' : pWD} (C : pCx p R s m args meth c b base X k) (hd : decode (pB k) pc = .ok (.goto n, len)) (hq : pChk2 k pc (.goto n, len, x, y, sw) = true)
    (h : pStep X (.goto n, len, x, y, sw) pc L S w = some (true, pc', L', S', w')) (hRel : pRel D w b base cid s H) (hS : va_S (fun q : Nat => base ≤ q) s.heap H locs) (hl : pLs b base (pL k) ls L) (hcnt : s.heap.size + cells = base + nC w) (hfc : cells + nC w' ≤ R.cells + nC w) (hfs : slots + nS w' ≤ R.slots + nS w)
    (kk : pK p l e R s m args below meth c slots Q D b base k w pc' L' S' w') : W p l e R s m args below meth c H locs cells slots Q (F0 m pc ls (S.map (pVal b base))) := by
  obtain ⟨hx, hb, hml, hown, hts, hini, hX, hbb, hbs, hRf, hRl, hAO⟩ := id C
  simp only [pChk2, Bool.and_eq_true, decide_eq_true_eq] at hq
  obtain ⟨h1, h2⟩ := hq
  have hlen := Nat.eq_of_beq_eq_true h2
  subst hlen
  simp only [pStep, Option.some.injEq, Prod.mk.injEq] at h
  obtain ⟨-, rfl, rfl, rfl, rfl⟩ := h
  exact lv_goto hx hb hd h1 (kk H locs ls cid cells slots hRel hS hl hcnt rfl)

theorem p_step_ifnull {n : Int} {len x y : Nat} {sw : List (Nat × Nat)} {L : pLT} {S : List Value} {pc' : Nat} {L' : pLT} {S' : List Value} {w' : pWD} (C : pCx p R s m args meth c b base X k) (hd : decode (pB k) pc = .ok (.ifnull n, len)) (hq : pChk2 k pc (.ifnull n, len, x, y, sw) = true)
    (h : pStep X (.ifnull n, len, x, y, sw) pc L S w = some (true, pc', L', S', w')) (hRel : pRel D w b base cid s H) (hS : va_S (fun q : Nat => base ≤ q) s.heap H locs) (hl : pLs b base (pL k) ls L) (hcnt : s.heap.size + cells = base + nC w) (hfc : cells + nC w' ≤ R.cells + nC w) (hfs : slots + nS w' ≤ R.slots + nS w)
    (kk : pK p l e R s m args below meth c slots Q D b base k w pc' L' S' w') : W p l e R s m args below meth c H locs cells slots Q (F0 m pc ls (S.map (pVal b base))) := by
  obtain ⟨hx, hb, hml, hown, hts, hini, hX, hbb, hbs, hRf, hRl, hAO⟩ := id C
  simp only [pChk2, Bool.and_eq_true, decide_eq_true_eq] at hq
  obtain ⟨h1, h2⟩ := hq
  have hlen := Nat.eq_of_beq_eq_true h2
  subst hlen
  cases S with
  | nil => simp [pStep] at h
  | cons v T =>
    cases v with
    | null =>
      simp only [pStep, Option.some.injEq, Prod.mk.injEq] at h
      obtain ⟨-, rfl, rfl, rfl, rfl⟩ := h
      exact lv_ifnullN hx hb hd h1 (kk H locs ls cid cells slots hRel hS hl hcnt rfl)
    | ref z =>
      simp only [pStep, Option.some.injEq, Prod.mk.injEq] at h
      obtain ⟨-, rfl, rfl, rfl, rfl⟩ := h
      exact lv_ifnull hx hb hd (kk H locs ls cid cells slots hRel hS hl hcnt rfl)
    | _ => simp [pStep] at h

theorem p_step_ifnonnull {n : Int} {len x y : Nat} {sw : List (Nat × Nat)} {L : pLT} {S : List Value} {pc' : Nat} {L' : pLT} {S' : List Value} {w' : pWD} (C : pCx p R s m args meth c b base X k) (hd : decode (pB k) pc = .ok (.ifnonnull n, len)) (hq : pChk2 k pc (.ifnonnull n, len, x, y, sw) = true)
    (h : pStep X (.ifnonnull n, len, x, y, sw) pc L S w = some (true, pc', L', S', w')) (hRel : pRel D w b base cid s H) (hS : va_S (fun q : Nat => base ≤ q) s.heap H locs) (hl : pLs b base (pL k) ls L) (hcnt : s.heap.size + cells = base + nC w) (hfc : cells + nC w' ≤ R.cells + nC w) (hfs : slots + nS w' ≤ R.slots + nS w)
    (kk : pK p l e R s m args below meth c slots Q D b base k w pc' L' S' w') : W p l e R s m args below meth c H locs cells slots Q (F0 m pc ls (S.map (pVal b base))) := by
  obtain ⟨hx, hb, hml, hown, hts, hini, hX, hbb, hbs, hRf, hRl, hAO⟩ := id C
  simp only [pChk2, Bool.and_eq_true, decide_eq_true_eq] at hq
  obtain ⟨h1, h2⟩ := hq
  have hlen := Nat.eq_of_beq_eq_true h2
  subst hlen
  cases S with
  | nil => simp [pStep] at h
  | cons v T =>
    cases v with
    | null =>
      simp only [pStep, Option.some.injEq, Prod.mk.injEq] at h
      obtain ⟨-, rfl, rfl, rfl, rfl⟩ := h
      exact lv_ifnonnullN hx hb hd (kk H locs ls cid cells slots hRel hS hl hcnt rfl)
    | ref z =>
      simp only [pStep, Option.some.injEq, Prod.mk.injEq] at h
      obtain ⟨-, rfl, rfl, rfl, rfl⟩ := h
      exact lv_ifnonnull hx hb hd h1 (kk H locs ls cid cells slots hRel hS hl hcnt rfl)
    | _ => simp [pStep] at h

theorem p_step_getfield {i : Nat} {len x y : Nat} {sw : List (Nat × Nat)} {L : pLT} {S : List Value} {pc' : Nat} {L' : pLT} {S' : List Value} {w' : pWD} (C : pCx p R s m args meth c b base X k) (hd : decode (pB k) pc = .ok (.getfield i, len)) (hq : pChk2 k pc (.getfield i, len, x, y, sw) = true)
    (h : pStep X (.getfield i, len, x, y, sw) pc L S w = some (true, pc', L', S', w')) (hRel : pRel D w b base cid s H) (hS : va_S (fun q : Nat => base ≤ q) s.heap H locs) (hl : pLs b base (pL k) ls L) (hcnt : s.heap.size + cells = base + nC w) (hfc : cells + nC w' ≤ R.cells + nC w) (hfs : slots + nS w' ≤ R.slots + nS w)
    (kk : pK p l e R s m args below meth c slots Q D b base k w pc' L' S' w') : W p l e R s m args below meth c H locs cells slots Q (F0 m pc ls (S.map (pVal b base))) := by
  obtain ⟨hx, hb, hml, hown, hts, hini, hX, hbb, hbs, hRf, hRl, hAO⟩ := id C
  simp only [pChk2, Bool.and_eq_true] at hq
  obtain ⟨h1, h2, h3, h4⟩ := hq
  have hlk := pFL_ok _ (List.contains_iff_mem.mp h1)
  have h2 := Nat.le_of_ble_eq_true h2
  have h3 := Nat.le_of_ble_eq_true h3
  have hlen := Nat.eq_of_beq_eq_true h4
  subst hlen
  cases S with
  | nil => simp [pStep] at h
  | cons v T =>
    cases v with
    | ref a =>
      cases hw : w.1[a]? with
      | none => simp [pStep, hw] at h
      | some sc =>
        cases sc with
        | inr _ => simp [pStep, hw] at h
        | inl ci =>
          simp only [pStep, hw, Option.some.injEq, Prod.mk.injEq] at h
          obtain ⟨hc, rfl, rfl, rfl, rfl⟩ := h
          have hc := Nat.eq_of_beq_eq_true hc
          subst hc
          obtain ⟨⟨tys, hK, ht⟩, hP, hl2⟩ := id hRel
          have he : (pWs w b base cid)[a]? = some (base + a, .inr (ci, (List.range (pN ci)).map (fun k => pVal b base (pFv w ci k a)))) := by rw [pWs_at (pW_lt hw), pEnt_o hw]
          exact va_get (D := D) hx hb hts (pUW ci h2) hown hK hP a he (pClA ci h2) y h3 (hts _ (pW_in hlk rfl)) (fun _ h9 => h9) (v := pVal b base (pFv w ci y a)) (by rw [List.getElem?_map, List.getElem?_range h3]; rfl) hd (kk H locs ls cid cells slots hRel hS hl hcnt rfl)
    | _ => simp [pStep] at h

theorem p_step_putfield {i : Nat} {len x y : Nat} {sw : List (Nat × Nat)} {L : pLT} {S : List Value} {pc' : Nat} {L' : pLT} {S' : List Value} {w' : pWD} (C : pCx p R s m args meth c b base X k) (hd : decode (pB k) pc = .ok (.putfield i, len)) (hq : pChk2 k pc (.putfield i, len, x, y, sw) = true)
    (h : pStep X (.putfield i, len, x, y, sw) pc L S w = some (true, pc', L', S', w')) (hRel : pRel D w b base cid s H) (hS : va_S (fun q : Nat => base ≤ q) s.heap H locs) (hl : pLs b base (pL k) ls L) (hcnt : s.heap.size + cells = base + nC w) (hfc : cells + nC w' ≤ R.cells + nC w) (hfs : slots + nS w' ≤ R.slots + nS w)
    (kk : pK p l e R s m args below meth c slots Q D b base k w pc' L' S' w') : W p l e R s m args below meth c H locs cells slots Q (F0 m pc ls (S.map (pVal b base))) := by
  obtain ⟨hx, hb, hml, hown, hts, hini, hX, hbb, hbs, hRf, hRl, hAO⟩ := id C
  simp only [pChk2, Bool.and_eq_true] at hq
  obtain ⟨h1, h2, h3, h4, h5⟩ := hq
  have hlk := pFL_ok _ (List.contains_iff_mem.mp h1)
  have h2 := Nat.le_of_ble_eq_true h2
  have h3 := Nat.le_of_ble_eq_true h3
  have hlen := Nat.eq_of_beq_eq_true h4
  subst hlen
  have hfin : (pT x y).2.2.2 = false ∨ (pKd k = 2 ∧ pCi k = x) := by
    cases hz : (pT x y).2.2.2 with
    | false => exact Or.inl rfl
    | true =>
      simp only [hz, Bool.not_true, Bool.false_or, Bool.and_eq_true] at h5
      exact Or.inr ⟨Nat.eq_of_beq_eq_true h5.1, Nat.eq_of_beq_eq_true h5.2⟩
  cases S with
  | nil => simp [pStep] at h
  | cons u S =>
  cases S with
  | nil => cases u <;> simp [pStep] at h
  | cons v T =>
  cases v with
  | ref a =>
    cases hw : w.1[a]? with
    | none => cases u <;> simp [pStep, hw] at h
    | some sc =>
      cases sc with
      | inr _ => cases u <;> simp [pStep, hw] at h
      | inl ci =>
        cases u with
        | int v =>
          cases hty : pTy x y <;> simp only [pStep, hw, hty, Option.some.injEq, Prod.mk.injEq, reduceCtorEq, Bool.and_eq_true, Bool.or_eq_true, decide_eq_true_eq] at h
          · obtain ⟨hc, rfl, rfl, rfl, rfl⟩ := h
            have hc := Nat.eq_of_beq_eq_true hc
            subst hc
            exact p_put C hw h2 h3 hlk hfin (by rw [hty]; rfl) (by rw [hty]; rfl) hd hRel hS (fun H1 locs1 g1 g2 => kk H1 locs1 ls cid cells slots (pRel_f (v := .int v) (k := y) hRel hw rfl (fun q hq => upM_ne _ _ _ hq) (fun _ _ => rfl) (fun _ _ _ => rfl) (by simp only [pFv, hty, upM_at, if_true]) (fun j hj => by simp only [pFv, upM_at, if_neg hj] <;> rfl) g1) g2 hl hcnt rfl)
          · obtain ⟨⟨hc, hv⟩, rfl, rfl, rfl, rfl⟩ := h
            have hc := Nat.eq_of_beq_eq_true hc
            subst hc
            exact p_put C hw h2 h3 hlk hfin (by rw [hty]; rcases hv with rfl | rfl <;> rfl) (by rw [hty]; rcases hv with rfl | rfl <;> rfl) hd hRel hS (fun H1 locs1 g1 g2 => kk H1 locs1 ls cid cells slots (pRel_f (v := .int v) (k := y) hRel hw rfl (fun q hq => upM_ne _ _ _ hq) (fun _ _ => rfl) (fun _ _ _ => rfl) (by simp only [pFv, hty, upM_at, if_true]) (fun j hj => by simp only [pFv, upM_at, if_neg hj] <;> rfl) g1) g2 hl hcnt rfl)
        | long v =>
          cases hty : pTy x y <;> simp only [pStep, hw, hty, Option.some.injEq, Prod.mk.injEq, reduceCtorEq] at h
          obtain ⟨hc, rfl, rfl, rfl, rfl⟩ := h
          have hc := Nat.eq_of_beq_eq_true hc
          subst hc
          exact p_put C hw h2 h3 hlk hfin (by rw [hty]; rfl) (by rw [hty]; rfl) hd hRel hS (fun H1 locs1 g1 g2 => kk H1 locs1 ls cid cells slots (pRel_f (v := .long v) (k := y) hRel hw rfl (fun _ _ => rfl) (fun q hq => upM_ne _ _ _ hq) (fun _ _ _ => rfl) (by simp only [pFv, hty, upM_at, if_true]) (fun j hj => by simp only [pFv, upM_at, if_neg hj] <;> rfl) g1) g2 hl hcnt rfl)
        | ref v =>
          cases hty : pTy x y <;> simp only [pStep, hw, hty, Option.some.injEq, Prod.mk.injEq, reduceCtorEq, Bool.and_eq_true] at h
          all_goals
            obtain ⟨⟨hc, hk⟩, rfl, rfl, rfl, rfl⟩ := h
            have hc := Nat.eq_of_beq_eq_true hc
            have hk := Nat.le_of_ble_eq_true hk
            subst hc
            exact p_put C hw h2 h3 hlk hfin (by rw [hty]; rfl) (by rw [hty]; rfl) hd hRel hS (fun H1 locs1 g1 g2 => kk H1 locs1 ls cid cells slots (pRel_f (v := .ref v) (k := y) hRel hw (List.length_set) (fun _ _ => rfl) (fun _ _ => rfl) (fun q j hq => pR_set_ne (Or.inl hq)) (by simp only [pFv, hty, pR_set_at hk] <;> rfl) (fun j hj => by simp only [pFv, pR_set_ne (Or.inr hj)] <;> rfl) g1) g2 hl hcnt rfl)
        | _ => simp [pStep, hw] at h
  | _ => cases u <;> simp [pStep] at h

theorem p_step_iaload {len x y : Nat} {sw : List (Nat × Nat)} {L : pLT} {S : List Value} {pc' : Nat} {L' : pLT} {S' : List Value} {w' : pWD} (C : pCx p R s m args meth c b base X k) (hd : decode (pB k) pc = .ok (.iaload, len)) (hq : pChk2 k pc (.iaload, len, x, y, sw) = true)
    (h : pStep X (.iaload, len, x, y, sw) pc L S w = some (true, pc', L', S', w')) (hRel : pRel D w b base cid s H) (hS : va_S (fun q : Nat => base ≤ q) s.heap H locs) (hl : pLs b base (pL k) ls L) (hcnt : s.heap.size + cells = base + nC w) (hfc : cells + nC w' ≤ R.cells + nC w) (hfs : slots + nS w' ≤ R.slots + nS w)
    (kk : pK p l e R s m args below meth c slots Q D b base k w pc' L' S' w') : W p l e R s m args below meth c H locs cells slots Q (F0 m pc ls (S.map (pVal b base))) := by
  obtain ⟨hx, hb, hml, hown, hts, hini, hX, hbb, hbs, hRf, hRl, hAO⟩ := id C
  simp only [pChk2] at hq
  have hlen := Nat.eq_of_beq_eq_true hq
  subst hlen
  cases S with
  | nil => simp [pStep] at h
  | cons u S =>
  cases S with
  | nil => cases u <;> simp [pStep] at h
  | cons v T =>
  cases u with
  | int i =>
    cases v with
    | ref a =>
      cases hw : w.1[a]? with
      | none => simp [pStep, hw] at h
      | some sc =>
        cases sc with
        | inl _ => simp [pStep, hw] at h
        | inr t =>
          obtain ⟨ty, n⟩ := t
          obtain ⟨⟨tys, hK, ht⟩, hP, hl2⟩ := id hRel
          obtain ⟨t0, ht0⟩ := List.getElem?_of_mem (ht a ty n hw)
          cases ty <;> simp only [pStep, hw, Option.some.injEq, Prod.mk.injEq, reduceCtorEq] at h
          obtain ⟨hc, rfl, rfl, rfl, rfl⟩ := h
          exact va_iald hx hb hK hP a t0 (by rw [pWs_at (pW_lt hw), pEnt_i hw (Or.inl rfl)]) ht0 (pIn_vp hc) hd (kk H locs ls cid cells slots hRel hS hl hcnt rfl)
    | retAddr z =>
      simp only [pStep, Option.some.injEq, Prod.mk.injEq] at h
      obtain ⟨hc, rfl, rfl, rfl, rfl⟩ := h
      exact va_sld hx hb hX (Nat.lt_of_lt_of_le hbb hbs) (Nat.not_le.mpr hbb) hS (pIn_vp hc) hd (kk H locs ls cid cells slots hRel hS hl hcnt rfl)
    | _ => simp [pStep] at h
  | _ => cases v <;> simp [pStep] at h

theorem p_step_baload {len x y : Nat} {sw : List (Nat × Nat)} {L : pLT} {S : List Value} {pc' : Nat} {L' : pLT} {S' : List Value} {w' : pWD} (C : pCx p R s m args meth c b base X k) (hd : decode (pB k) pc = .ok (.baload, len)) (hq : pChk2 k pc (.baload, len, x, y, sw) = true)
    (h : pStep X (.baload, len, x, y, sw) pc L S w = some (true, pc', L', S', w')) (hRel : pRel D w b base cid s H) (hS : va_S (fun q : Nat => base ≤ q) s.heap H locs) (hl : pLs b base (pL k) ls L) (hcnt : s.heap.size + cells = base + nC w) (hfc : cells + nC w' ≤ R.cells + nC w) (hfs : slots + nS w' ≤ R.slots + nS w)
    (kk : pK p l e R s m args below meth c slots Q D b base k w pc' L' S' w') : W p l e R s m args below meth c H locs cells slots Q (F0 m pc ls (S.map (pVal b base))) := by
  obtain ⟨hx, hb, hml, hown, hts, hini, hX, hbb, hbs, hRf, hRl, hAO⟩ := id C
  simp only [pChk2] at hq
  have hlen := Nat.eq_of_beq_eq_true hq
  subst hlen
  cases S with
  | nil => simp [pStep] at h
  | cons u S =>
  cases S with
  | nil => cases u <;> simp [pStep] at h
  | cons v T =>
  cases u with
  | int i =>
    cases v with
    | ref a =>
      cases hw : w.1[a]? with
      | none => simp [pStep, hw] at h
      | some sc =>
        cases sc with
        | inl _ => simp [pStep, hw] at h
        | inr t =>
          obtain ⟨ty, n⟩ := t
          obtain ⟨⟨tys, hK, ht⟩, hP, hl2⟩ := id hRel
          obtain ⟨t0, ht0⟩ := List.getElem?_of_mem (ht a ty n hw)
          cases ty <;> simp only [pStep, hw, Option.some.injEq, Prod.mk.injEq, reduceCtorEq] at h
          · obtain ⟨hc, rfl, rfl, rfl, rfl⟩ := h
            exact va_bald hx hb hK hP a t0 (by rw [pWs_at (pW_lt hw), pEnt_i hw (Or.inr (Or.inl rfl))]) ht0 (pIn_vp hc) hd (kk H locs ls cid cells slots hRel hS hl hcnt rfl)
          · obtain ⟨hc, rfl, rfl, rfl, rfl⟩ := h
            exact va_zald hx hb hK hP a t0 (by rw [pWs_at (pW_lt hw), pEnt_i hw (Or.inr (Or.inr rfl))]) ht0 (pIn_vp hc) hd (kk H locs ls cid cells slots hRel hS hl hcnt rfl)
    | _ => simp [pStep] at h
  | _ => cases v <;> simp [pStep] at h

theorem p_step_laload {len x y : Nat} {sw : List (Nat × Nat)} {L : pLT} {S : List Value} {pc' : Nat} {L' : pLT} {S' : List Value} {w' : pWD} (C : pCx p R s m args meth c b base X k) (hd : decode (pB k) pc = .ok (.laload, len)) (hq : pChk2 k pc (.laload, len, x, y, sw) = true)
    (h : pStep X (.laload, len, x, y, sw) pc L S w = some (true, pc', L', S', w')) (hRel : pRel D w b base cid s H) (hS : va_S (fun q : Nat => base ≤ q) s.heap H locs) (hl : pLs b base (pL k) ls L) (hcnt : s.heap.size + cells = base + nC w) (hfc : cells + nC w' ≤ R.cells + nC w) (hfs : slots + nS w' ≤ R.slots + nS w)
    (kk : pK p l e R s m args below meth c slots Q D b base k w pc' L' S' w') : W p l e R s m args below meth c H locs cells slots Q (F0 m pc ls (S.map (pVal b base))) := by
  obtain ⟨hx, hb, hml, hown, hts, hini, hX, hbb, hbs, hRf, hRl, hAO⟩ := id C
  simp only [pChk2] at hq
  have hlen := Nat.eq_of_beq_eq_true hq
  subst hlen
  cases S with
  | nil => simp [pStep] at h
  | cons u S =>
  cases S with
  | nil => cases u <;> simp [pStep] at h
  | cons v T =>
  cases u with
  | int i =>
    cases v with
    | ref a =>
      cases hw : w.1[a]? with
      | none => simp [pStep, hw] at h
      | some sc =>
        cases sc with
        | inl _ => simp [pStep, hw] at h
        | inr t =>
          obtain ⟨ty, n⟩ := t
          obtain ⟨⟨tys, hK, ht⟩, hP, hl2⟩ := id hRel
          obtain ⟨t0, ht0⟩ := List.getElem?_of_mem (ht a ty n hw)
          cases ty <;> simp only [pStep, hw, Option.some.injEq, Prod.mk.injEq, reduceCtorEq] at h
          obtain ⟨hc, rfl, rfl, rfl, rfl⟩ := h
          exact va_lald hx hb hK hP a t0 (by rw [pWs_at (pW_lt hw), pEnt_l hw]) ht0 (pIn_vp hc) hd (kk H locs ls cid cells slots hRel hS hl hcnt rfl)
    | _ => simp [pStep] at h
  | _ => cases v <;> simp [pStep] at h

theorem p_step_aaload {len x y : Nat} {sw : List (Nat × Nat)} {L : pLT} {S : List Value} {pc' : Nat} {L' : pLT} {S' : List Value} {w' : pWD} (C : pCx p R s m args meth c b base X k) (hd : decode (pB k) pc = .ok (.aaload, len)) (hq : pChk2 k pc (.aaload, len, x, y, sw) = true)
    (h : pStep X (.aaload, len, x, y, sw) pc L S w = some (true, pc', L', S', w')) (hRel : pRel D w b base cid s H) (hS : va_S (fun q : Nat => base ≤ q) s.heap H locs) (hl : pLs b base (pL k) ls L) (hcnt : s.heap.size + cells = base + nC w) (hfc : cells + nC w' ≤ R.cells + nC w) (hfs : slots + nS w' ≤ R.slots + nS w)
    (kk : pK p l e R s m args below meth c slots Q D b base k w pc' L' S' w') : W p l e R s m args below meth c H locs cells slots Q (F0 m pc ls (S.map (pVal b base))) := by
  obtain ⟨hx, hb, hml, hown, hts, hini, hX, hbb, hbs, hRf, hRl, hAO⟩ := id C
  simp only [pChk2] at hq
  have hlen := Nat.eq_of_beq_eq_true hq
  subst hlen
  cases S with
  | nil => simp [pStep] at h
  | cons u S =>
  cases S with
  | nil => cases u <;> simp [pStep] at h
  | cons v T =>
  cases u with
  | int i =>
    cases v with
    | ref a =>
      cases hw : w.1[a]? with
      | none => simp [pStep, hw] at h
      | some sc =>
        cases sc with
        | inl _ => simp [pStep, hw] at h
        | inr t =>
          obtain ⟨ty, n⟩ := t
          obtain ⟨⟨tys, hK, ht⟩, hP, hl2⟩ := id hRel
          obtain ⟨t0, ht0⟩ := List.getElem?_of_mem (ht a ty n hw)
          cases ty <;> simp only [pStep, hw, Option.some.injEq, Prod.mk.injEq, reduceCtorEq] at h
          obtain ⟨hc, rfl, rfl, rfl, rfl⟩ := h
          refine va_aldq hx hb hK hP a t0 (by rw [pWs_at (pW_lt hw), pEnt_q hw]) ht0 (pIn_vp hc) hd ?_
          rw [← pVal_rf b base]
          exact kk H locs ls cid cells slots hRel hS hl hcnt rfl
    | _ => simp [pStep] at h
  | _ => cases v <;> simp [pStep] at h

theorem p_step_iastore {len x y : Nat} {sw : List (Nat × Nat)} {L : pLT} {S : List Value} {pc' : Nat} {L' : pLT} {S' : List Value} {w' : pWD} (C : pCx p R s m args meth c b base X k) (hd : decode (pB k) pc = .ok (.iastore, len)) (hq : pChk2 k pc (.iastore, len, x, y, sw) = true)
    (h : pStep X (.iastore, len, x, y, sw) pc L S w = some (true, pc', L', S', w')) (hRel : pRel D w b base cid s H) (hS : va_S (fun q : Nat => base ≤ q) s.heap H locs) (hl : pLs b base (pL k) ls L) (hcnt : s.heap.size + cells = base + nC w) (hfc : cells + nC w' ≤ R.cells + nC w) (hfs : slots + nS w' ≤ R.slots + nS w)
    (kk : pK p l e R s m args below meth c slots Q D b base k w pc' L' S' w') : W p l e R s m args below meth c H locs cells slots Q (F0 m pc ls (S.map (pVal b base))) := by
  obtain ⟨hx, hb, hml, hown, hts, hini, hX, hbb, hbs, hRf, hRl, hAO⟩ := id C
  simp only [pChk2] at hq
  have hlen := Nat.eq_of_beq_eq_true hq
  subst hlen
  cases S with
  | nil => simp [pStep] at h
  | cons u S =>
  cases S with
  | nil => cases u <;> simp [pStep] at h
  | cons v S =>
  cases S with
  | nil => cases u <;> cases v <;> simp [pStep] at h
  | cons z T =>
  cases u with
  | int x0 =>
    cases v with
    | int i =>
      cases z with
      | ref a =>
        cases hw : w.1[a]? with
        | none => simp [pStep, hw] at h
        | some sc =>
          cases sc with
          | inl _ => simp [pStep, hw] at h
          | inr t =>
            obtain ⟨ty, n⟩ := t
            obtain ⟨⟨tys, hK, ht⟩, hP, hl2⟩ := id hRel
            obtain ⟨t0, ht0⟩ := List.getElem?_of_mem (ht a ty n hw)
            cases ty <;> simp only [pStep, hw, Option.some.injEq, Prod.mk.injEq, reduceCtorEq] at h
            obtain ⟨hc, rfl, rfl, rfl, rfl⟩ := h
            exact va_iast hx hb hK hP (pWs_D w b base cid) hS a t0 (by rw [pWs_at (pW_lt hw), pEnt_i hw (Or.inl rfl)]) ht0 (pIn_vp hc) hd (fun H1 locs1 g1 _ g3 => kk H1 locs1 ls cid cells slots (pRel_i hRel hw (Or.inl rfl) (upM_at _ _ _ _) (fun q hq => upM_ne _ _ _ hq) g1) g3 hl hcnt rfl)
      | _ => simp [pStep] at h
    | _ => cases z <;> simp [pStep] at h
  | _ => cases v <;> cases z <;> simp [pStep] at h

theorem p_step_bastore {len x y : Nat} {sw : List (Nat × Nat)} {L : pLT} {S : List Value} {pc' : Nat} {L' : pLT} {S' : List Value} {w' : pWD} (C : pCx p R s m args meth c b base X k) (hd : decode (pB k) pc = .ok (.bastore, len)) (hq : pChk2 k pc (.bastore, len, x, y, sw) = true)
    (h : pStep X (.bastore, len, x, y, sw) pc L S w = some (true, pc', L', S', w')) (hRel : pRel D w b base cid s H) (hS : va_S (fun q : Nat => base ≤ q) s.heap H locs) (hl : pLs b base (pL k) ls L) (hcnt : s.heap.size + cells = base + nC w) (hfc : cells + nC w' ≤ R.cells + nC w) (hfs : slots + nS w' ≤ R.slots + nS w)
    (kk : pK p l e R s m args below meth c slots Q D b base k w pc' L' S' w') : W p l e R s m args below meth c H locs cells slots Q (F0 m pc ls (S.map (pVal b base))) := by
  obtain ⟨hx, hb, hml, hown, hts, hini, hX, hbb, hbs, hRf, hRl, hAO⟩ := id C
  simp only [pChk2] at hq
  have hlen := Nat.eq_of_beq_eq_true hq
  subst hlen
  cases S with
  | nil => simp [pStep] at h
  | cons u S =>
  cases S with
  | nil => cases u <;> simp [pStep] at h
  | cons v S =>
  cases S with
  | nil => cases u <;> cases v <;> simp [pStep] at h
  | cons z T =>
  cases u with
  | int x0 =>
    cases v with
    | int i =>
      cases z with
      | ref a =>
        cases hw : w.1[a]? with
        | none => simp [pStep, hw] at h
        | some sc =>
          cases sc with
          | inl _ => simp [pStep, hw] at h
          | inr t =>
            obtain ⟨ty, n⟩ := t
            obtain ⟨⟨tys, hK, ht⟩, hP, hl2⟩ := id hRel
            obtain ⟨t0, ht0⟩ := List.getElem?_of_mem (ht a ty n hw)
            cases ty <;> simp only [pStep, hw, Option.some.injEq, Prod.mk.injEq, reduceCtorEq] at h
            · obtain ⟨hc, rfl, rfl, rfl, rfl⟩ := h
              exact va_bast hx hb hK hP (pWs_D w b base cid) hS a t0 (by rw [pWs_at (pW_lt hw), pEnt_i hw (Or.inr (Or.inl rfl))]) ht0 (pIn_vp hc) hd (fun H1 locs1 g1 _ g3 => kk H1 locs1 ls cid cells slots (pRel_i hRel hw (Or.inr (Or.inl rfl)) (upM_at _ _ _ _) (fun q hq => upM_ne _ _ _ hq) g1) g3 hl hcnt rfl)
            · obtain ⟨hc, rfl, rfl, rfl, rfl⟩ := h
              exact va_zast hx hb hK hP (pWs_D w b base cid) hS a t0 (by rw [pWs_at (pW_lt hw), pEnt_i hw (Or.inr (Or.inr rfl))]) ht0 (pIn_vp hc) hd (fun H1 locs1 g1 _ g3 => kk H1 locs1 ls cid cells slots (pRel_i hRel hw (Or.inr (Or.inr rfl)) (upM_at _ _ _ _) (fun q hq => upM_ne _ _ _ hq) g1) g3 hl hcnt rfl)
      | _ => simp [pStep] at h
    | _ => cases z <;> simp [pStep] at h
  | _ => cases v <;> cases z <;> simp [pStep] at h

theorem p_step_lastore {len x y : Nat} {sw : List (Nat × Nat)} {L : pLT} {S : List Value} {pc' : Nat} {L' : pLT} {S' : List Value} {w' : pWD} (C : pCx p R s m args meth c b base X k) (hd : decode (pB k) pc = .ok (.lastore, len)) (hq : pChk2 k pc (.lastore, len, x, y, sw) = true)
    (h : pStep X (.lastore, len, x, y, sw) pc L S w = some (true, pc', L', S', w')) (hRel : pRel D w b base cid s H) (hS : va_S (fun q : Nat => base ≤ q) s.heap H locs) (hl : pLs b base (pL k) ls L) (hcnt : s.heap.size + cells = base + nC w) (hfc : cells + nC w' ≤ R.cells + nC w) (hfs : slots + nS w' ≤ R.slots + nS w)
    (kk : pK p l e R s m args below meth c slots Q D b base k w pc' L' S' w') : W p l e R s m args below meth c H locs cells slots Q (F0 m pc ls (S.map (pVal b base))) := by
  obtain ⟨hx, hb, hml, hown, hts, hini, hX, hbb, hbs, hRf, hRl, hAO⟩ := id C
  simp only [pChk2] at hq
  have hlen := Nat.eq_of_beq_eq_true hq
  subst hlen
  cases S with
  | nil => simp [pStep] at h
  | cons u S =>
  cases S with
  | nil => cases u <;> simp [pStep] at h
  | cons v S =>
  cases S with
  | nil => cases u <;> cases v <;> simp [pStep] at h
  | cons z T =>
  cases u with
  | long x0 =>
    cases v with
    | int i =>
      cases z with
      | ref a =>
        cases hw : w.1[a]? with
        | none => simp [pStep, hw] at h
        | some sc =>
          cases sc with
          | inl _ => simp [pStep, hw] at h
          | inr t =>
            obtain ⟨ty, n⟩ := t
            obtain ⟨⟨tys, hK, ht⟩, hP, hl2⟩ := id hRel
            obtain ⟨t0, ht0⟩ := List.getElem?_of_mem (ht a ty n hw)
            cases ty <;> simp only [pStep, hw, Option.some.injEq, Prod.mk.injEq, reduceCtorEq] at h
            obtain ⟨hc, rfl, rfl, rfl, rfl⟩ := h
            exact va_last hx hb hK hP (pWs_D w b base cid) hS a t0 (by rw [pWs_at (pW_lt hw), pEnt_l hw]) ht0 (pIn_vp hc) hd (fun H1 locs1 g1 _ g3 => kk H1 locs1 ls cid cells slots (pRel_l hRel hw (upM_at _ _ _ _) (fun q hq => upM_ne _ _ _ hq) g1) g3 hl hcnt rfl)
      | _ => simp [pStep] at h
    | _ => cases z <;> simp [pStep] at h
  | _ => cases v <;> cases z <;> simp [pStep] at h

theorem p_step_aastore {len x y : Nat} {sw : List (Nat × Nat)} {L : pLT} {S : List Value} {pc' : Nat} {L' : pLT} {S' : List Value} {w' : pWD} (C : pCx p R s m args meth c b base X k) (hd : decode (pB k) pc = .ok (.aastore, len)) (hq : pChk2 k pc (.aastore, len, x, y, sw) = true)
    (h : pStep X (.aastore, len, x, y, sw) pc L S w = some (true, pc', L', S', w')) (hRel : pRel D w b base cid s H) (hS : va_S (fun q : Nat => base ≤ q) s.heap H locs) (hl : pLs b base (pL k) ls L) (hcnt : s.heap.size + cells = base + nC w) (hfc : cells + nC w' ≤ R.cells + nC w) (hfs : slots + nS w' ≤ R.slots + nS w)
    (kk : pK p l e R s m args below meth c slots Q D b base k w pc' L' S' w') : W p l e R s m args below meth c H locs cells slots Q (F0 m pc ls (S.map (pVal b base))) := by
  obtain ⟨hx, hb, hml, hown, hts, hini, hX, hbb, hbs, hRf, hRl, hAO⟩ := id C
  simp only [pChk2] at hq
  have hlen := Nat.eq_of_beq_eq_true hq
  subst hlen
  cases S with
  | nil => simp [pStep] at h
  | cons u S =>
  cases S with
  | nil => cases u <;> simp [pStep] at h
  | cons v S =>
  cases S with
  | nil => cases u <;> cases v <;> simp [pStep] at h
  | cons z T =>
  cases u with
  | ref x0 =>
    cases v with
    | int i =>
      cases z with
      | ref a =>
        cases hw : w.1[a]? with
        | none => simp [pStep, hw] at h
        | some sc =>
          cases sc with
          | inl _ => simp [pStep, hw] at h
          | inr t =>
            obtain ⟨ty, n⟩ := t
            obtain ⟨⟨tys, hK, ht⟩, hP, hl2⟩ := id hRel
            obtain ⟨t0, ht0⟩ := List.getElem?_of_mem (ht a ty n hw)
            cases hw2 : w.1[x0]? with
            | none => cases ty <;> simp [pStep, hw, hw2] at h
            | some sc2 =>
              cases sc2 with
              | inr _ => cases ty <;> simp [pStep, hw, hw2] at h
              | inl ci =>
                cases ty <;> simp only [pStep, hw, hw2, Option.some.injEq, Prod.mk.injEq, reduceCtorEq, Bool.and_eq_true, decide_eq_true_eq] at h
                obtain ⟨⟨⟨hc, hc2, hc3⟩, hk⟩, rfl, rfl, rfl, rfl⟩ := h
                have hc3 := Nat.le_of_ble_eq_true hc3
                have hk := Nat.le_of_ble_eq_true hk
                subst hc2
                exact va_astq hx hb hK hP (pWs_D w b base cid) hS a t0 x0 ci (by rw [pWs_at (pW_lt hw), pEnt_q hw]) ht0 (by rw [pWs_at (pW_lt hw2), pEnt_o hw2]) (pClA ci hc3) (pIn_vp hc) hd (fun H1 locs1 g1 _ g3 => kk H1 locs1 ls cid cells slots (pRel_q hRel hw hk g1) g3 hl hcnt rfl)
      | _ => simp [pStep] at h
    | _ => cases z <;> simp [pStep] at h
  | _ => cases v <;> cases z <;> simp [pStep] at h

theorem p_step_arraylength {len x y : Nat} {sw : List (Nat × Nat)} {L : pLT} {S : List Value} {pc' : Nat} {L' : pLT} {S' : List Value} {w' : pWD} (C : pCx p R s m args meth c b base X k) (hd : decode (pB k) pc = .ok (.arraylength, len)) (hq : pChk2 k pc (.arraylength, len, x, y, sw) = true)
    (h : pStep X (.arraylength, len, x, y, sw) pc L S w = some (true, pc', L', S', w')) (hRel : pRel D w b base cid s H) (hS : va_S (fun q : Nat => base ≤ q) s.heap H locs) (hl : pLs b base (pL k) ls L) (hcnt : s.heap.size + cells = base + nC w) (hfc : cells + nC w' ≤ R.cells + nC w) (hfs : slots + nS w' ≤ R.slots + nS w)
    (kk : pK p l e R s m args below meth c slots Q D b base k w pc' L' S' w') : W p l e R s m args below meth c H locs cells slots Q (F0 m pc ls (S.map (pVal b base))) := by
  obtain ⟨hx, hb, hml, hown, hts, hini, hX, hbb, hbs, hRf, hRl, hAO⟩ := id C
  simp only [pChk2] at hq
  have hlen := Nat.eq_of_beq_eq_true hq
  subst hlen
  cases S with
  | nil => simp [pStep] at h
  | cons v T =>
    cases v with
    | ref a =>
      cases hw : w.1[a]? with
      | none => simp [pStep, hw] at h
      | some sc =>
        cases sc with
        | inl _ => simp [pStep, hw] at h
        | inr t =>
          obtain ⟨ty, n⟩ := t
          obtain ⟨⟨tys, hK, ht⟩, hP, hl2⟩ := id hRel
          obtain ⟨t0, ht0⟩ := List.getElem?_of_mem (ht a ty n hw)
          simp only [pStep, hw, Option.some.injEq, Prod.mk.injEq] at h
          obtain ⟨-, rfl, rfl, rfl, rfl⟩ := h
          obtain ⟨xa, e1, e2⟩ := pEnt_a (b := b) (base := base) (cid := cid) hw
          subst e2
          exact va_alen hx hb hK hP a t0 (by rw [pWs_at (pW_lt hw), e1]) ht0 rfl hd (kk H locs ls cid cells slots hRel hS hl hcnt rfl)
    | retAddr z =>
      simp only [pStep, Option.some.injEq, Prod.mk.injEq] at h
      obtain ⟨-, rfl, rfl, rfl, rfl⟩ := h
      exact va_slen hx hb hX (Nat.lt_of_lt_of_le hbb hbs) (Nat.not_le.mpr hbb) hS hd (kk H locs ls cid cells slots hRel hS hl hcnt rfl)
    | _ => simp [pStep] at h

theorem p_step_new {i : Nat} {len x y : Nat} {sw : List (Nat × Nat)} {L : pLT} {S : List Value} {pc' : Nat} {L' : pLT} {S' : List Value} {w' : pWD} (C : pCx p R s m args meth c b base X k) (hd : decode (pB k) pc = .ok (.new i, len)) (hq : pChk2 k pc (.new i, len, x, y, sw) = true)
    (h : pStep X (.new i, len, x, y, sw) pc L S w = some (true, pc', L', S', w')) (hRel : pRel D w b base cid s H) (hS : va_S (fun q : Nat => base ≤ q) s.heap H locs) (hl : pLs b base (pL k) ls L) (hcnt : s.heap.size + cells = base + nC w) (hfc : cells + nC w' ≤ R.cells + nC w) (hfs : slots + nS w' ≤ R.slots + nS w)
    (kk : pK p l e R s m args below meth c slots Q D b base k w pc' L' S' w') : W p l e R s m args below meth c H locs cells slots Q (F0 m pc ls (S.map (pVal b base))) := by
  obtain ⟨hx, hb, hml, hown, hts, hini, hX, hbb, hbs, hRf, hRl, hAO⟩ := id C
  simp only [pChk2, Bool.and_eq_true] at hq
  obtain ⟨h1, h2, h4⟩ := hq
  have hlk := pKL_ok _ (List.contains_iff_mem.mp h1)
  have h2 := Nat.le_of_ble_eq_true h2
  have hlen := Nat.eq_of_beq_eq_true h4
  subst hlen
  simp only [pStep, Option.some.injEq, Prod.mk.injEq] at h
  obtain ⟨-, rfl, rfl, rfl, rfl⟩ := h
  have hCs : cells + 1 ≤ R.cells := by
    have : nC (w.1 ++ [.inl x], w.2.1 ++ [List.replicate (pN x) none], clM w.2.2.1 w.1.length 0, clM w.2.2.2 w.1.length 0) = nC w + 1 := by simp [nC]
    omega
  have hSs : slots + pN x ≤ R.slots := by
    have : nS (w.1 ++ [.inl x], w.2.1 ++ [List.replicate (pN x) none], clM w.2.2.1 w.1.length 0, clM w.2.2.2 w.1.length 0) = nS w + pN x := by simp [nS, nSz]
    omega
  obtain ⟨⟨tys, hK, ht⟩, hP, hl2⟩ := id hRel
  refine va_new (c0 := c) (fs := (List.range (pN x)).map (fun k => pVal b base (pFv (w.1 ++ [.inl x], w.2.1 ++ [List.replicate (pN x) none], clM w.2.2.1 w.1.length 0, clM w.2.2.2 w.1.length 0) x k w.1.length))) hx hb hts (pUW x h2) (pTy x) (pTyA x h2) hown (hts _ (pW_in hlk rfl)) (hts _ (pW_in (pIsA x h2).1 rfl)) (hts _ (pW_in (pIsA x h2).2 rfl)) hK hP (pWs_D w b base cid) hS (fun q hq => Nat.le_trans hbs hq) (pClA x h2) (fun j hj => ?_) hCs hSs hd (fun q H1 hP1 hD1 hS1 => ?_)
  · rw [vp_V, List.getD_eq_getElem?_getD, List.getElem?_map, List.getElem?_range hj, Option.map_some, Option.getD_some, pFv_new hl2 h2 hj]
  · refine pW_size fun z1 z2 => ?_
    have e1 : q = base + w.1.length := p_addr hP1 hD1 (by have : nC w = w.1.length := rfl; omega)
    subst e1
    exact kk H1 locs ls cid (cells + 1) (slots + pN x) (pRel_new hRel (fun _ _ => rfl) ⟨tys, hK, fun a ty n ha => by
      rcases Nat.lt_or_ge a w.1.length with g | g
      · rw [List.getElem?_append_left g] at ha
        exact ht a ty n ha
      · have g2 : a = w.1.length := by
          have := (List.getElem?_eq_some_iff.mp ha).1
          rw [List.length_append] at this
          have h3 : a < w.1.length + 1 := this
          omega
        subst g2
        rw [pNew_at] at ha
        cases ha⟩ (pEnt_o pNew_at) hP1) hS1 hl (by show s.heap.size + (cells + 1) = base + (w.1 ++ [(.inl x : pSC)]).length; rw [List.length_append]; show _ = base + (nC w + 1); omega) (by simp [nS, nSz]; omega)

theorem p_step_newarray {t : ArrayType} {len x y : Nat} {sw : List (Nat × Nat)} {L : pLT} {S : List Value} {pc' : Nat} {L' : pLT} {S' : List Value} {w' : pWD} (C : pCx p R s m args meth c b base X k) (hd : decode (pB k) pc = .ok (.newarray t, len)) (hq : pChk2 k pc (.newarray t, len, x, y, sw) = true)
    (h : pStep X (.newarray t, len, x, y, sw) pc L S w = some (true, pc', L', S', w')) (hRel : pRel D w b base cid s H) (hS : va_S (fun q : Nat => base ≤ q) s.heap H locs) (hl : pLs b base (pL k) ls L) (hcnt : s.heap.size + cells = base + nC w) (hfc : cells + nC w' ≤ R.cells + nC w) (hfs : slots + nS w' ≤ R.slots + nS w)
    (kk : pK p l e R s m args below meth c slots Q D b base k w pc' L' S' w') : W p l e R s m args below meth c H locs cells slots Q (F0 m pc ls (S.map (pVal b base))) := by
  obtain ⟨hx, hb, hml, hown, hts, hini, hX, hbb, hbs, hRf, hRl, hAO⟩ := id C
  simp only [pChk2, Bool.and_eq_true, Bool.or_eq_true, decide_eq_true_eq] at hq
  obtain ⟨h1, h2⟩ := hq
  have hlen := Nat.eq_of_beq_eq_true h1
  subst hlen
  cases S with
  | nil => simp [pStep] at h
  | cons v T =>
    cases v <;> simp only [pStep, Option.some.injEq, Prod.mk.injEq, reduceCtorEq, Bool.and_eq_true, Bool.not_eq_true', decide_eq_false_iff_not] at h
    rename_i n
    obtain ⟨⟨hn, hm⟩, rfl, rfl, rfl, rfl⟩ := h
    have hm := Nat.le_of_ble_eq_true hm
    have hCs : cells + 1 ≤ R.cells := by
      have : nC (w.1 ++ [.inr (newarray.typeOf t, n.toNatClampNeg)], w.2.1 ++ [[]], clM w.2.2.1 w.1.length 0, clM w.2.2.2 w.1.length 0) = nC w + 1 := by simp [nC]
      omega
    have hSs : slots + n.toNatClampNeg ≤ R.slots := by
      have : nS (w.1 ++ [.inr (newarray.typeOf t, n.toNatClampNeg)], w.2.1 ++ [[]], clM w.2.2.1 w.1.length 0, clM w.2.2.2 w.1.length 0) = nS w + n.toNatClampNeg := by simp [nS, nSz]
      omega
    obtain ⟨⟨tys, hK, ht⟩, hP, hl2⟩ := id hRel
    rcases h2 with hty | hty | hty | hty
    · refine va_newa (ty := .int) (a0 := (n.toNatClampNeg, .inl (fun _ => 0))) hx hb (hts _ (pW_in (by rw [hty]; exact pAC_int) rfl)) hty hK hP (pWs_D w b base cid) hS (fun q hq => Nat.le_trans hbs hq) (fun cA => rfl) hn rfl (Nat.le_trans (Nat.mul_le_mul_right _ hm) (by decide)) hCs hSs hd (fun q cA H1 hK1 hP1 hD1 hS1 => ?_)
      refine pW_size fun z1 z2 => ?_
      have e1 : q = base + w.1.length := p_addr hP1 hD1 (by have : nC w = w.1.length := rfl; omega)
      subst e1
      refine kk H1 locs ls (fun q => if q = w.1.length then cA else cid q) (cells + 1) (slots + n.toNatClampNeg) (pRel_new hRel (fun q hq => if_neg (by omega)) (pNew_K (b := b) (base := base) (H := H) ht (by rw [hty]; exact hK1)) ?_ hP1) hS1 hl (by show s.heap.size + (cells + 1) = base + (w.1 ++ [(.inr (newarray.typeOf t, n.toNatClampNeg) : pSC)]).length; rw [List.length_append]; show _ = base + (nC w + 1); omega) (by simp [nS, nSz]; omega)
      rw [pEnt_i (ty := .int) (by rw [← hty]; exact pNew_at) (Or.inl rfl)]
      simp only [if_true, clM_at]
    · refine va_newa (ty := .long) (a0 := (n.toNatClampNeg, .inr (.inl (fun _ => 0)))) hx hb (hts _ (pW_in (by rw [hty]; exact pAC_long) rfl)) hty hK hP (pWs_D w b base cid) hS (fun q hq => Nat.le_trans hbs hq) (fun cA => rfl) hn rfl (Nat.le_trans (Nat.mul_le_mul_right _ hm) (by decide)) hCs hSs hd (fun q cA H1 hK1 hP1 hD1 hS1 => ?_)
      refine pW_size fun z1 z2 => ?_
      have e1 : q = base + w.1.length := p_addr hP1 hD1 (by have : nC w = w.1.length := rfl; omega)
      subst e1
      refine kk H1 locs ls (fun q => if q = w.1.length then cA else cid q) (cells + 1) (slots + n.toNatClampNeg) (pRel_new hRel (fun q hq => if_neg (by omega)) (pNew_K (b := b) (base := base) (H := H) ht (by rw [hty]; exact hK1)) ?_ hP1) hS1 hl (by show s.heap.size + (cells + 1) = base + (w.1 ++ [(.inr (newarray.typeOf t, n.toNatClampNeg) : pSC)]).length; rw [List.length_append]; show _ = base + (nC w + 1); omega) (by simp [nS, nSz]; omega)
      rw [pEnt_l (by rw [← hty]; exact pNew_at)]
      simp only [if_true, clM_at]
    · refine va_newa (ty := .byte) (a0 := (n.toNatClampNeg, .inl (fun _ => 0))) hx hb (hts _ (pW_in (by rw [hty]; exact pAC_byte) rfl)) hty hK hP (pWs_D w b base cid) hS (fun q hq => Nat.le_trans hbs hq) (fun cA => rfl) hn rfl (Nat.le_trans (Nat.mul_le_mul_right _ hm) (by decide)) hCs hSs hd (fun q cA H1 hK1 hP1 hD1 hS1 => ?_)
      refine pW_size fun z1 z2 => ?_
      have e1 : q = base + w.1.length := p_addr hP1 hD1 (by have : nC w = w.1.length := rfl; omega)
      subst e1
      refine kk H1 locs ls (fun q => if q = w.1.length then cA else cid q) (cells + 1) (slots + n.toNatClampNeg) (pRel_new hRel (fun q hq => if_neg (by omega)) (pNew_K (b := b) (base := base) (H := H) ht (by rw [hty]; exact hK1)) ?_ hP1) hS1 hl (by show s.heap.size + (cells + 1) = base + (w.1 ++ [(.inr (newarray.typeOf t, n.toNatClampNeg) : pSC)]).length; rw [List.length_append]; show _ = base + (nC w + 1); omega) (by simp [nS, nSz]; omega)
      rw [pEnt_i (ty := .byte) (by rw [← hty]; exact pNew_at) (Or.inr (Or.inl rfl))]
      simp only [if_true, clM_at]
    · refine va_newa (ty := .boolean) (a0 := (n.toNatClampNeg, .inl (fun _ => 0))) hx hb (hts _ (pW_in (by rw [hty]; exact pAC_boolean) rfl)) hty hK hP (pWs_D w b base cid) hS (fun q hq => Nat.le_trans hbs hq) (fun cA => rfl) hn rfl (Nat.le_trans (Nat.mul_le_mul_right _ hm) (by decide)) hCs hSs hd (fun q cA H1 hK1 hP1 hD1 hS1 => ?_)
      refine pW_size fun z1 z2 => ?_
      have e1 : q = base + w.1.length := p_addr hP1 hD1 (by have : nC w = w.1.length := rfl; omega)
      subst e1
      refine kk H1 locs ls (fun q => if q = w.1.length then cA else cid q) (cells + 1) (slots + n.toNatClampNeg) (pRel_new hRel (fun q hq => if_neg (by omega)) (pNew_K (b := b) (base := base) (H := H) ht (by rw [hty]; exact hK1)) ?_ hP1) hS1 hl (by show s.heap.size + (cells + 1) = base + (w.1 ++ [(.inr (newarray.typeOf t, n.toNatClampNeg) : pSC)]).length; rw [List.length_append]; show _ = base + (nC w + 1); omega) (by simp [nS, nSz]; omega)
      rw [pEnt_i (ty := .boolean) (by rw [← hty]; exact pNew_at) (Or.inr (Or.inr rfl))]
      simp only [if_true, clM_at]

theorem p_step_anewarray {i : Nat} {len x y : Nat} {sw : List (Nat × Nat)} {L : pLT} {S : List Value} {pc' : Nat} {L' : pLT} {S' : List Value} {w' : pWD} (C : pCx p R s m args meth c b base X k) (hd : decode (pB k) pc = .ok (.anewarray i, len)) (hq : pChk2 k pc (.anewarray i, len, x, y, sw) = true)
    (h : pStep X (.anewarray i, len, x, y, sw) pc L S w = some (true, pc', L', S', w')) (hRel : pRel D w b base cid s H) (hS : va_S (fun q : Nat => base ≤ q) s.heap H locs) (hl : pLs b base (pL k) ls L) (hcnt : s.heap.size + cells = base + nC w) (hfc : cells + nC w' ≤ R.cells + nC w) (hfs : slots + nS w' ≤ R.slots + nS w)
    (kk : pK p l e R s m args below meth c slots Q D b base k w pc' L' S' w') : W p l e R s m args below meth c H locs cells slots Q (F0 m pc ls (S.map (pVal b base))) := by
  obtain ⟨hx, hb, hml, hown, hts, hini, hX, hbb, hbs, hRf, hRl, hAO⟩ := id C
  simp only [pChk2, Bool.and_eq_true] at hq
  obtain ⟨h1, h2, h4⟩ := hq
  have hlk := pKL_ok _ (List.contains_iff_mem.mp h1)
  have h2 := Nat.eq_of_beq_eq_true h2

  subst h2
  have hlen := Nat.eq_of_beq_eq_true h4
  subst hlen
  cases S with
  | nil => simp [pStep] at h
  | cons v T =>
    cases v <;> simp only [pStep, Option.some.injEq, Prod.mk.injEq, reduceCtorEq, Bool.and_eq_true, Bool.not_eq_true', decide_eq_false_iff_not] at h
    rename_i n
    obtain ⟨⟨hn, hm⟩, rfl, rfl, rfl, rfl⟩ := h
    have hm := Nat.le_of_ble_eq_true hm
    have hCs : cells + 1 ≤ R.cells := by
      have : nC (w.1 ++ [.inr (.object (pNm 4), n.toNatClampNeg)], w.2.1 ++ [List.replicate n.toNatClampNeg none], clM w.2.2.1 w.1.length 0, clM w.2.2.2 w.1.length 0) = nC w + 1 := by simp [nC]
      omega
    have hSs : slots + n.toNatClampNeg ≤ R.slots := by
      have : nS (w.1 ++ [.inr (.object (pNm 4), n.toNatClampNeg)], w.2.1 ++ [List.replicate n.toNatClampNeg none], clM w.2.2.1 w.1.length 0, clM w.2.2.2 w.1.length 0) = nS w + n.toNatClampNeg := by simp [nS, nSz]
      omega
    obtain ⟨⟨tys, hK, ht⟩, hP, hl2⟩ := id hRel
    refine va_newq hx hb hown (hts _ (pW_in hlk rfl)) hAO.1 hK hP (pWs_D w b base cid) hS (fun q hq => Nat.le_trans hbs hq) hn rfl (Nat.le_trans (Nat.mul_le_mul_right _ hm) (by decide)) hCs hSs hd (fun q cA H1 hK1 hP1 hD1 hS1 => ?_)
    refine pW_size fun z1 z2 => ?_
    have e1 : q = base + w.1.length := p_addr hP1 hD1 (by have : nC w = w.1.length := rfl; omega)
    subst e1
    refine kk H1 locs ls (fun q => if q = w.1.length then cA else cid q) (cells + 1) (slots + n.toNatClampNeg) (pRel_new hRel (fun q hq => if_neg (by omega)) (pNew_K (b := b) (base := base) (H := H) ht hK1) ?_ hP1) hS1 hl (by show s.heap.size + (cells + 1) = base + (w.1 ++ [(.inr (.object (pNm 4), n.toNatClampNeg) : pSC)]).length; rw [List.length_append]; show _ = base + (nC w + 1); omega) (by simp [nS, nSz]; omega)
    rw [pEnt_q pNew_at]
    simp only [if_true]
    congr 7
    funext j
    rw [pR_new hl2, List.getD_eq_getElem?_getD, List.getElem?_replicate]
    split <;> rfl

theorem p_step_invokespecial {i : Nat} {len x y : Nat} {sw : List (Nat × Nat)} {L : pLT} {S : List Value} {pc' : Nat} {L' : pLT} {S' : List Value} {w' : pWD} (C : pCx p R s m args meth c b base X k) (hd : decode (pB k) pc = .ok (.invokespecial i, len)) (hq : pChk2 k pc (.invokespecial i, len, x, y, sw) = true)
    (h : pStep X (.invokespecial i, len, x, y, sw) pc L S w = some (true, pc', L', S', w')) (hRel : pRel D w b base cid s H) (hS : va_S (fun q : Nat => base ≤ q) s.heap H locs) (hl : pLs b base (pL k) ls L) (hcnt : s.heap.size + cells = base + nC w) (hfc : cells + nC w' ≤ R.cells + nC w) (hfs : slots + nS w' ≤ R.slots + nS w)
    (kk : pK p l e R s m args below meth c slots Q D b base k w pc' L' S' w') : W p l e R s m args below meth c H locs cells slots Q (F0 m pc ls (S.map (pVal b base))) := by
  obtain ⟨hx, hb, hml, hown, hts, hini, hX, hbb, hbs, hRf, hRl, hAO⟩ := id C
  simp only [pChk2, Bool.and_eq_true] at hq
  obtain ⟨h1, h2⟩ := hq
  have hlen := Nat.eq_of_beq_eq_true h1
  subst hlen
  by_cases hx4 : x = 1004
  · subst hx4
    have h2 : pLKS.contains (pCi k, i, 1004) = true := h2
    have hlk := pSL_ok _ (List.contains_iff_mem.mp h2)
    cases S with
    | nil => simp [pStep] at h
    | cons v T =>
      cases v <;> simp only [pStep, Option.some.injEq, Prod.mk.injEq, reduceCtorEq] at h
      obtain ⟨hc, rfl, rfl, rfl, rfl⟩ := h
      have hc := Nat.le_of_ble_eq_true hc
      obtain ⟨lv, g1, g2⟩ := id hl
      refine W.objInit hx hb hown (hts _ (pW_in hlk rfl)) (hts _ (pW_in pSP_4.1 rfl)) (hts _ (pW_in pSP_4.2 rfl)) rfl (by rw [hml]; exact g1.1) rfl hd hRf (by show 2 * 0 + _ + 12 ≤ _; rw [pVal_cats]; omega) ?_
      exact kk H locs ls cid cells slots hRel hS hl hcnt rfl
  · have : pStep X (.invokespecial i, 3, x, y, sw) pc L S w = none := by
      simp only [pStep]
    rw [this] at h
    cases h

theorem p_step_invokestatic {i : Nat} {len x y : Nat} {sw : List (Nat × Nat)} {L : pLT} {S : List Value} {pc' : Nat} {L' : pLT} {S' : List Value} {w' : pWD} (C : pCx p R s m args meth c b base X k) (hd : decode (pB k) pc = .ok (.invokestatic i, len)) (hq : pChk2 k pc (.invokestatic i, len, x, y, sw) = true)
    (h : pStep X (.invokestatic i, len, x, y, sw) pc L S w = some (true, pc', L', S', w')) (hRel : pRel D w b base cid s H) (hS : va_S (fun q : Nat => base ≤ q) s.heap H locs) (hl : pLs b base (pL k) ls L) (hcnt : s.heap.size + cells = base + nC w) (hfc : cells + nC w' ≤ R.cells + nC w) (hfs : slots + nS w' ≤ R.slots + nS w)
    (kk : pK p l e R s m args below meth c slots Q D b base k w pc' L' S' w') : W p l e R s m args below meth c H locs cells slots Q (F0 m pc ls (S.map (pVal b base))) := by
  obtain ⟨hx, hb, hml, hown, hts, hini, hX, hbb, hbs, hRf, hRl, hAO⟩ := id C
  simp only [pChk2, Bool.and_eq_true] at hq
  obtain ⟨h1, h2⟩ := hq
  have hlen := Nat.eq_of_beq_eq_true h1
  subst hlen
  obtain ⟨lv, g1, g2⟩ := id hl
  by_cases hx0 : x = 1000
  · subst hx0
    have h2 : pLKS.contains (pCi k, i, 1000) = true := h2
    have hlk := pSL_ok _ (List.contains_iff_mem.mp h2)
    cases S with
    | nil => simp [pStep] at h
    | cons u S =>
    cases S with
    | nil => cases u <;> simp [pStep] at h
    | cons v T =>
    cases u <;> cases v <;> simp only [pStep, Option.some.injEq, Prod.mk.injEq, reduceCtorEq] at h
    obtain ⟨hc, rfl, rfl, rfl, rfl⟩ := h
    have hc := Nat.le_of_ble_eq_true hc
    exact va_mmax hx hb (by rw [hml]; exact g1.1.symm) hown (hts _ (pW_in hlk rfl)) (hts _ (pW_in pSP_1.1 rfl)) (hts _ (pW_in pSP_2.1 rfl)) (hts _ (pW_in pSP_3.1 rfl)) hRf (by rw [pVal_cats]; omega) (by omega) (by omega) hd (kk H locs ls cid cells slots hRel hS hl hcnt rfl)
  by_cases hx1 : x = 1001
  · subst hx1
    have h2 : pLKS.contains (pCi k, i, 1001) = true := h2
    have hlk := pSL_ok _ (List.contains_iff_mem.mp h2)
    cases S with
    | nil => simp [pStep] at h
    | cons u S =>
    cases S with
    | nil => cases u <;> simp [pStep] at h
    | cons v T =>
    cases u <;> cases v <;> simp only [pStep, Option.some.injEq, Prod.mk.injEq, reduceCtorEq] at h
    obtain ⟨hc, rfl, rfl, rfl, rfl⟩ := h
    have hc := Nat.le_of_ble_eq_true hc
    exact va_mmin hx hb (by rw [hml]; exact g1.1.symm) hown (hts _ (pW_in hlk rfl)) (hts _ (pW_in pSP_1.2.1 rfl)) (hts _ (pW_in pSP_2.1 rfl)) (hts _ (pW_in pSP_3.2.1 rfl)) hRf (by rw [pVal_cats]; omega) (by omega) (by omega) hd (kk H locs ls cid cells slots hRel hS hl hcnt rfl)
  by_cases hx2 : x = 1002
  · subst hx2
    have h2 : pLKS.contains (pCi k, i, 1002) = true := h2
    have hlk := pSL_ok _ (List.contains_iff_mem.mp h2)
    cases S with
    | nil => simp [pStep] at h
    | cons v T =>
    cases v <;> simp only [pStep, Option.some.injEq, Prod.mk.injEq, reduceCtorEq] at h
    obtain ⟨hc, rfl, rfl, rfl, rfl⟩ := h
    have hc := Nat.le_of_ble_eq_true hc
    exact va_mabs_long hx hb (by rw [hml]; exact g1.1.symm) hown (hts _ (pW_in hlk rfl)) (hts _ (pW_in pSP_1.2.2.1 rfl)) (hts _ (pW_in pSP_2.1 rfl)) (hts _ (pW_in pSP_3.2.2 rfl)) hRf (by rw [pVal_cats]; omega) (by omega) (by omega) hd (kk H locs ls cid cells slots hRel hS hl hcnt rfl)
  by_cases hx3 : x = 1003
  · subst hx3
    have h2 : pLKS.contains (pCi k, i, 1003) = true := h2
    have hlk := pSL_ok _ (List.contains_iff_mem.mp h2)
    have hnw : nativeFrameWords "java/lang/System" "arraycopy" 5 ≤ 40 := by decide +kernel
    have hst : ∃ n dp a sp a0 T, S = .int n :: .int dp :: .ref a :: .int sp :: .ref a0 :: T := by
      simp only [pStep] at h
      split at h
      · exact ⟨_, _, _, _, _, _, rfl⟩
      · cases h
    obtain ⟨n, dp, a, sp, a0, T, rfl⟩ := hst
    cases hw0 : w.1[a0]? with
    | none => simp [pStep, hw0] at h
    | some sc0 =>
    cases hw : w.1[a]? with
    | none => simp [pStep, hw0, hw] at h
    | some sc =>
    cases sc0 with
    | inl _ => simp [pStep, hw0, hw] at h
    | inr t0 =>
    cases sc with
    | inl _ => simp [pStep, hw0, hw] at h
    | inr t1 =>
    obtain ⟨ty0, n0⟩ := t0
    obtain ⟨ty1, n1⟩ := t1
    obtain ⟨⟨tys, hK, ht⟩, hP, hl2⟩ := id hRel
    obtain ⟨j0, hj0⟩ := List.getElem?_of_mem (ht a0 ty0 n0 hw0)
    obtain ⟨j1, hj1⟩ := List.getElem?_of_mem (ht a ty1 n1 hw)
    cases ty0 <;> cases ty1 <;> simp only [pStep, hw0, hw, Option.some.injEq, Prod.mk.injEq, reduceCtorEq, Bool.and_eq_true, Bool.not_eq_true', decide_eq_false_iff_not] at h
    · obtain ⟨⟨⟨c1, c2, c3, c4, c5⟩, hc⟩, rfl, rfl, rfl, rfl⟩ := h
      have hc := Nat.le_of_ble_eq_true hc
      exact va_copyi hx hb (by rw [hml]; exact g1.1.symm) hown (hts _ (pW_in hlk rfl)) (hts _ (pW_in pSP_1.2.2.2.2 rfl)) (hts _ (pW_in pSP_1.2.2.2.1 rfl)) (hts _ (pW_in pSP_2.2 rfl)) hK hP (pWs_D w b base cid) hS a0 a j0 j1 (by rw [pWs_at (pW_lt hw0), pEnt_i hw0 (Or.inl rfl)]) (by rw [pWs_at (pW_lt hw), pEnt_i hw (Or.inl rfl)]) hj0 hj1 rfl c1 c2 c3 (Nat.le_of_ble_eq_true c4) (Nat.le_of_ble_eq_true c5) (fun _ _ => rfl) hRf (by rw [pVal_cats]; omega) hd (fun H1 locs1 g1 _ g3 => kk H1 locs1 ls cid cells slots (pRel_i hRel hw (Or.inl rfl) (cpM_at _ _ _ _ _ _) (fun q hq => cpM_ne _ _ _ _ _ hq) g1) g3 hl hcnt rfl)
    · obtain ⟨⟨⟨c1, c2, c3, c4, c5⟩, hc⟩, rfl, rfl, rfl, rfl⟩ := h
      have hc := Nat.le_of_ble_eq_true hc
      exact va_copyl hx hb (by rw [hml]; exact g1.1.symm) hown (hts _ (pW_in hlk rfl)) (hts _ (pW_in pSP_1.2.2.2.2 rfl)) (hts _ (pW_in pSP_1.2.2.2.1 rfl)) (hts _ (pW_in pSP_2.2 rfl)) hK hP (pWs_D w b base cid) hS a0 a j0 j1 (by rw [pWs_at (pW_lt hw0), pEnt_l hw0]) (by rw [pWs_at (pW_lt hw), pEnt_l hw]) hj0 hj1 rfl c1 c2 c3 (Nat.le_of_ble_eq_true c4) (Nat.le_of_ble_eq_true c5) (fun _ _ => rfl) hRf (by rw [pVal_cats]; omega) hd (fun H1 locs1 g1 _ g3 => kk H1 locs1 ls cid cells slots (pRel_l hRel hw (cpM_at _ _ _ _ _ _) (fun q hq => cpM_ne _ _ _ _ _ hq) g1) g3 hl hcnt rfl)
  have : pStep X (.invokestatic i, 3, x, y, sw) pc L S w = none := by
    simp only [pStep]
  rw [this] at h
  cases h

theorem p_step {q : pXI} {L : pLT} {S : List Value} {pc' : Nat} {L' : pLT} {S' : List Value} {w' : pWD} (C : pCx p R s m args meth c b base X k) (hq0 : pChk k pc q = true)
    (h : pStep X q pc L S w = some (true, pc', L', S', w')) (hRel : pRel D w b base cid s H) (hS : va_S (fun q : Nat => base ≤ q) s.heap H locs) (hl : pLs b base (pL k) ls L) (hcnt : s.heap.size + cells = base + nC w) (hfc : cells + nC w' ≤ R.cells + nC w) (hfs : slots + nS w' ≤ R.slots + nS w)
    (kk : pK p l e R s m args below meth c slots Q D b base k w pc' L' S' w') : W p l e R s m args below meth c H locs cells slots Q (F0 m pc ls (S.map (pVal b base))) := by
  obtain ⟨ins, len, x, y, sw⟩ := q
  unfold pChk at hq0
  rw [Bool.and_eq_true] at hq0
  obtain ⟨hd, hq⟩ := hq0
  have hd : decode (pB k) pc = .ok (ins, len) := of_decide_eq_true hd
  cases ins
  case iconst _ => exact p_step_iconst C hd hq h hRel hS hl hcnt hfc hfs kk
  case bipush _ => exact p_step_bipush C hd hq h hRel hS hl hcnt hfc hfs kk
  case sipush _ => exact p_step_sipush C hd hq h hRel hS hl hcnt hfc hfs kk
  case lconst _ => exact p_step_lconst C hd hq h hRel hS hl hcnt hfc hfs kk
  case ldc _ => exact p_step_ldc C hd hq h hRel hS hl hcnt hfc hfs kk
  case ldc2_w _ => exact p_step_ldc2_w C hd hq h hRel hS hl hcnt hfc hfs kk
  case aconst_null => exact p_step_aconst_null C hd hq h hRel hS hl hcnt hfc hfs kk
  case iload _ => exact p_step_iload C hd hq h hRel hS hl hcnt hfc hfs kk
  case iload_n _ => exact p_step_iload_n C hd hq h hRel hS hl hcnt hfc hfs kk
  case lload _ => exact p_step_lload C hd hq h hRel hS hl hcnt hfc hfs kk
  case lload_n _ => exact p_step_lload_n C hd hq h hRel hS hl hcnt hfc hfs kk
  case aload _ => exact p_step_aload C hd hq h hRel hS hl hcnt hfc hfs kk
  case aload_n _ => exact p_step_aload_n C hd hq h hRel hS hl hcnt hfc hfs kk
  case istore _ => exact p_step_istore C hd hq h hRel hS hl hcnt hfc hfs kk
  case istore_n _ => exact p_step_istore_n C hd hq h hRel hS hl hcnt hfc hfs kk
  case lstore _ => exact p_step_lstore C hd hq h hRel hS hl hcnt hfc hfs kk
  case lstore_n _ => exact p_step_lstore_n C hd hq h hRel hS hl hcnt hfc hfs kk
  case astore _ => exact p_step_astore C hd hq h hRel hS hl hcnt hfc hfs kk
  case astore_n _ => exact p_step_astore_n C hd hq h hRel hS hl hcnt hfc hfs kk
  case iinc _ _ => exact p_step_iinc C hd hq h hRel hS hl hcnt hfc hfs kk
  case iadd => exact p_step_iadd C hd hq h hRel hS hl hcnt hfc hfs kk
  case isub => exact p_step_isub C hd hq h hRel hS hl hcnt hfc hfs kk
  case imul => exact p_step_imul C hd hq h hRel hS hl hcnt hfc hfs kk
  case iand => exact p_step_iand C hd hq h hRel hS hl hcnt hfc hfs kk
  case ior => exact p_step_ior C hd hq h hRel hS hl hcnt hfc hfs kk
  case ixor => exact p_step_ixor C hd hq h hRel hS hl hcnt hfc hfs kk
  case ishl => exact p_step_ishl C hd hq h hRel hS hl hcnt hfc hfs kk
  case ishr => exact p_step_ishr C hd hq h hRel hS hl hcnt hfc hfs kk
  case iushr => exact p_step_iushr C hd hq h hRel hS hl hcnt hfc hfs kk
  case ladd => exact p_step_ladd C hd hq h hRel hS hl hcnt hfc hfs kk
  case lsub => exact p_step_lsub C hd hq h hRel hS hl hcnt hfc hfs kk
  case lmul => exact p_step_lmul C hd hq h hRel hS hl hcnt hfc hfs kk
  case land => exact p_step_land C hd hq h hRel hS hl hcnt hfc hfs kk
  case lor => exact p_step_lor C hd hq h hRel hS hl hcnt hfc hfs kk
  case lxor => exact p_step_lxor C hd hq h hRel hS hl hcnt hfc hfs kk
  case idiv => exact p_step_idiv C hd hq h hRel hS hl hcnt hfc hfs kk
  case irem => exact p_step_irem C hd hq h hRel hS hl hcnt hfc hfs kk
  case ldiv => exact p_step_ldiv C hd hq h hRel hS hl hcnt hfc hfs kk
  case lrem => exact p_step_lrem C hd hq h hRel hS hl hcnt hfc hfs kk
  case lneg => exact p_step_lneg C hd hq h hRel hS hl hcnt hfc hfs kk
  case lshl => exact p_step_lshl C hd hq h hRel hS hl hcnt hfc hfs kk
  case lcmp => exact p_step_lcmp C hd hq h hRel hS hl hcnt hfc hfs kk
  case i2l => exact p_step_i2l C hd hq h hRel hS hl hcnt hfc hfs kk
  case l2i => exact p_step_l2i C hd hq h hRel hS hl hcnt hfc hfs kk
  case i2b => exact p_step_i2b C hd hq h hRel hS hl hcnt hfc hfs kk
  case i2s => exact p_step_i2s C hd hq h hRel hS hl hcnt hfc hfs kk
  case dup => exact p_step_dup C hd hq h hRel hS hl hcnt hfc hfs kk
  case pop => exact p_step_pop C hd hq h hRel hS hl hcnt hfc hfs kk
  case dup2 => exact p_step_dup2 C hd hq h hRel hS hl hcnt hfc hfs kk
  case goto _ => exact p_step_goto C hd hq h hRel hS hl hcnt hfc hfs kk
  case ifnull _ => exact p_step_ifnull C hd hq h hRel hS hl hcnt hfc hfs kk
  case ifnonnull _ => exact p_step_ifnonnull C hd hq h hRel hS hl hcnt hfc hfs kk
  case getfield _ => exact p_step_getfield C hd hq h hRel hS hl hcnt hfc hfs kk
  case putfield _ => exact p_step_putfield C hd hq h hRel hS hl hcnt hfc hfs kk
  case iaload => exact p_step_iaload C hd hq h hRel hS hl hcnt hfc hfs kk
  case baload => exact p_step_baload C hd hq h hRel hS hl hcnt hfc hfs kk
  case laload => exact p_step_laload C hd hq h hRel hS hl hcnt hfc hfs kk
  case aaload => exact p_step_aaload C hd hq h hRel hS hl hcnt hfc hfs kk
  case iastore => exact p_step_iastore C hd hq h hRel hS hl hcnt hfc hfs kk
  case bastore => exact p_step_bastore C hd hq h hRel hS hl hcnt hfc hfs kk
  case lastore => exact p_step_lastore C hd hq h hRel hS hl hcnt hfc hfs kk
  case aastore => exact p_step_aastore C hd hq h hRel hS hl hcnt hfc hfs kk
  case arraylength => exact p_step_arraylength C hd hq h hRel hS hl hcnt hfc hfs kk
  case new _ => exact p_step_new C hd hq h hRel hS hl hcnt hfc hfs kk
  case newarray _ => exact p_step_newarray C hd hq h hRel hS hl hcnt hfc hfs kk
  case anewarray _ => exact p_step_anewarray C hd hq h hRel hS hl hcnt hfc hfs kk
  case invokespecial _ => exact p_step_invokespecial C hd hq h hRel hS hl hcnt hfc hfs kk
  case invokestatic _ => exact p_step_invokestatic C hd hq h hRel hS hl hcnt hfc hfs kk
  all_goals (simp [pStep] at h)

end PST
