/-! runs of the pure machine are runs of the machine -/
def pRcv (w : pWD) (j : Nat) (as : List Value) : Bool := match pKd j with
  | 0 => true
  | 1 => match as with
    | .ref a :: _ => match w.1[a]? with
      | some (.inl ci) => Nat.beq ci (pCi j)
      | _ => false
    | _ => false
  | _ => match as with
    | .ref _ :: _ => true
    | _ => false
/-- the run: fuel, how deep it may call, the method, the place in it, locals, stack, world -/
def pEx (X : pSX) : Nat → Nat → Nat → Nat → pLT → List Value → pWD → Option (Option Value × pWD)
  | 0, _, _, _, _, _, _ => none
  | n + 1, d, k, pc, L, S, w => match pCode k pc with
    | none => none
    | some q => match pStep X q pc L S w with
      | some (true, pc', L', S', w') => pEx X n d k pc' L' S' w'
      | some (false, _) => none
      | none => match pBr q pc S with
        | some (pc', S') => pEx X n d k pc' L S' w
        | none => match pRtn k q S with
          | some (true, r) => some (r, w)
          | some (false, _) => none
          | none => match pCl q S with
            | some (true, j, as, S') => match d with
              | 0 => none
              | d' + 1 => match pRcv w j as && Nat.ble (pEnA as).length (pL j) with
                | false => none
                | true => match pEx X n d' j 0 (pEn j as) [] w with
                  | none => none
                  | some (r, w') => pEx X n (d' + 1) k (pc + q.2.1) L (r.toList ++ S') w'
            | _ => none
theorem pStep_grow {X : pSX} {q : pXI} {pc : Nat} {L : pLT} {S : List Value} {w : pWD} {c : Bool} {pc' : Nat} {L' : pLT} {S' : List Value} {w' : pWD} (h : pStep X q pc L S w = some (c, pc', L', S', w')) : w'.1 = w.1 ∨ ∃ z, w'.1 = w.1 ++ [z] := by
  obtain ⟨ins, len, x, y, sw⟩ := q
  cases ins
  all_goals (simp only [pStep, reduceCtorEq] at h)
  all_goals (first | (simp only [Option.map_eq_some_iff, Prod.mk.injEq] at h; obtain ⟨_, _, _, _, _, _, rfl⟩ := h; exact Or.inl rfl) | skip)
  all_goals (repeat' split at h)
  all_goals (first | (cases h; done) | skip)
  all_goals (simp only [Option.some.injEq, Prod.mk.injEq] at h; obtain ⟨-, -, -, -, rfl⟩ := h; first | exact Or.inl rfl | exact Or.inr ⟨_, rfl⟩)
theorem nC_grow {w w' : pWD} (h : w'.1 = w.1 ∨ ∃ z, w'.1 = w.1 ++ [z]) : nC w ≤ nC w' ∧ nS w ≤ nS w' := by
  unfold nC nS
  rcases h with e | ⟨z, e⟩
  · rw [e]; exact ⟨Nat.le_refl _, Nat.le_refl _⟩
  · rw [e]; simp
theorem pEx_grow (X : pSX) : ∀ (n d k pc : Nat) (L : pLT) (S : List Value) (w : pWD) (r : Option Value) (w' : pWD), pEx X n d k pc L S w = some (r, w') → nC w ≤ nC w' ∧ nS w ≤ nS w' := by
  intro n
  induction n with
  | zero => intro d k pc L S w r w' h; cases h
  | succ n ih =>
    intro d k pc L S w r w' h
    unfold pEx at h
    split at h
    · cases h
    · next q hq =>
      split at h
      · next pc1 L1 S1 w1 hs =>
        have h1 := nC_grow (pStep_grow hs)
        have h2 := ih _ _ _ _ _ _ _ _ h
        exact ⟨Nat.le_trans h1.1 h2.1, Nat.le_trans h1.2 h2.2⟩
      · cases h
      · split at h
        · exact ih _ _ _ _ _ _ _ _ h
        · split at h
          · cases h; exact ⟨Nat.le_refl _, Nat.le_refl _⟩
          · cases h
          · split at h
            · split at h
              · cases h
              · split at h
                · cases h
                · split at h
                  · cases h
                  · next r1 w1 h1 =>
                    have h1 := ih _ _ _ _ _ _ _ _ h1
                    have h2 := ih _ _ _ _ _ _ _ _ h
                    exact ⟨Nat.le_trans h1.1 h2.1, Nat.le_trans h1.2 h2.2⟩
            · cases h
def pRoom (d mc ms : Nat) : Room := { frames := d + 1, cells := mc, slots := ms, locals := 40 * d + 64 }
def pRetI (k pc : Nat) (r : Option Value) : Prop := match r with
  | none => decode (pB k) pc = .ok (.return_, 1) ∧ pRt k = none
  | some (.int v) => decode (pB k) pc = .ok (.ireturn, 1) ∧ ((pRt k = some .boolean ∧ (v = nI 0 ∨ v = nI 1)) ∨ pRt k = some .int)
  | some (.long _) => decode (pB k) pc = .ok (.lreturn, 1) ∧ pRt k = some .long
  | some (.ref _) => decode (pB k) pc = .ok (.areturn, 1) ∧ pRt k = some (.object "ReorderMind$Tape")
  | some .null => decode (pB k) pc = .ok (.areturn, 1) ∧ pRt k = some (.object "ReorderMind$Tape")
  | _ => False
def pRet (p : Program) (l : Launch) (e : Env) (R : Room) (s : State) (m : MethodId) (args : Array Value) (below : List Frame) (meth : Method) (c : Code) (Q : State → Prop) (D : va_G) (b base k : Nat) (r : Option Value) (w' : pWD) (mc ms : Nat) : Prop :=
  ∀ (pc' : Nat) (H1 : Heap) (locs1 : List Loc) (ls1 : Array Slot) (cid1 : Nat → ClassId), pRetI k pc' r → pRel D w' b base cid1 s H1 → va_S (fun q : Nat => base ≤ q) s.heap H1 locs1 → W p l e R s m args below meth c H1 locs1 mc ms Q (F0 m pc' ls1 ((r.map (pVal b base)).toList))
def pBody (l : Launch) (D : va_G) (b base : Nat) (X : pSX) (d k pc : Nat) (L : pLT) (S : List Value) (w : pWD) (r : Option Value) (w' : pWD) : Prop :=
  ∀ (p : Program) (e : Env) (R : Room) (s : State) (m : MethodId) (args : Array Value) (below : List Frame) (meth : Method) (c : Code) (H : Heap) (locs : List Loc) (cells slots : Nat) (Q : State → Prop) (cid : Nat → ClassId) (ls : Array Slot) (mc ms : Nat),
    pCx p R s m args meth c b base X k → pRel D w b base cid s H → va_S (fun q : Nat => base ≤ q) s.heap H locs → pLs b base (pL k) ls L → s.heap.size + cells = base + nC w → d + 1 ≤ R.frames → 40 * d + 64 ≤ R.locals → mc ≤ R.cells → ms ≤ R.slots → cells + nC w' = mc + nC w → slots + nS w' = ms + nS w →
    pRet p l e R s m args below meth c Q D b base k r w' mc ms → W p l e R s m args below meth c H locs cells slots Q (F0 m pc ls (S.map (pVal b base)))
def pPc (D : va_G) (b base : Nat) (X : pSX) (w : pWD) (as : List Value) : Array Value → State → Prop := va_Pc (as.map (pVal b base)) (fun U => U.heap.size = base + nC w ∧ (∃ cid, pRel D w b base cid U U.heap) ∧ va_X b X.1 X.2 U U.heap ∧ b < base ∧ pNs U)
def pQc (D : va_G) (b base : Nat) (w' : pWD) (r : Option Value) : Array Value → State → Outcome → State → Prop := fun _ st oc t => oc = .returned (r.map (pVal b base)) ∧ (∃ cid, pRel D w' b base cid t t.heap) ∧ st.heap.size ≤ t.heap.size ∧ ∀ q : Nat, q < st.heap.size → q < base → t.heap[q]? = st.heap[q]?
theorem pMet {l : Launch} {D : va_G} {b base : Nat} {X : pSX} {d k : Nat} {as : List Value} {w : pWD} {r : Option Value} {w' : pWD} (hk : k < 210) (hB : pBody l D b base X d k 0 (pEn k as) [] w r w') (har : (pEnA as).length ≤ pL k) (hg : nC w ≤ nC w' ∧ nS w ≤ nS w') :
    Met l (pY k) (Cond.code (pY k) (pB k) (pL k) (pRt k) :: pWL) (pRoom d (nC w' - nC w) (nS w' - nS w)) (pPc D b base X w as) (pQc D b base w' r) (nC w' - nC w) (nS w' - nS w) (fun q : Nat => base ≤ q) := by
  have hG := pMG_ok k hk
  unfold pMG at hG
  simp only [Bool.and_eq_true] at hG
  have hF := pMF_ok k hk
  refine Met.ofW (cc := pB k) (maxL := pL k) (ret := pRt k) hG.1 rfl ?_
  intro p e s m args below meth c s₁ B hml hv
  obtain ⟨rfl, hsz, ⟨cid, hRel⟩, hX, hbb, hAO⟩ := hv
  have hts : ∀ wd ∈ pWL, wd.before ((as.map (pVal b base)).toArray) s = true := fun wd hw => atoms_spec (ws := Cond.code (pY k) (pB k) (pL k) (pRt k) :: pWL) B.pre wd (List.mem_cons_of_mem _ hw)
  have hcls : (pY k).cls = pNm (pCi k) := of_decide_eq_true hG.2.2.2.2.2.1
  have hown : s.vm.findClass (pNm (pCi k)) = some m.cls := by rw [← hcls]; exact findClass_of_methodNamed B.named
  have hlocks := B.notSynchronized
  have hr := B.returns
  have hini : pKd k = 2 → meth.name = "<init>" := fun hz => by
    have h1 : meth.name = (pY k).name := (name_of_methodNamed B.named B.method).1
    have h2 := hF.2.2
    rw [hz] at h2
    rw [h1]
    exact h2.2.1
  have hC : pCx p (pRoom d (nC w' - nC w) (nS w' - nS w)) s m ((as.map (pVal b base)).toArray) meth c b base X k :=
    ⟨B.exec, B.bytes, hml, hown, hts, hini, hX, hbb, by rw [hsz]; exact Nat.le_add_right _ _, Nat.le_add_left 1 d, by show 64 ≤ 40 * d + 64; omega, hAO⟩
  rw [lg_entry_eq]
  refine hB p e _ s m _ below meth c s.heap [] 0 0 _ cid _ (nC w' - nC w) (nS w' - nS w) hC hRel va_S.rf (pEn_ls (by rw [pEnA_len]; exact har)) (by rw [hsz]; rfl) (Nat.le_refl _) (Nat.le_refl _) (Nat.le_refl _) (Nat.le_refl _) (by omega) (by omega) ?_
  intro pc' H1 locs1 ls1 cid1 hI hRel1 hS1
  have hq : ∀ t : State, t.heap = H1 → s.WarmedH t.vm → pQc D b base w' r ((as.map (pVal b base)).toArray) s (.returned (r.map (pVal b base))) t := fun t ht hW =>
    ⟨rfl, ⟨cid1, by rw [ht]; exact hRel1.moved hW.alike⟩, by rw [ht]; exact hS1.1, fun q h1 h2 => by rw [ht]; exact hS1.2.1 q h1 (Nat.not_le.mpr h2)⟩
  unfold pRetI at hI
  cases r with
  | none => exact W.vret B.exec B.bytes (hr.trans hI.2) hq hS1.2.2 hI.1
  | some v =>
    cases v with
    | int v =>
      rcases hI.2 with ⟨hb2, hv⟩ | hb2
      · exact W.zret (ty := .boolean) B.exec B.bytes (hr.trans hb2) (by rcases hv with rfl | rfl <;> rfl) hq hS1.2.2 hI.1
      · exact W.iret B.exec B.bytes (hr.trans hb2) hq hS1.2.2 hI.1
    | long v => exact W.lret B.exec B.bytes (hr.trans hI.2) hq hS1.2.2 hI.1
    | ref v => exact W.aret B.exec B.bytes (hr.trans hI.2) (Or.inl ⟨_, rfl⟩) (Or.inr ⟨_, rfl⟩) hq hS1.2.2 hI.1
    | null => exact W.aret B.exec B.bytes (hr.trans hI.2) (Or.inl ⟨_, rfl⟩) (Or.inl rfl) hq hS1.2.2 hI.1
    | float v => exact hI.elim
    | double v => exact hI.elim
    | retAddr v => exact hI.elim
section PSD
variable {p : Program} {l : Launch} {e : Env} {R : Room} {s : State} {m : MethodId} {args : Array Value} {below : List Frame} {meth : Method} {c : Code} {H : Heap} {locs : List Loc} {cells slots : Nat} {Q : State → Prop}
variable {D : va_G} {b base k pc : Nat} {X : pSX} {cid : Nat → ClassId} {ls : Array Slot} {w w' : pWD}
theorem p_callR {mc ms : Nat} {st0 rest : List Value} {r : Option Value} {a : Array Value} (hr : va_Run p l e R s m args below meth c H locs cells slots mc ms (F0 m pc ls st0) rest (pQc D b base w' r a) (fun q : Nat => base ≤ q)) (hS : va_S (fun q : Nat => base ≤ q) s.heap H locs) (hbs : base ≤ s.heap.size)
    (kk : ∀ (cid1 : Nat → ClassId) (H1 : Heap) (locs1 : List Loc), pRel D w' b base cid1 s H1 → va_S (fun q : Nat => base ≤ q) s.heap H1 locs1 → W p l e R s m args below meth c H1 locs1 (cells + mc) (slots + ms) Q (F0 m (pc + 3) ls ((r.map (pVal b base)).toList ++ rest))) :
    W p l e R s m args below meth c H locs cells slots Q (F0 m pc ls st0) := by
  intro T hT Z
  obtain ⟨v, st₀, t, T', L, h0, Z', hL, e1, e2, ⟨hv, ⟨cid1, hRel⟩, hz, hk⟩, st⟩ := hr T hT Z
  cases hv
  rw [h0] at hz hk
  have hal : s.vm.Alike t.vm := by rw [← e2]; exact Z'.warmed.alike
  obtain ⟨t2, a1, b1⟩ := kk cid1 T'.heap (locs ++ L) (by rw [e1]; exact hRel.moved hal.symm) ⟨Nat.le_trans hS.1 (by rw [e1]; exact hz), fun q h1 h2 => by
      rw [e1, hk q (Nat.lt_of_lt_of_le h1 hS.1) (Nat.not_le.mp h2)]
      exact hS.2.1 q h1 h2, fun q hq => by
      rcases List.mem_append.mp hq with h | h
      · exact hS.2.2 q h
      · exact hL q h⟩ T' rfl Z'
  exact ⟨t2, st t2 a1, b1⟩
theorem pPc_blind (D : va_G) (b base : Nat) (X : pSX) (w : pWD) (as : List Value) : FrameBlind (pPc D b base X w as) := by
  intro a U g mk h
  obtain ⟨h1, h2, ⟨cid, h3⟩, h4, h5, h6⟩ := h
  exact ⟨h1, h2, ⟨cid, h3.moved (u := U) (U := U.calling g mk a) (Vm.Alike.refl U.vm)⟩, h4.moved (u := U) (U := U.calling g mk a) (Vm.Alike.refl U.vm), h5, h6.same (u := U) (U := U.calling g mk a) rfl⟩
theorem pPc_at {as : List Value} (C : pCx p R s m args meth c b base X k) (hRel : pRel D w b base cid s H) (hS : va_S (fun q : Nat => base ≤ q) s.heap H locs) (hcnt : s.heap.size + cells = base + nC w) (z1 : H.size ≤ s.heap.size + cells) (z2 : s.heap.size ≤ H.size) :
    ∀ U : State, U.heap = H → s.WarmedH U.vm → pPc D b base X w as ((as.map (pVal b base)).toArray) U := by
  obtain ⟨hx, hb, hml, hown, hts, hini, hX, hbb, hbs, hRf, hRl, hAO⟩ := C
  intro U hU hW
  have hge : base + nC w ≤ H.size := by
    rcases Nat.eq_zero_or_pos (nC w) with h0 | h0
    · omega
    · have hlt : w.1.length - 1 < w.1.length := by have : nC w = w.1.length := rfl; omega
      have := (hRel.2.1 _ _ (pWs_at (b := b) (base := base) (cid := cid) hlt)).lt
      have h3 : base + (w.1.length - 1) < H.size := this
      have : nC w = w.1.length := rfl
      omega
  refine ⟨rfl, by rw [hU]; omega, ⟨cid, by rw [hU]; exact hRel.moved hW.alike⟩, ?_, hbb, hAO.warm hW⟩
  rw [hU]
  exact (hX.kept (hS.2.1 b (Nat.lt_of_lt_of_le hbb hbs) (Nat.not_le.mpr hbb))).moved hW.alike
/-- a branch -/
theorem pSw_at (sw : List (Nat × Nat)) (d : Nat) (f : Nat → Nat) : ∀ (i0 : Nat), (∀ i, i < sw.length → sw[i]? = some (i0 + i, f (i0 + i))) → i0 + sw.length < 2 ^ 31 → ∀ v : Int32, (∀ j, i0 ≤ j → j < i0 + sw.length → v = nI j → pSw sw d v = f j) ∧ ((∀ j, i0 ≤ j → j < i0 + sw.length → v ≠ nI j) → pSw sw d v = d) := by
  induction sw with
  | nil => intro i0 _ _ v; exact ⟨fun j h1 h2 => by simp at h2; omega, fun _ => rfl⟩
  | cons q r ih =>
    intro i0 h hb v
    obtain ⟨cc, t⟩ := q
    have h0 := h 0 (by simp)
    simp only [List.getElem?_cons_zero, Nat.add_zero, Option.some.injEq, Prod.mk.injEq] at h0
    obtain ⟨rfl, rfl⟩ := h0
    rw [List.length_cons] at hb
    have ih' := ih (cc + 1) (fun i hi => by
      have := h (i + 1) (by simpa using hi)
      rw [List.getElem?_cons_succ] at this
      rw [show cc + 1 + i = cc + (i + 1) by omega]
      exact this) (by omega) v
    refine ⟨fun j h1 h2 hv => ?_, fun hn => ?_⟩
    · rw [List.length_cons] at h2
      unfold pSw
      by_cases hj : j = cc
      · subst hj
        rw [if_pos hv]
      · have : ¬ v = nI cc := fun z => by
          rw [hv] at z
          exact hj ((nI_eq (by omega) (by omega)).mp z)
        rw [if_neg this]
        exact ih'.1 j (by omega) (by omega) hv
    · unfold pSw
      rw [if_neg (hn cc (Nat.le_refl _) (by simp))]
      exact ih'.2 fun j h1 h2 => hn j (by omega) (by rw [List.length_cons]; omega)
theorem pSw_look : ∀ (ps : List (Int × Int)) (d : Int) (v : Int32) (pc x : Nat), (∀ o ∈ ps, 0 ≤ o.1 ∧ o.1 < 2147483648 ∧ 0 ≤ (pc : Int) + o.2) → (pc : Int) + d = (x : Int) → (pc : Int) + Op.lookupswitch.offset ps d v.toInt = (pSw (ps.map fun o => (o.1.toNat, ((pc : Int) + o.2).toNat)) x v : Nat)
  | [], d, v, pc, x, _, h => by
    show (pc : Int) + d = ((x : Nat) : Int)
    exact h
  | (a, o) :: ps, d, v, pc, x, hp, h => by
    have h0 := hp (a, o) List.mem_cons_self
    have ih := pSw_look ps d v pc x (fun q hq => hp q (List.mem_cons_of_mem _ hq)) h
    have e : (nI a.toNat).toInt = a := by rw [nI_toInt (by omega)]; exact Int.toNat_of_nonneg h0.1
    rw [List.map_cons]
    unfold pSw
    by_cases hv : v = nI a.toNat
    · rw [if_pos hv, Op.lookupswitch.offset_cons, if_pos (by rw [hv]; exact e.symm)]
      exact (Int.toNat_of_nonneg h0.2.2).symm
    · rw [if_neg hv, lv_osw hv e]
      exact ih
theorem p_br {q : pXI} {S : List Value} {pc' : Nat} {S' : List Value} (C : pCx p R s m args meth c b base X k) (hq0 : pChk k pc q = true) (h : pBr q pc S = some (pc', S'))
    (kk : W p l e R s m args below meth c H locs cells slots Q (F0 m pc' ls (S'.map (pVal b base)))) : W p l e R s m args below meth c H locs cells slots Q (F0 m pc ls (S.map (pVal b base))) := by
  obtain ⟨hx, hb, -⟩ := C
  obtain ⟨ins, len, x, y, sw⟩ := q
  unfold pChk at hq0
  rw [Bool.and_eq_true] at hq0
  obtain ⟨hd0, hq⟩ := hq0
  have hd : decode (pB k) pc = .ok (ins, len) := of_decide_eq_true hd0
  clear hd0
  cases ins <;> simp only [pBr, reduceCtorEq] at h
  case ifCond cd off =>
    simp only [pChk2, Bool.and_eq_true, decide_eq_true_eq] at hq
    obtain ⟨h1, h2⟩ := hq
    have hlen := Nat.eq_of_beq_eq_true h2
    subst hlen
    cases S with
    | nil => cases h
    | cons v T =>
      cases v <;> simp only [Option.some.injEq, Prod.mk.injEq, reduceCtorEq] at h
      rename_i z
      obtain ⟨rfl, rfl⟩ := h
      by_cases hc : pCmp cd z 0
      · rw [if_pos hc] at kk
        cases cd
        · exact lv_if_eq hx hb hd h1 (fun _ => kk) (fun n => absurd hc n)
        · exact lv_if_ne hx hb hd h1 (fun _ => kk) (fun n => absurd n hc)
        · exact lv_if_lt hx hb hd h1 (fun _ => kk) (fun n => absurd hc n)
        · exact lv_if_ge hx hb hd h1 (fun _ => kk) (fun n => absurd hc n)
        · exact lv_if_gt hx hb hd h1 (fun _ => kk) (fun n => absurd hc n)
        · exact lv_if_le hx hb hd h1 (fun _ => kk) (fun n => absurd hc n)
      · rw [if_neg hc] at kk
        cases cd
        · exact lv_if_eq hx hb hd h1 (fun n => absurd n hc) (fun _ => kk)
        · exact lv_if_ne hx hb hd h1 (fun n => absurd n hc) (fun _ => kk)
        · exact lv_if_lt hx hb hd h1 (fun n => absurd n hc) (fun _ => kk)
        · exact lv_if_ge hx hb hd h1 (fun n => absurd n hc) (fun _ => kk)
        · exact lv_if_gt hx hb hd h1 (fun n => absurd n hc) (fun _ => kk)
        · exact lv_if_le hx hb hd h1 (fun n => absurd n hc) (fun _ => kk)
  case if_icmp cd off =>
    simp only [pChk2, Bool.and_eq_true, decide_eq_true_eq] at hq
    obtain ⟨h1, h2⟩ := hq
    have hlen := Nat.eq_of_beq_eq_true h2
    subst hlen
    cases S with
    | nil => cases h
    | cons v T =>
    cases T with
    | nil => cases v <;> cases h
    | cons u T =>
      cases v <;> cases u <;> simp only [Option.some.injEq, Prod.mk.injEq, reduceCtorEq] at h
      rename_i z2 z1
      obtain ⟨rfl, rfl⟩ := h
      by_cases hc : pCmp cd z1 z2
      · rw [if_pos hc] at kk
        cases cd
        · exact lv_icmp_eq hx hb hd h1 (fun _ => kk) (fun n => absurd hc n)
        · exact lv_icmp_ne hx hb hd h1 (fun _ => kk) (fun n => absurd n hc)
        · exact lv_icmp_lt hx hb hd h1 (fun _ => kk) (fun n => absurd hc n)
        · exact lv_icmp_ge hx hb hd h1 (fun _ => kk) (fun n => absurd hc n)
        · exact lv_icmp_gt hx hb hd h1 (fun _ => kk) (fun n => absurd hc n)
        · exact lv_icmp_le hx hb hd h1 (fun _ => kk) (fun n => absurd hc n)
      · rw [if_neg hc] at kk
        cases cd
        · exact lv_icmp_eq hx hb hd h1 (fun n => absurd n hc) (fun _ => kk)
        · exact lv_icmp_ne hx hb hd h1 (fun n => absurd n hc) (fun _ => kk)
        · exact lv_icmp_lt hx hb hd h1 (fun n => absurd n hc) (fun _ => kk)
        · exact lv_icmp_ge hx hb hd h1 (fun n => absurd n hc) (fun _ => kk)
        · exact lv_icmp_gt hx hb hd h1 (fun n => absurd n hc) (fun _ => kk)
        · exact lv_icmp_le hx hb hd h1 (fun n => absurd n hc) (fun _ => kk)
  case tableswitch d lo hi offs =>
    simp only [pChk2, Bool.and_eq_true, decide_eq_true_eq] at hq
    obtain ⟨rfl, h2, h3, rfl, h5, h6⟩ := hq
    have h6 : offs.size < 2147483648 := Nat.le_of_ble_eq_true h6
    cases S with
    | nil => cases h
    | cons v T =>
      cases v <;> simp only [Option.some.injEq, Prod.mk.injEq, reduceCtorEq] at h
      rename_i z
      obtain ⟨rfl, rfl⟩ := h
      have hlen : (offs.toList.zipIdx.map fun o => (o.2, ((pc : Int) + o.1).toNat)).length = offs.size := by simp
      have key := pSw_at (offs.toList.zipIdx.map fun o => (o.2, ((pc : Int) + o.1).toNat)) x (fun i => ((pc : Int) + offs.getD i 0).toNat) 0 (fun i hi => by
        rw [hlen] at hi
        rw [List.getElem?_map, List.getElem?_zipIdx]
        have : offs.toList[i]? = some (offs.getD i 0) := by
          rw [Array.getElem?_toList, Array.getD_eq_getD_getElem?, Array.getElem?_eq_getElem hi]
          rfl
        rw [this]
        simp) (by rw [hlen]; omega) z
      by_cases ht : 0 ≤ z.toInt ∧ z.toInt < offs.size
      · have hz : z = nI z.toInt.toNat := by
          apply Int32.toInt_inj.mp
          rw [nI_toInt (by omega)]
          omega
        have hk := key.1 z.toInt.toNat (Nat.zero_le _) (by rw [hlen]; omega) hz
        rw [hk] at kk
        have hg : offs[(z.toInt - 0).toNat]? = some (offs.getD z.toInt.toNat 0) := by
          rw [Int.sub_zero, Array.getD_eq_getD_getElem?, Array.getElem?_eq_getElem (show z.toInt.toNat < offs.size by omega)]
          rfl
        have hpos : 0 ≤ (pc : Int) + offs.getD z.toInt.toNat 0 := by
          have := List.all_eq_true.mp h5 _ (Array.mem_toList_iff.mpr (Array.mem_of_getElem? hg))
          exact of_decide_eq_true this
        exact lv_tableIn hx hb hd (by omega) (by omega) hg (tgt := ((pc : Int) + offs.getD z.toInt.toNat 0).toNat) (Int.toNat_of_nonneg hpos).symm kk
      · have hk := key.2 (fun j _ h2 hv => by
          rw [Nat.zero_add, hlen] at h2
          rw [hv, nI_toInt (by omega)] at ht
          omega)
        rw [hk] at kk
        exact lv_tableOut hx hb hd (by omega) h3 kk
  case lookupswitch d ps =>
    simp only [pChk2, Bool.and_eq_true, decide_eq_true_eq] at hq
    obtain ⟨h3, rfl, h5, h6⟩ := hq
    cases S with
    | nil => cases h
    | cons v T =>
      cases v <;> simp only [Option.some.injEq, Prod.mk.injEq, reduceCtorEq] at h
      rename_i z
      obtain ⟨rfl, rfl⟩ := h
      have hp : ∀ o ∈ ps.toList, 0 ≤ o.1 ∧ o.1 < 2147483648 ∧ 0 ≤ (pc : Int) + o.2 := fun o ho => by
        have := List.all_eq_true.mp h5 o ho
        simpa using this
      exact lv_lookup hx hb hd h6 rfl (pSw_look ps.toList d z pc x hp h3) kk
theorem p_rtn {q : pXI} {S : List Value} {r : Option Value} (hq0 : pChk k pc q = true) (h : pRtn k q S = some (true, r)) : pRetI k pc r ∧ S = r.toList := by
  obtain ⟨ins, len, x, y, sw⟩ := q
  unfold pChk at hq0
  rw [Bool.and_eq_true] at hq0
  obtain ⟨hd0, hq⟩ := hq0
  have hd : decode (pB k) pc = .ok (ins, len) := of_decide_eq_true hd0
  clear hd0
  cases ins <;> simp only [pRtn, reduceCtorEq] at h
  case ireturn =>
    simp only [pChk2] at hq
    have hlen := Nat.eq_of_beq_eq_true hq
    subst hlen
    split at h
    · split at h
      · next v hr =>
        simp only [Option.some.injEq, Prod.mk.injEq, Bool.or_eq_true, decide_eq_true_eq] at h
        obtain ⟨hv, rfl⟩ := h
        exact ⟨⟨hd, Or.inl ⟨hr, hv⟩⟩, rfl⟩
      · next v hr =>
        simp only [Option.some.injEq, Prod.mk.injEq] at h
        obtain ⟨hv, rfl⟩ := h
        exact ⟨⟨hd, Or.inr hr⟩, rfl⟩
      · cases h
    · cases h
  case lreturn =>
    simp only [pChk2, Bool.and_eq_true, decide_eq_true_eq] at hq
    obtain ⟨h1, h2⟩ := hq
    have hlen := Nat.eq_of_beq_eq_true h2
    subst hlen
    split at h
    · simp only [Option.some.injEq, Prod.mk.injEq] at h
      obtain ⟨-, rfl⟩ := h
      exact ⟨⟨hd, h1⟩, rfl⟩
    · cases h
  case areturn =>
    simp only [pChk2, Bool.and_eq_true, decide_eq_true_eq] at hq
    obtain ⟨h1, h2⟩ := hq
    have hlen := Nat.eq_of_beq_eq_true h2
    subst hlen
    split at h
    · simp only [Option.some.injEq, Prod.mk.injEq] at h
      obtain ⟨-, rfl⟩ := h
      exact ⟨⟨hd, h1⟩, rfl⟩
    · simp only [Option.some.injEq, Prod.mk.injEq] at h
      obtain ⟨-, rfl⟩ := h
      exact ⟨⟨hd, h1⟩, rfl⟩
    · cases h
  case return_ =>
    simp only [pChk2, Bool.and_eq_true, decide_eq_true_eq] at hq
    obtain ⟨h1, h2⟩ := hq
    have hlen := Nat.eq_of_beq_eq_true h2
    subst hlen
    split at h
    · simp only [Option.some.injEq, Prod.mk.injEq] at h
      obtain ⟨-, rfl⟩ := h
      exact ⟨⟨hd, h1⟩, rfl⟩
    · cases h
end PSD
