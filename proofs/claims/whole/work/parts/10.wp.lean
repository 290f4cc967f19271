/-! what is shown of the pure machine: it comes to its end with Q -/
theorem pEx_mono1 (X : pSX) : ∀ (n d k pc : Nat) (L : pLT) (S : List Value) (w : pWD) (z : Option Value × pWD), pEx X n d k pc L S w = some z → pEx X (n + 1) d k pc L S w = some z := by
  intro n
  induction n with
  | zero => intro d k pc L S w z h; cases h
  | succ n ih =>
    intro d k pc L S w z h
    unfold pEx at h ⊢
    split at h
    · cases h
    · next q hq =>
      split at h
      · exact ih _ _ _ _ _ _ _ h
      · cases h
      · split at h
        · exact ih _ _ _ _ _ _ _ h
        · split at h
          · exact h
          · cases h
          · split at h
            · split at h
              · cases h
              · split at h
                · cases h
                · split at h
                  · cases h
                  · next r1 w1 h1 =>
                    rw [ih _ _ _ _ _ _ _ h1]
                    exact ih _ _ _ _ _ _ _ h
            · cases h
theorem pEx_mono (X : pSX) {n n' d k pc : Nat} {L : pLT} {S : List Value} {w : pWD} {z : Option Value × pWD} (hn : n ≤ n') (h : pEx X n d k pc L S w = some z) : pEx X n' d k pc L S w = some z := by
  induction hn with
  | refl => exact h
  | step _ ih => exact pEx_mono1 X _ _ _ _ _ _ _ _ ih
abbrev pQT : Type := Option Value → pWD → Prop
def pW (X : pSX) (d k pc : Nat) (L : pLT) (S : List Value) (w : pWD) (Q : pQT) : Prop := ∃ n r w', pEx X n d k pc L S w = some (r, w') ∧ Q r w'
/-- the method j on these arguments -/
def pM (X : pSX) (d j : Nat) (as : List Value) (w : pWD) (Q : pQT) : Prop := pW X d j 0 (pEn j as) [] w Q
theorem pW.mono {X : pSX} {d k pc : Nat} {L : pLT} {S : List Value} {w : pWD} {Q Q' : pQT} (h : pW X d k pc L S w Q) (hq : ∀ r w', Q r w' → Q' r w') : pW X d k pc L S w Q' := by
  obtain ⟨n, r, w', h1, h2⟩ := h
  exact ⟨n, r, w', h1, hq r w' h2⟩
theorem pM.mono {X : pSX} {d j : Nat} {as : List Value} {w : pWD} {Q Q' : pQT} (h : pM X d j as w Q) (hq : ∀ r w', Q r w' → Q' r w') : pM X d j as w Q' := pW.mono h hq
section PWR
variable {X : pSX} {d k pc : Nat} {L : pLT} {S : List Value} {w : pWD} {Q : pQT}
theorem wp_step {q : pXI} {pc' : Nat} {L' : pLT} {S' : List Value} {w' : pWD} (hq : pCode k pc = some q) (hs : pStep X q pc L S w = some (true, pc', L', S', w')) (h : pW X d k pc' L' S' w' Q) : pW X d k pc L S w Q := by
  obtain ⟨n, r, w2, h1, h2⟩ := h
  refine ⟨n + 1, r, w2, ?_, h2⟩
  unfold pEx
  rw [hq]
  simp only [hs]
  exact h1
/-- steps up to the next branch, call or return, or to one of the places st -/
def pAu (X : pSX) (st : List Nat) (k : Nat) : Nat → Nat → pLT → List Value → pWD → Option pNx
  | 0, pc, L, S, w => some (true, pc, L, S, w)
  | n + 1, pc, L, S, w => match pCode k pc with
    | none => none
    | some q => match pStep X q pc L S w with
      | none => some (true, pc, L, S, w)
      | some (c, pc', L', S', w') => match st.any (Nat.beq pc') with
        | true => some (c, pc', L', S', w')
        | false => match pAu X st k n pc' L' S' w' with
          | none => none
          | some (c2, z) => some (c && c2, z)
theorem wp_au (st : List Nat) (n : Nat) {c : Bool} {pc' : Nat} {L' : pLT} {S' : List Value} {w' : pWD} (hs : pAu X st k n pc L S w = some (c, pc', L', S', w')) (hc : c = true) (h : pW X d k pc' L' S' w' Q) : pW X d k pc L S w Q := by
  induction n generalizing pc L S w c with
  | zero =>
    cases hs
    exact h
  | succ n ih =>
    unfold pAu at hs
    split at hs
    · cases hs
    · next q hq =>
      split at hs
      · cases hs; exact h
      · next c1 pc1 L1 S1 w1 hs1 =>
        split at hs
        · cases hs
          subst hc
          exact wp_step hq hs1 h
        · split at hs
          · cases hs
          · next c2 z hz =>
            cases hs
            rw [Bool.and_eq_true] at hc
            obtain ⟨hc1, hc2⟩ := hc
            subst hc1
            exact wp_step hq hs1 (ih hz hc2)
/-- a list as it stands, cell by cell -/
def pFl {α : Type} : List α → Option (List α)
  | [] => some []
  | x :: xs => match pFl xs with
    | none => none
    | some ys => some (x :: ys)
theorem pFl_eq {α : Type} : ∀ {l l' : List α}, pFl l = some l' → l' = l
  | [], l', h => by cases h; rfl
  | x :: xs, l', h => by
    unfold pFl at h
    split at h
    · cases h
    · next ys hy => cases h; rw [pFl_eq hy]
/-- a stack as it stands, each value by its kind -/
def pFs : List Value → Option (List Value)
  | [] => some []
  | x :: xs => match pFs xs with
    | none => none
    | some ys => match x with
      | .int v => some (.int v :: ys)
      | .long v => some (.long v :: ys)
      | .ref v => some (.ref v :: ys)
      | .null => some (.null :: ys)
      | .retAddr v => some (.retAddr v :: ys)
      | .float v => some (.float v :: ys)
      | .double v => some (.double v :: ys)
theorem pFs_eq : ∀ {l l' : List Value}, pFs l = some l' → l' = l
  | [], l', h => by cases h; rfl
  | x :: xs, l', h => by
    unfold pFs at h
    split at h
    · cases h
    · next ys hy =>
      have e := pFs_eq hy
      subst e
      cases x <;> (cases h; rfl)
/-- at least a step, then steps up to the next branch, call or return, or to one of the places st; locals and stack laid out -/
def pAs (X : pSX) (st : List Nat) (k n pc : Nat) (L : pLT) (S : List Value) (w : pWD) : Option pNx := match pCode k pc with
  | none => none
  | some q => match pStep X q pc L S w with
    | none => none
    | some (c, pc1, L1, S1, w1) => match st.any (Nat.beq pc1) with
      | true => match pFl L1 with
        | none => none
        | some L2 => match pFs S1 with
          | none => none
          | some S2 => some (c, pc1, L2, S2, w1)
      | false => match pAu X st k n pc1 L1 S1 w1 with
        | none => none
        | some (c2, pc2, L2, S2, w2) => match pFl L2 with
          | none => none
          | some L3 => match pFs S2 with
            | none => none
            | some S3 => some (c && c2, pc2, L3, S3, w2)
theorem wp_as (st : List Nat) (n : Nat) {c : Bool} {pc' : Nat} {L' : pLT} {S' : List Value} {w' : pWD} (hs : pAs X st k n pc L S w = some (c, pc', L', S', w')) (hc : c = true) (h : pW X d k pc' L' S' w' Q) : pW X d k pc L S w Q := by
  unfold pAs at hs
  split at hs
  · cases hs
  · next q hq =>
    split at hs
    · cases hs
    · next c1 pc1 L1 S1 w1 hs1 =>
      split at hs
      · split at hs
        · cases hs
        · next L2 hL2 =>
          split at hs
          · cases hs
          · next S2 hS2 =>
            cases hs
            subst hc
            rw [pFl_eq hL2, pFs_eq hS2] at h
            exact wp_step hq hs1 h
      · split at hs
        · cases hs
        · next c2 pc2 L2 S2 w2 hs2 =>
          split at hs
          · cases hs
          · next L3 hL3 =>
            split at hs
            · cases hs
            · next S3 hS3 =>
              cases hs
              rw [Bool.and_eq_true] at hc
              obtain ⟨hc1, hc2⟩ := hc
              subst hc1
              rw [pFl_eq hL3, pFs_eq hS3] at h
              exact wp_step hq hs1 (wp_au st n hs2 hc2 h)
def pIf (X : pSX) (k pc : Nat) (L : pLT) (S : List Value) (w : pWD) : Option (ClassFile.Cond × Int32 × Int32 × Nat × Nat × List Value) := match pCode k pc with
  | none => none
  | some q => match pStep X q pc L S w with
    | some _ => none
    | none => match q.1 with
      | .ifCond c _ => match S with
        | .int x :: T => some (c, x, 0, q.2.2.1, pc + q.2.1, T)
        | _ => none
      | .if_icmp c _ => match S with
        | .int y :: .int x :: T => some (c, x, y, q.2.2.1, pc + q.2.1, T)
        | _ => none
      | _ => none
theorem pIf_br {c : ClassFile.Cond} {x y : Int32} {t f : Nat} {T : List Value} (h : pIf X k pc L S w = some (c, x, y, t, f, T)) : ∃ q, pCode k pc = some q ∧ pStep X q pc L S w = none ∧ pBr q pc S = some (@ite _ (pCmp c x y) (pCmpD c x y) t f, T) := by
  unfold pIf at h
  split at h
  · cases h
  · next q hq =>
    split at h
    · cases h
    · next hs =>
      refine ⟨q, hq, hs, ?_⟩
      obtain ⟨ins, len, a, b, sw⟩ := q
      split at h
      · next c1 o1 he =>
        split at h
        · cases h
          dsimp only at he
          subst he
          rfl
        · cases h
      · next c1 o1 he =>
        split at h
        · cases h
          dsimp only at he
          subst he
          rfl
        · cases h
      · cases h
theorem wp_br {q : pXI} {pc' : Nat} {S' : List Value} (hq : pCode k pc = some q) (hs : pStep X q pc L S w = none) (hb : pBr q pc S = some (pc', S')) (h : pW X d k pc' L S' w Q) : pW X d k pc L S w Q := by
  obtain ⟨n, r, w2, h1, h2⟩ := h
  refine ⟨n + 1, r, w2, ?_, h2⟩
  unfold pEx
  rw [hq]
  simp only [hs, hb]
  exact h1
theorem wp_if {c : ClassFile.Cond} {x y : Int32} {t f : Nat} {T : List Value} (h : pIf X k pc L S w = some (c, x, y, t, f, T)) (h1 : pCmp c x y → pW X d k t L T w Q) (h2 : ¬ pCmp c x y → pW X d k f L T w Q) : pW X d k pc L S w Q := by
  obtain ⟨q, hq, hs, hb⟩ := pIf_br h
  by_cases hc : pCmp c x y
  · rw [if_pos hc] at hb
    exact wp_br hq hs hb (h1 hc)
  · rw [if_neg hc] at hb
    exact wp_br hq hs hb (h2 hc)
theorem wp_ift {c : ClassFile.Cond} {x y : Int32} {t f : Nat} {T : List Value} (h : pIf X k pc L S w = some (c, x, y, t, f, T)) (hc : pCmp c x y) (h1 : pW X d k t L T w Q) : pW X d k pc L S w Q := wp_if h (fun _ => h1) (fun n => absurd hc n)
theorem wp_iff {c : ClassFile.Cond} {x y : Int32} {t f : Nat} {T : List Value} (h : pIf X k pc L S w = some (c, x, y, t, f, T)) (hc : ¬ pCmp c x y) (h1 : pW X d k f L T w Q) : pW X d k pc L S w Q := wp_if h (fun n => absurd n hc) (fun _ => h1)
def pSwi (X : pSX) (k pc : Nat) (L : pLT) (S : List Value) (w : pWD) : Option (List (Nat × Nat) × Nat × Int32 × List Value) := match pCode k pc with
  | none => none
  | some q => match pStep X q pc L S w with
    | some _ => none
    | none => match q.1 with
      | .tableswitch .. => match S with
        | .int x :: T => some (q.2.2.2.2, q.2.2.1, x, T)
        | _ => none
      | .lookupswitch .. => match S with
        | .int x :: T => some (q.2.2.2.2, q.2.2.1, x, T)
        | _ => none
      | _ => none
theorem wp_sw {sw : List (Nat × Nat)} {x : Nat} {v : Int32} {T : List Value} (h : pSwi X k pc L S w = some (sw, x, v, T)) (h1 : pW X d k (pSw sw x v) L T w Q) : pW X d k pc L S w Q := by
  unfold pSwi at h
  split at h
  · cases h
  · next q hq =>
    split at h
    · cases h
    · next hs =>
      refine wp_br hq hs ?_ h1
      obtain ⟨ins, len, a, b, sw⟩ := q
      split at h
      · next he =>
        split at h
        · cases h
          dsimp only at he
          subst he
          rfl
        · cases h
      · next he =>
        split at h
        · cases h
          dsimp only at he
          subst he
          rfl
        · cases h
      · cases h
def pRe (X : pSX) (k pc : Nat) (L : pLT) (S : List Value) (w : pWD) : Option (Bool × Option Value) := match pCode k pc with
  | none => none
  | some q => match pStep X q pc L S w with
    | some _ => none
    | none => match pBr q pc S with
      | some _ => none
      | none => pRtn k q S
theorem wp_re {c : Bool} {r : Option Value} (h : pRe X k pc L S w = some (c, r)) (hc : c = true) (hQ : Q r w) : pW X d k pc L S w Q := by
  unfold pRe at h
  split at h
  · cases h
  · next q hq =>
    split at h
    · cases h
    · next hs =>
      split at h
      · cases h
      · next hb =>
        subst hc
        refine ⟨1, r, w, ?_, hQ⟩
        unfold pEx
        rw [hq]
        simp only [hs, hb, h]
def pCa (X : pSX) (k pc : Nat) (L : pLT) (S : List Value) (w : pWD) : Option (Bool × Nat × List Value × List Value × Nat) := match pCode k pc with
  | none => none
  | some q => match pStep X q pc L S w with
    | some _ => none
    | none => match pBr q pc S with
      | some _ => none
      | none => match pRtn k q S with
        | some _ => none
        | none => match pCl q S with
          | none => none
          | some (c, j, as, S') => some (c && (pRcv w j as && Nat.ble (pEnA as).length (pL j)), j, as, S', pc + q.2.1)
theorem wp_ca {c : Bool} {j pc' : Nat} {as S' : List Value} {Q1 : pQT} (h : pCa X k pc L S w = some (c, j, as, S', pc')) (hc : c = true) (h1 : pM X d j as w Q1) (h2 : ∀ r w1, Q1 r w1 → pW X (d + 1) k pc' L (r.toList ++ S') w1 Q) : pW X (d + 1) k pc L S w Q := by
  unfold pCa at h
  split at h
  · cases h
  · next q hq =>
    split at h
    · cases h
    · next hs =>
      split at h
      · cases h
      · next hb =>
        split at h
        · cases h
        · next hr =>
          split at h
          · cases h
          · next c1 j1 as1 S1 hcl =>
            cases h
            simp only [Bool.and_eq_true] at hc
            obtain ⟨rfl, hc2, hc3⟩ := hc
            obtain ⟨n1, r1, w1, e1, q1⟩ := h1
            obtain ⟨n2, r2, w2, e2, q2⟩ := h2 r1 w1 q1
            refine ⟨max n1 n2 + 1, r2, w2, ?_, q2⟩
            unfold pEx
            rw [hq]
            simp only [hs, hb, hr, hcl]
            rw [hc2, hc3]
            have e1 := pEx_mono X (Nat.le_max_left n1 n2) e1
            have e2 := pEx_mono X (Nat.le_max_right n1 n2) e2
            simp only [Bool.and_self]
            rw [e1]
            exact e2
theorem wp_cc {c : Bool} {j pc' : Nat} {as S' : List Value} (h : pCa X k pc L S w = some (c, j, as, S', pc')) (hc : c = true) (h1 : pM X d j as w (fun r w1 => pW X (d + 1) k pc' L (r.toList ++ S') w1 Q)) : pW X (d + 1) k pc L S w Q := wp_ca h hc h1 (fun _ _ h => h)
theorem pM_start {j : Nat} {as : List Value} {L0 : pLT} (e : pEn j as = L0) (h : pW X d j 0 L0 [] w Q) : pM X d j as w Q := by
  unfold pM
  rw [e]
  exact h
end PWR
