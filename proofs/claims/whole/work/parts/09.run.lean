/-! a run of the pure machine, whole -/
theorem p_call {p : Program} {l : Launch} {e : Env} {R : Room} {s : State} {m : MethodId} {args : Array Value} {below : List Frame} {meth : Method} {c : Code} {H : Heap} {locs : List Loc} {cells slots : Nat} {Q : State → Prop} {D : va_G} {b base k pc d : Nat} {X : pSX} {cid : Nat → ClassId} {ls : Array Slot} {w w1 : pWD} {q : pXI} {S S' as : List Value} {j : Nat} {r1 : Option Value}
    (C : pCx p R s m args meth c b base X k) (hq0 : pChk k pc q = true) (h : pCl q S = some (true, j, as, S')) (hrc : pRcv w j as = true) (har : (pEnA as).length ≤ pL j)
    (hj : j < 210 → pBody l D b base X d j 0 (pEn j as) [] w r1 w1) (hg : nC w ≤ nC w1 ∧ nS w ≤ nS w1)
    (hRel : pRel D w b base cid s H) (hS : va_S (fun q : Nat => base ≤ q) s.heap H locs) (hlz : ls.size = pL k) (hcnt : s.heap.size + cells = base + nC w) (hfr : d + 1 + 1 ≤ R.frames) (hlo : 40 * (d + 1) + 64 ≤ R.locals) (hfc : cells + (nC w1 - nC w) ≤ R.cells) (hfs : slots + (nS w1 - nS w) ≤ R.slots) (hnat : q.2.2.1 < 1000)
    (kk : ∀ (cid1 : Nat → ClassId) (H1 : Heap) (locs1 : List Loc), pRel D w1 b base cid1 s H1 → va_S (fun q : Nat => base ≤ q) s.heap H1 locs1 → W p l e R s m args below meth c H1 locs1 (cells + (nC w1 - nC w)) (slots + (nS w1 - nS w)) Q (F0 m (pc + q.2.1) ls ((r1.toList ++ S').map (pVal b base)))) :
    W p l e R s m args below meth c H locs cells slots Q (F0 m pc ls (S.map (pVal b base))) := by
  obtain ⟨hx, hb, hml, hown, hts, hini, hX, hbb, hbs, hRf, hRl, hAO⟩ := id C
  obtain ⟨ins, len, x, y, sw⟩ := q
  unfold pChk at hq0
  rw [Bool.and_eq_true] at hq0
  obtain ⟨hd0, hq⟩ := hq0
  have hd : decode (pB k) pc = .ok (ins, len) := of_decide_eq_true hd0
  clear hd0
  have hnx : x < 1000 := hnat
  have hfin : ∀ (H1 : Heap), ((r1.map (pVal b base)).toList ++ S'.map (pVal b base)) = (r1.toList ++ S').map (pVal b base) := fun _ => by
    rw [List.map_append]
    cases r1 <;> rfl
  have shape : ∀ (y : Nat), Nat.ble y S.length = true → as = (S.take y).reverse → S' = S.drop y → as.length = y ∧ S = as.reverse ++ S' := by
    intro y h1 h2 h3
    have h1 := Nat.le_of_ble_eq_true h1
    subst h2; subst h3
    refine ⟨by rw [List.length_reverse, List.length_take]; omega, by rw [List.reverse_reverse, List.take_append_drop]⟩
  refine pW_size fun z1 z2 => ?_
  cases ins <;> simp only [pCl, reduceCtorEq, Option.some.injEq, Prod.mk.injEq, Bool.and_eq_true] at h
  case invokevirtual idx =>
    obtain ⟨⟨c1, c2⟩, rfl, e2, e3⟩ := h
    obtain ⟨hal, hSe⟩ := shape y c1 e2.symm e3.symm
    have c2 := Nat.le_of_ble_eq_true c2
    rw [e3] at c2
    simp only [pChk2, Bool.and_eq_true] at hq
    obtain ⟨q1, q2, q3, q4, q5⟩ := hq
    have hlen := Nat.eq_of_beq_eq_true q1
    subst hlen
    have hlk := pML_ok _ (List.contains_iff_mem.mp q2)
    have q3 := Nat.eq_of_beq_eq_true q3
    have q4 := Nat.eq_of_beq_eq_true q4
    have hj1 : x < 210 := Nat.le_of_ble_eq_true q5
    have hM := pMet hj1 (hj hj1) har hg
    have hG := pMG_ok x hj1
    unfold pMG at hG
    simp only [Bool.and_eq_true, Bool.not_eq_true', decide_eq_false_iff_not, decide_eq_true_eq] at hG
    obtain ⟨-, n1, n2, n3, n4, n5, n6⟩ := hG
    have n4 := Nat.le_of_ble_eq_true n4
    have n6 : pCi x < 8 := Nat.le_of_ble_eq_true n6
    have hF := pMF_ok x hj1
    unfold pMF at hF
    rw [q3] at hF
    obtain ⟨f1, f2, f3, f4⟩ := hF
    unfold pRcv at hrc
    rw [q3] at hrc
    cases as with
    | nil => simp at hrc
    | cons v as =>
    cases v <;> simp only [reduceCtorEq] at hrc
    rename_i a
    cases hw : w.1[a]? with
    | none => simp [hw] at hrc
    | some sc =>
    cases sc with
    | inr _ => simp [hw] at hrc
    | inl ci =>
    simp only [hw] at hrc
    have hci := Nat.eq_of_beq_eq_true hrc
    subst hci
    obtain ⟨⟨tys, hK, ht⟩, hP, hl2⟩ := id hRel
    have he : (pWs w b base cid)[a]? = some (base + a, .inr (pCi x, (List.range (pN (pCi x))).map (fun k => pVal b base (pFv w (pCi x) k a)))) := by rw [pWs_at (pW_lt hw), pEnt_o hw]
    have hst : S.map (pVal b base) = (as.map (pVal b base)).reverse ++ .ref (base + a) :: S'.map (pVal b base) := by
      rw [hSe, List.map_append, List.reverse_cons, List.map_append, List.map_reverse, List.append_assoc]
      rfl
    refine p_callR (va_runV (As := as.map (pVal b base)) (b := base + a) (C := (pY x).cls) ⟨hx, hb, hml, hown, hts⟩ hM ⟨callB_of (pAn x) hts (pGood f1) rfl rfl rfl (hts _ (pW_in f2 rfl)) (hts _ (pW_in hlk rfl)) ⟨n1, n2, n3⟩ ⟨hfr, by show 8 + (pL x + 11) + (40 * d + 64) ≤ R.locals; omega⟩, hts _ (pW_in f3 rfl), hts _ (pW_in f4 rfl)⟩ ⟨pPc_blind _ _ _ _ _ _, by rw [n5]; exact va_recv hK hP (pClA (pCi x) n6) he, pPc_at C hRel hS hcnt z1 z2⟩ rfl ?_ hlz hst (by show 2 * 0 + _ ≤ 8; rw [pVal_cats]; omega) hd ⟨hfc, hfs⟩) hS hbs ?_
    · rw [List.length_map]
      rw [List.length_cons] at hal
      omega
    · intro cid1 H1 locs1 g1 g2
      rw [hfin H1]
      exact kk cid1 H1 locs1 g1 g2
  case invokestatic idx =>
    obtain ⟨⟨c1, c2⟩, rfl, e2, e3⟩ := h
    obtain ⟨hal, hSe⟩ := shape y c1 e2.symm e3.symm
    have c2 := Nat.le_of_ble_eq_true c2
    rw [e3] at c2
    simp only [pChk2, Bool.and_eq_true] at hq
    obtain ⟨q1, q2⟩ := hq
    have hlen := Nat.eq_of_beq_eq_true q1
    subst hlen
    have hx9 : Nat.ble 1000 x = false := by
      cases hz : Nat.ble 1000 x with
      | false => rfl
      | true => exact absurd (Nat.le_of_ble_eq_true hz) (by omega)
    rw [hx9] at q2
    simp only [cond_false, Bool.and_eq_true, Bool.or_eq_true] at q2
    obtain ⟨q2, q3, q4, q5⟩ := q2
    have q3 := Nat.eq_of_beq_eq_true q3
    have q4 := Nat.eq_of_beq_eq_true q4
    have hj1 : x < 210 := Nat.le_of_ble_eq_true q5
    have hM := pMet hj1 (hj hj1) har hg
    have hG := pMG_ok x hj1
    unfold pMG at hG
    simp only [Bool.and_eq_true, Bool.not_eq_true', decide_eq_false_iff_not, decide_eq_true_eq] at hG
    obtain ⟨-, n1, n2, n3, n4, n5, n6⟩ := hG
    have n4 := Nat.le_of_ble_eq_true n4
    have hF := pMF_ok x hj1
    unfold pMF at hF
    rw [q3] at hF
    obtain ⟨f1, f2, f3⟩ := hF
    have hst : S.map (pVal b base) = (as.map (pVal b base)).reverse ++ S'.map (pVal b base) := by
      rw [hSe, List.map_append, List.map_reverse]
    rcases q2 with q2 | q2
    · have hlk := pML_ok _ (List.contains_iff_mem.mp q2)
      refine p_callR (va_runS (As := as.map (pVal b base)) ⟨hx, hb, hml, hown, hts⟩ hM ⟨callB_of (pAn x) hts (pGood f1) rfl rfl rfl (hts _ (pW_in f2 rfl)) (hts _ (pW_in hlk rfl)) ⟨n1, n2, n3⟩ ⟨hfr, by show 8 + (pL x + 11) + (40 * d + 64) ≤ R.locals; omega⟩, hts _ (pW_in f3 rfl)⟩ ⟨pPc_blind _ _ _ _ _ _, pPc_at C hRel hS hcnt z1 z2⟩ rfl ?_ hlz hst (by show 2 * 0 + _ ≤ 8; rw [pVal_cats]; omega) hd ⟨hfc, hfs⟩) hS hbs ?_
      · rw [List.length_map]
        omega
      · intro cid1 H1 locs1 g1 g2
        rw [hfin H1]
        exact kk cid1 H1 locs1 g1 g2
    · have hlk := hAO.2 _ (List.contains_iff_mem.mp q2)
      refine p_callR (va_runSN (As := as.map (pVal b base)) ⟨hx, hb, hml, hown, hts⟩ hM ⟨va_cnB (pAn x) hts (pGood f1) rfl rfl rfl hlk (hts _ (pW_in f2 rfl)) ⟨n1, n2, n3⟩ ⟨hfr, by show 8 + (pL x + 11) + (40 * d + 64) ≤ R.locals; omega⟩, hts _ (pW_in f3 rfl), trivial⟩ ⟨pPc_blind _ _ _ _ _ _, pPc_at C hRel hS hcnt z1 z2⟩ rfl ?_ hlz hst (by show 2 * 0 + _ ≤ 8; rw [pVal_cats]; omega) hd ⟨hfc, hfs⟩) hS hbs ?_
      · rw [List.length_map]
        omega
      · intro cid1 H1 locs1 g1 g2
        rw [hfin H1]
        exact kk cid1 H1 locs1 g1 g2
  case invokespecial idx =>
    obtain ⟨⟨c1, c2⟩, rfl, e2, e3⟩ := h
    obtain ⟨hal, hSe⟩ := shape y c1 e2.symm e3.symm
    have c2 := Nat.le_of_ble_eq_true c2
    rw [e3] at c2
    simp only [pChk2, Bool.and_eq_true] at hq
    obtain ⟨q1, q2⟩ := hq
    have hlen := Nat.eq_of_beq_eq_true q1
    subst hlen
    have hx9 : Nat.beq x 1004 = false := by
      cases hz : Nat.beq x 1004 with
      | false => rfl
      | true => exact absurd (Nat.eq_of_beq_eq_true hz) (by omega)
    rw [hx9] at q2
    simp only [cond_false, Bool.and_eq_true, Bool.or_eq_true] at q2
    obtain ⟨q2, q3, q4, q5⟩ := q2
    have q3 := Nat.eq_of_beq_eq_true q3
    have q4 := Nat.eq_of_beq_eq_true q4
    have hj1 : x < 210 := Nat.le_of_ble_eq_true q5
    have hM := pMet hj1 (hj hj1) har hg
    have hG := pMG_ok x hj1
    unfold pMG at hG
    simp only [Bool.and_eq_true, Bool.not_eq_true', decide_eq_false_iff_not, decide_eq_true_eq] at hG
    obtain ⟨-, n1, n2, n3, n4, n5, n6⟩ := hG
    have n4 := Nat.le_of_ble_eq_true n4
    have hF := pMF_ok x hj1
    unfold pMF at hF
    rw [q3] at hF
    obtain ⟨f1, f2, f3, f4, f5⟩ := hF
    rw [f5] at hM f1
    unfold pRcv at hrc
    rw [q3] at hrc
    cases as with
    | nil => simp at hrc
    | cons v as =>
    cases v <;> simp only [reduceCtorEq] at hrc
    rename_i a
    have hst : S.map (pVal b base) = (as.map (pVal b base)).reverse ++ .ref (base + a) :: S'.map (pVal b base) := by
      rw [hSe, List.map_append, List.reverse_cons, List.map_append, List.map_reverse, List.append_assoc]
      rfl
    rcases q2 with q2 | q2
    · have hlk := pML_ok _ (List.contains_iff_mem.mp q2)
      refine p_callR (va_runI (As := as.map (pVal b base)) (b := base + a) ⟨hx, hb, hml, hown, hts⟩ hM ⟨callB_of (pAn x) hts (pGood f1) rfl rfl rfl (hts _ (pW_in f2 rfl)) (hts _ (pW_in hlk rfl)) ⟨n1, n2, n3⟩ ⟨hfr, by show 8 + (pL x + 11) + (40 * d + 64) ≤ R.locals; omega⟩, f4, hts _ (pW_in f3 rfl)⟩ ⟨pPc_blind _ _ _ _ _ _, pPc_at C hRel hS hcnt z1 z2⟩ rfl ?_ hlz hst (by show 2 * 0 + _ ≤ 8; rw [pVal_cats]; omega) hd ⟨hfc, hfs⟩) hS hbs ?_
      · rw [List.length_map]
        rw [List.length_cons] at hal
        omega
      · intro cid1 H1 locs1 g1 g2
        rw [hfin H1]
        exact kk cid1 H1 locs1 g1 g2
    · have hlk := hAO.2 _ (List.contains_iff_mem.mp q2)
      refine p_callR (va_runIN (As := as.map (pVal b base)) (b := base + a) ⟨hx, hb, hml, hown, hts⟩ hM ⟨va_cnB (pAn x) hts (pGood f1) rfl rfl rfl hlk (hts _ (pW_in f2 rfl)) ⟨n1, n2, n3⟩ ⟨hfr, by show 8 + (pL x + 11) + (40 * d + 64) ≤ R.locals; omega⟩, f4, hts _ (pW_in f3 rfl)⟩ ⟨pPc_blind _ _ _ _ _ _, pPc_at C hRel hS hcnt z1 z2⟩ rfl ?_ hlz hst (by show 2 * 0 + _ ≤ 8; rw [pVal_cats]; omega) hd ⟨hfc, hfs⟩) hS hbs ?_
      · rw [List.length_map]
        rw [List.length_cons] at hal
        omega
      · intro cid1 H1 locs1 g1 g2
        rw [hfin H1]
        exact kk cid1 H1 locs1 g1 g2
theorem pCode_lt {k pc : Nat} {q : pXI} (h : pCode k pc = some q) : k < 211 := by
  by_cases hk : k < 211
  · exact hk
  · unfold pCode at h
    rw [pck_n k hk] at h
    cases hb : Nat.blt pc 0 with
    | true => exact absurd (Nat.le_of_ble_eq_true hb) (by omega)
    | false => rw [hb] at h; cases h
theorem pEx_lt {X : pSX} {n d k pc : Nat} {L : pLT} {S : List Value} {w : pWD} {z : Option Value × pWD} (h : pEx X n d k pc L S w = some z) : k < 211 := by
  cases n with
  | zero => cases h
  | succ n =>
    unfold pEx at h
    split at h
    · cases h
    · next q hq => exact pCode_lt hq
theorem pCl_x {q : pXI} {S : List Value} {j : Nat} {as S' : List Value} {cc : Bool} (h : pCl q S = some (cc, j, as, S')) : q.2.2.1 = j := by
  obtain ⟨ins, len, x, y, sw⟩ := q
  cases ins <;> simp only [pCl, reduceCtorEq, Option.some.injEq, Prod.mk.injEq] at h
  all_goals exact h.2.1
theorem p_sound (l : Launch) (D : va_G) (b base : Nat) (X : pSX) : ∀ (n d k pc : Nat) (L : pLT) (S : List Value) (w : pWD) (r : Option Value) (w' : pWD), pEx X n d k pc L S w = some (r, w') → pBody l D b base X d k pc L S w r w' := by
  intro n
  induction n with
  | zero => intro d k pc L S w r w' h; cases h
  | succ n ih =>
    intro d k pc L S w r w' h
    intro p e R s m args below meth c H locs cells slots Q cid ls mc ms C hRel hS hl hcnt hfr hlo hmc hms hc1 hs1 hret
    unfold pEx at h
    split at h
    · cases h
    · next q hq =>
      have hck := pChk_ok hq
      split at h
      · next pc1 L1 S1 w1 hs =>
        have g1 := nC_grow (pStep_grow hs)
        have g2 := pEx_grow X _ _ _ _ _ _ _ _ _ h
        refine p_step C hck hs hRel hS hl hcnt (by omega) (by omega) ?_
        intro H1 locs1 ls1 cid1 cells1 slots1 k1 k2 k3 k4 k5
        exact ih _ _ _ _ _ _ _ _ h p e R s m args below meth c H1 locs1 cells1 slots1 Q cid1 ls1 mc ms C k1 k2 k3 k4 hfr hlo hmc hms (by omega) (by omega) hret
      · cases h
      · next hns =>
        split at h
        · next pc1 S1 hb => exact p_br C hck hb (ih _ _ _ _ _ _ _ _ h p e R s m args below meth c H locs cells slots Q cid ls mc ms C hRel hS hl hcnt hfr hlo hmc hms hc1 hs1 hret)
        · split at h
          · next r1 hr =>
            cases h
            obtain ⟨a1, a2⟩ := p_rtn hck hr
            have e1 : cells = mc := by omega
            have e2 : slots = ms := by omega
            subst e1; subst e2
            have := hret pc H locs ls cid a1 hRel hS
            rw [a2]
            cases r <;> exact this
          · cases h
          · split at h
            · next j as S1 hcl =>
              split at h
              · cases h
              · next d1 =>
                split at h
                · cases h
                · next hrc =>
                  simp only [Bool.and_eq_true] at hrc
                  split at h
                  · cases h
                  · next r1 w1 h1 =>
                    have g1 := pEx_grow X _ _ _ _ _ _ _ _ _ h1
                    have g2 := pEx_grow X _ _ _ _ _ _ _ _ _ h
                    obtain ⟨lv, l1, l2⟩ := id hl
                    refine p_call C hck hcl hrc.1 (Nat.le_of_ble_eq_true hrc.2) (fun _ => ih _ _ _ _ _ _ _ _ h1) g1 hRel hS l1.1 hcnt hfr hlo (by omega) (by omega) ?_ ?_
                    · rw [pCl_x hcl]
                      exact Nat.lt_of_lt_of_le (pEx_lt h1) (by decide)
                    · intro cid1 H1 locs1 k1 k2
                      exact ih _ _ _ _ _ _ _ _ h p e R s m args below meth c H1 locs1 _ _ Q cid1 ls mc ms C k1 k2 hl (by omega) hfr hlo hmc hms (by omega) (by omega) hret
            · cases h
