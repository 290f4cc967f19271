theorem en_111 (a b c : Int32) : pEn 111 [.int a, .int b, .int c] = [some (.int a), some (.int b), some (.int c)] := rfl
theorem t_isWithin (X : pSX) (d : Nat) (v lo hi : Int32) (w : pWD) : pM X d 111 [.int v, .int lo, .int hi] w (fun r w' => w' = w ∧ r = some (.int (if lo ≤ v ∧ v ≤ hi then nI 1 else nI 0))) := by
  unfold pM
  rw [en_111]
  refine wp_au [] 50 rfl rfl ?_
  trace_state
  refine wp_if rfl (fun h => ?_) (fun h => ?_)
  all_goals trace_state
  all_goals sorry
