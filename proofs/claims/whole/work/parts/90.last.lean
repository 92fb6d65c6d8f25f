def sp_isRow (as : List Value) (g : sm_G) (K : Option Value → sm_G → Prop) : Prop := match as with
  | [.ref _, .int x] => (sm_in x 60 → K (some (.int (nI 1))) g) ∧ (¬ sm_in x 60 → K (some (.int (nI 0))) g)
  | _ => False
set_option maxRecDepth 100000 in
theorem t1 (K : Option Value → sm_G → Prop) (J : Nat → sm_Lo → List Value → sm_G → Prop) (S : Nat → Nat → sm_Lo → List Value → sm_G → Prop) (hR : sm_walk lay NX7_answerOf (sm_cl [(83, sp_isRow)]) none false K J S) (g : sm_G) (x q : Int32) : J 0 [some (.ref 9), some (.int x), some (.int q)] [] g := by
  have hn := n_X7_answerOf
  have hf := fd_all
  have ha := ar_all
  generalize NX7_answerOf = N at hn hR
  generalize lay = L at hf ha hR
  obtain ⟨hS, hR⟩ := hR
  apply hR 60
  simp only [hS, hn, sm_eqs, hf, ha, sp_isRow, Int.reduceToNat, ↓reduceIte, Nat.reduceEqDiff, true_and, List.length_nil, Nat.zero_le]
  sorry
