/-! The reference: the group. -/
def sp_X10_isTooLarge : sm_SP := fun as g K => match as with
  | [.ref p] => p = 53 ∧ (10 < (rS g 53 1027).toInt ∨ 20 < (rS g 53 1028).toInt → K (some (.int (nI 1))) g) ∧ (¬ (10 < (rS g 53 1027).toInt ∨ 20 < (rS g 53 1028).toInt) → K (some (.int (nI 0))) g)
  | _ => False
theorem wf_X10_isTooLarge : sm_wf lay (yX10_isTooLarge, cX10_isTooLarge, 1, (some .boolean)) 1 false sp_X10_isTooLarge := by
  intro as g K h
  simp only [sp_X10_isTooLarge] at h
  split at h
  · exact ⟨Nat.le_of_ble_eq_true rfl, by simp, rfl, fun _ => by obtain rfl := h.1; exact ⟨53, _, 10, [1, 1, 56, 57, 58, 59, 60, 61, 1, 1, 62, 63, 64, 65, 66, 67, 68, 69, 70, 71, 72, 73, 1, 74, 75, 76, 77, 1, 1, 78, 79, 1, 80, 1, 81, 1, 82, 83, 84, 85, 86, 1], TX10, 42, rfl, rfl, rfl⟩⟩
  · exact h.elim
set_option maxHeartbeats 4000000 in
set_option maxRecDepth 100000 in
theorem b_X10_isTooLarge : sm_body lay NX10_isTooLarge 1 1 (sm_cl []) sp_X10_isTooLarge := by
  intro K J S hW as g hs
  have hn := n_X10_isTooLarge
  have hf := fd_all
  have ha := ar_all
  generalize NX10_isTooLarge = N at hn hW
  generalize lay = L at hf ha hW
  obtain ⟨hS, hR⟩ := hW
  simp only [sp_X10_isTooLarge] at hs
  split at hs
  case h_2 => exact hs.elim
  simp only [e_args, sm_pad, List.length_cons, List.length_nil, Nat.reduceAdd, Nat.reduceSub, List.replicate_succ, List.replicate_zero, List.cons_append, List.nil_append]
  rename_i p
  obtain ⟨rfl, h1, h2⟩ := hs
  apply hR 20
  simp (maxSteps := 10000000) (disch := omega) only [hS, hn, sm_eqs, hf, ha, sm_b0, Int.reduceToNat, ↓reduceIte, Nat.reduceEqDiff, true_and, and_true, List.length_nil, List.length_cons, Nat.reduceAdd, Nat.reduceLeDiff, Nat.zero_le, false_implies, true_implies, not_true_eq_false, not_false_eq_true, implies_true, Nat.reduceSub, Nat.reduceMul, Nat.reduceDiv, reduceCtorEq, tn_clamp, nI_t, tn_nI, nI_add, pk_mul, rS_gS, rS_gA, rS_gL, rA_gS, rA_gA, rA_gL, rL_gS, rL_gA, rL_gL, and_self, and_false, false_and, if_true, if_false, true_or, or_true, or_false, false_or, sm_in, eqI, sI_s, Int32.toInt_zero, Int.natCast_zero, Int.natCast_one, Int.cast_ofNat_Int, Int.reduceEq, Int.reduceLT, Int.reduceLE, Int.reduceNeg, Int.reduceNe, ne_eq, n_up, g_up, e_cat, fr_A, fr_O, fr_P, fr_L]
  clear hn hf ha hS hR
  grind
theorem ok_X10_isTooLarge (l : Launch) : sm_spok l lay sm_mt 1 191 sp_X10_isTooLarge := Or.inr (Or.inr (Or.inr ⟨by decide, by decide, by
  rw [mt_191]
  exact sm_method (T := TX10_) v_cok v_lok v_ka v_tok_X10 mok_X10_isTooLarge rfl (by unfold sm_rk; simp) wf_X10_isTooLarge (fun _ h => absurd h List.not_mem_nil) b_X10_isTooLarge⟩))
