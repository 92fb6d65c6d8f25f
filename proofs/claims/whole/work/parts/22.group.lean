/-! The group that a report is of. -/
def sp_X3_reportCount : sm_SP := fun as g K => match as with
  | [.ref p] => p = 33 ∧ K (some (.int (rS g 33 306))) g
  | _ => False
theorem wf_X3_reportCount : sm_wf lay (yX3_reportCount, cX3_reportCount, 1, (some .int)) 1 false sp_X3_reportCount := by
  intro as g K h
  simp only [sp_X3_reportCount] at h
  split at h
  · exact ⟨Nat.le_of_ble_eq_true rfl, by simp, rfl, fun _ => by obtain rfl := h.1; exact ⟨33, _, 3, [33, 14, 36, 45, 46, 47, 1, 1], TX3, 8, rfl, rfl, rfl⟩⟩
  · exact h.elim
set_option maxHeartbeats 4000000 in
set_option maxRecDepth 100000 in
theorem b_X3_reportCount : sm_body lay NX3_reportCount 1 0 (sm_cl []) sp_X3_reportCount := by
  intro K J S hW as g hs
  have hn := n_X3_reportCount
  have hf := fd_all
  have ha := ar_all
  generalize NX3_reportCount = N at hn hW
  generalize lay = L at hf ha hW
  obtain ⟨hS, hR⟩ := hW
  simp only [sp_X3_reportCount] at hs
  split at hs
  case h_2 => exact hs.elim
  simp only [e_args, sm_pad, List.length_cons, List.length_nil, Nat.reduceAdd, Nat.reduceSub, List.replicate_succ, List.replicate_zero, List.cons_append, List.nil_append]
  rename_i p
  obtain ⟨rfl, hs⟩ := hs
  apply hR 20
  simp (maxSteps := 10000000) (disch := omega) only [hS, hn, sm_eqs, hf, ha, sm_b0, Int.reduceToNat, ↓reduceIte, Nat.reduceEqDiff, true_and, and_true, List.length_nil, List.length_cons, Nat.reduceAdd, Nat.reduceLeDiff, Nat.zero_le, false_implies, true_implies, not_true_eq_false, not_false_eq_true, implies_true, Nat.reduceSub, Nat.reduceMul, Nat.reduceDiv, reduceCtorEq, tn_clamp, nI_t, tn_nI, nI_add, pk_mul, rS_gS, rS_gA, rS_gL, rA_gS, rA_gA, rA_gL, rL_gS, rL_gA, rL_gL, and_self, and_false, false_and, if_true, if_false, true_or, or_true, or_false, false_or, sm_in, eqI, sI_s, Int32.toInt_zero, Int.natCast_zero, Int.natCast_one, Int.cast_ofNat_Int, Int.reduceEq, Int.reduceLT, Int.reduceLE, Int.reduceNeg, Int.reduceNe, ne_eq, n_up, g_up, e_cat, fr_A, fr_O, fr_P, fr_L]
  exact hs
theorem ok_X3_reportCount (l : Launch) : sm_spok l lay sm_mt 1 46 sp_X3_reportCount := Or.inr (Or.inr (Or.inr ⟨by decide, by decide, by
  rw [mt_46]
  exact sm_method (T := TX3_) v_cok v_lok v_ka v_tok_X3 mok_X3_reportCount rfl (by unfold sm_rk; simp) wf_X3_reportCount (fun _ h => absurd h List.not_mem_nil) b_X3_reportCount⟩))
def sp_X3_thingCount : sm_SP := fun as g K => match as with
  | [.ref p] => p = 33 ∧ K (some (.int (rS g 33 307))) g
  | _ => False
theorem wf_X3_thingCount : sm_wf lay (yX3_thingCount, cX3_thingCount, 1, (some .int)) 1 false sp_X3_thingCount := by
  intro as g K h
  simp only [sp_X3_thingCount] at h
  split at h
  · exact ⟨Nat.le_of_ble_eq_true rfl, by simp, rfl, fun _ => by obtain rfl := h.1; exact ⟨33, _, 3, [33, 14, 36, 45, 46, 47, 1, 1], TX3, 8, rfl, rfl, rfl⟩⟩
  · exact h.elim
set_option maxHeartbeats 4000000 in
set_option maxRecDepth 100000 in
theorem b_X3_thingCount : sm_body lay NX3_thingCount 1 0 (sm_cl []) sp_X3_thingCount := by
  intro K J S hW as g hs
  have hn := n_X3_thingCount
  have hf := fd_all
  have ha := ar_all
  generalize NX3_thingCount = N at hn hW
  generalize lay = L at hf ha hW
  obtain ⟨hS, hR⟩ := hW
  simp only [sp_X3_thingCount] at hs
  split at hs
  case h_2 => exact hs.elim
  simp only [e_args, sm_pad, List.length_cons, List.length_nil, Nat.reduceAdd, Nat.reduceSub, List.replicate_succ, List.replicate_zero, List.cons_append, List.nil_append]
  rename_i p
  obtain ⟨rfl, hs⟩ := hs
  apply hR 20
  simp (maxSteps := 10000000) (disch := omega) only [hS, hn, sm_eqs, hf, ha, sm_b0, Int.reduceToNat, ↓reduceIte, Nat.reduceEqDiff, true_and, and_true, List.length_nil, List.length_cons, Nat.reduceAdd, Nat.reduceLeDiff, Nat.zero_le, false_implies, true_implies, not_true_eq_false, not_false_eq_true, implies_true, Nat.reduceSub, Nat.reduceMul, Nat.reduceDiv, reduceCtorEq, tn_clamp, nI_t, tn_nI, nI_add, pk_mul, rS_gS, rS_gA, rS_gL, rA_gS, rA_gA, rA_gL, rL_gS, rL_gA, rL_gL, and_self, and_false, false_and, if_true, if_false, true_or, or_true, or_false, false_or, sm_in, eqI, sI_s, Int32.toInt_zero, Int.natCast_zero, Int.natCast_one, Int.cast_ofNat_Int, Int.reduceEq, Int.reduceLT, Int.reduceLE, Int.reduceNeg, Int.reduceNe, ne_eq, n_up, g_up, e_cat, fr_A, fr_O, fr_P, fr_L]
  exact hs
theorem ok_X3_thingCount (l : Launch) : sm_spok l lay sm_mt 1 47 sp_X3_thingCount := Or.inr (Or.inr (Or.inr ⟨by decide, by decide, by
  rw [mt_47]
  exact sm_method (T := TX3_) v_cok v_lok v_ka v_tok_X3 mok_X3_thingCount rfl (by unfold sm_rk; simp) wf_X3_thingCount (fun _ h => absurd h List.not_mem_nil) b_X3_thingCount⟩))
def sp_X3_isTooLarge : sm_SP := fun as g K => match as with
  | [.ref p] => p = 33 ∧ (10 < (rS g 33 306).toInt ∨ 20 < (rS g 33 307).toInt → K (some (.int (nI 1))) g) ∧ (¬ (10 < (rS g 33 306).toInt ∨ 20 < (rS g 33 307).toInt) → K (some (.int (nI 0))) g)
  | _ => False
theorem wf_X3_isTooLarge : sm_wf lay (yX3_isTooLarge, cX3_isTooLarge, 1, (some .boolean)) 1 false sp_X3_isTooLarge := by
  intro as g K h
  simp only [sp_X3_isTooLarge] at h
  split at h
  · exact ⟨Nat.le_of_ble_eq_true rfl, by simp, rfl, fun _ => by obtain rfl := h.1; exact ⟨33, _, 3, [33, 14, 36, 45, 46, 47, 1, 1], TX3, 8, rfl, rfl, rfl⟩⟩
  · exact h.elim
set_option maxHeartbeats 4000000 in
set_option maxRecDepth 100000 in
theorem b_X3_isTooLarge : sm_body lay NX3_isTooLarge 1 1 (sm_cl []) sp_X3_isTooLarge := by
  intro K J S hW as g hs
  have hn := n_X3_isTooLarge
  have hf := fd_all
  have ha := ar_all
  generalize NX3_isTooLarge = N at hn hW
  generalize lay = L at hf ha hW
  obtain ⟨hS, hR⟩ := hW
  simp only [sp_X3_isTooLarge] at hs
  split at hs
  case h_2 => exact hs.elim
  simp only [e_args, sm_pad, List.length_cons, List.length_nil, Nat.reduceAdd, Nat.reduceSub, List.replicate_succ, List.replicate_zero, List.cons_append, List.nil_append]
  rename_i p
  obtain ⟨rfl, h1, h2⟩ := hs
  apply hR 20
  simp (maxSteps := 10000000) (disch := omega) only [hS, hn, sm_eqs, hf, ha, sm_b0, Int.reduceToNat, ↓reduceIte, Nat.reduceEqDiff, true_and, and_true, List.length_nil, List.length_cons, Nat.reduceAdd, Nat.reduceLeDiff, Nat.zero_le, false_implies, true_implies, not_true_eq_false, not_false_eq_true, implies_true, Nat.reduceSub, Nat.reduceMul, Nat.reduceDiv, reduceCtorEq, tn_clamp, nI_t, tn_nI, nI_add, pk_mul, rS_gS, rS_gA, rS_gL, rA_gS, rA_gA, rA_gL, rL_gS, rL_gA, rL_gL, and_self, and_false, false_and, if_true, if_false, true_or, or_true, or_false, false_or, sm_in, eqI, sI_s, Int32.toInt_zero, Int.natCast_zero, Int.natCast_one, Int.cast_ofNat_Int, Int.reduceEq, Int.reduceLT, Int.reduceLE, Int.reduceNeg, Int.reduceNe, ne_eq, n_up, g_up, e_cat, fr_A, fr_O, fr_P, fr_L]
  clear hn hf ha hS hR
  grind
theorem ok_X3_isTooLarge (l : Launch) : sm_spok l lay sm_mt 1 48 sp_X3_isTooLarge := Or.inr (Or.inr (Or.inr ⟨by decide, by decide, by
  rw [mt_48]
  exact sm_method (T := TX3_) v_cok v_lok v_ka v_tok_X3 mok_X3_isTooLarge rfl (by unfold sm_rk; simp) wf_X3_isTooLarge (fun _ h => absurd h List.not_mem_nil) b_X3_isTooLarge⟩))
/-- the k-th, from a on, of those that a test holds of: how the first n of them stand in a row -/
def lst (f : Nat → Bool) : Nat → List Nat
  | 0 => []
  | n + 1 => if f n = true then lst f n ++ [n] else lst f n
theorem lst_len (f : Nat → Bool) : ∀ n, (lst f n).length = cnt f n := by
  intro n
  induction n with
  | zero => rfl
  | succ n ih => simp only [lst, cnt]; split <;> simp [ih]
theorem lst_lt (f : Nat → Bool) : ∀ n, ∀ x ∈ lst f n, x < n ∧ f x = true := by
  intro n
  induction n with
  | zero => intro x h; cases h
  | succ n ih =>
    intro x h
    simp only [lst] at h
    split at h
    · rcases List.mem_append.mp h with h | h
      · have := ih x h; exact ⟨by omega, this.2⟩
      · rw [List.mem_singleton] at h; subst h; exact ⟨by omega, by assumption⟩
    · have := ih x h; exact ⟨by omega, this.2⟩

