/-- a question there is -/
def okQ (g : sm_G) (q : Int32) : Prop := 0 ≤ q.toInt ∧ q.toInt < (rS g 1 504).toInt
/-- an answer, to a question of sort s and number n -/
def vAns (s n a : Int32) : Prop := 0 ≤ a.toInt ∧ (s.toInt = 0 → a.toInt < n.toInt) ∧ (s.toInt = 1 → a.toInt ≤ 30000) ∧ (s.toInt ≠ 0 → s.toInt ≠ 1 → a.toInt < 10000 ∧ (a / nI 100).toInt ≤ (a - a / nI 100 * nI 100).toInt)
def sp_X5_weightOf : sm_SP := fun as g K => match as with
  | [.ref p, .int q] => p = 1 ∧ (rS g 1 504).toInt ≤ 16 ∧ (okQ g q → K (some (.int (rA g 4 (tn q)))) g) ∧ (¬ okQ g q → K (some (.int (nI 0))) g)
  | _ => False
theorem wf_X5_weightOf : sm_wf lay (yX5_weightOf, cX5_weightOf, 2, (some .int)) 2 false sp_X5_weightOf := by
  intro as g K h
  simp only [sp_X5_weightOf] at h
  split at h
  · exact ⟨Nat.le_of_ble_eq_true rfl, by simp, rfl, fun _ => by obtain rfl := h.1; exact ⟨1, _, 5, [4, 5, 6, 7, 1], TX5, 5, rfl, rfl, rfl⟩⟩
  · exact h.elim
set_option maxHeartbeats 4000000 in
set_option maxRecDepth 100000 in
theorem b_X5_weightOf : sm_body lay NX5_weightOf 2 0 (sm_cl [(66, sp_X5_has)]) sp_X5_weightOf := by
  intro K J S hW as g hs
  have hn := n_X5_weightOf
  have hf := fd_all
  have ha := ar_all
  generalize NX5_weightOf = N at hn hW
  generalize lay = L at hf ha hW
  obtain ⟨hS, hR⟩ := hW
  simp only [sp_X5_weightOf] at hs
  split at hs
  case h_2 => exact hs.elim
  simp only [e_args, sm_pad, List.length_cons, List.length_nil, Nat.reduceAdd, Nat.reduceSub, List.replicate_succ, List.replicate_zero, List.cons_append, List.nil_append]
  rename_i p q
  obtain ⟨rfl, h0, h1, h2⟩ := hs
  simp only [okQ] at h1 h2
  apply hR 20
  simp (disch := omega) only [hS, hn, sm_eqs, hf, ha, sm_b0, Int.reduceToNat, ↓reduceIte, Nat.reduceEqDiff, true_and, and_true, List.length_nil, List.length_cons, Nat.reduceAdd, Nat.reduceLeDiff, Nat.zero_le, false_implies, true_implies, not_true_eq_false, not_false_eq_true, implies_true, Nat.reduceSub, Nat.reduceMul, reduceCtorEq, tn_clamp, nI_t, tn_nI, nI_add, pk_mul, rS_gS, rS_gA, rS_gL, rA_gS, rA_gA, rA_gL, rL_gS, rL_gA, rL_gL, and_self, and_false, false_and, if_true, if_false, true_or, or_true, or_false, false_or, sm_in, eqI, sI_s, Int32.toInt_zero, Int.natCast_zero, Int.natCast_one, Int.cast_ofNat_Int, Int.reduceEq, Int.reduceLT, Int.reduceLE, Int.reduceNeg, Int.reduceNe, ne_eq, sp_X5_has]
  clear hn hf ha hS hR
  grind
theorem ok_X5_weightOf (l : Launch) : sm_spok l lay sm_mt 2 67 sp_X5_weightOf := Or.inr (Or.inr (Or.inr ⟨by decide, by decide, by
  rw [mt_67]
  exact sm_method (T := TX5_) v_cok v_lok v_ka v_tok_X5 mok_X5_weightOf rfl (by unfold sm_rk; simp) wf_X5_weightOf (List.forall_mem_cons.mpr ⟨sm_spok_up (Nat.le_of_ble_eq_true rfl : 1 ≤ 1) (ok_X5_has l), fun _ h => absurd h List.not_mem_nil⟩) b_X5_weightOf⟩))
def sp_X5_isNumberOf : sm_SP := fun as g K => match as with
  | [.int s, .int n] => ((s.toInt = 0 ∧ 1 ≤ n.toInt ∧ n.toInt ≤ 40 ∨ s.toInt = 1 ∧ 0 ≤ n.toInt ∧ n.toInt ≤ 10 ∨ s.toInt = 2 ∧ n.toInt = 0) → K (some (.int (nI 1))) g) ∧ (¬ (s.toInt = 0 ∧ 1 ≤ n.toInt ∧ n.toInt ≤ 40 ∨ s.toInt = 1 ∧ 0 ≤ n.toInt ∧ n.toInt ≤ 10 ∨ s.toInt = 2 ∧ n.toInt = 0) → K (some (.int (nI 0))) g)
  | _ => False
theorem wf_X5_isNumberOf : sm_wf lay (yX5_isNumberOf, cX5_isNumberOf, 2, (some .boolean)) 2 true sp_X5_isNumberOf := by
  intro as g K h
  simp only [sp_X5_isNumberOf] at h
  split at h
  · exact ⟨Nat.le_of_ble_eq_true rfl, by simp, rfl, fun h => by cases h⟩
  · exact h.elim
set_option maxHeartbeats 4000000 in
set_option maxRecDepth 100000 in
theorem b_X5_isNumberOf : sm_body lay NX5_isNumberOf 2 1 (sm_cl []) sp_X5_isNumberOf := by
  intro K J S hW as g hs
  have hn := n_X5_isNumberOf
  have hf := fd_all
  have ha := ar_all
  generalize NX5_isNumberOf = N at hn hW
  generalize lay = L at hf ha hW
  obtain ⟨hS, hR⟩ := hW
  simp only [sp_X5_isNumberOf] at hs
  split at hs
  case h_2 => exact hs.elim
  simp only [e_args, sm_pad, List.length_cons, List.length_nil, Nat.reduceAdd, Nat.reduceSub, List.replicate_succ, List.replicate_zero, List.cons_append, List.nil_append]
  rename_i s n
  obtain ⟨h1, h2⟩ := hs
  apply hR 40
  simp (disch := omega) only [hS, hn, sm_eqs, hf, ha, sm_b0, Int.reduceToNat, ↓reduceIte, Nat.reduceEqDiff, true_and, and_true, List.length_nil, List.length_cons, Nat.reduceAdd, Nat.reduceLeDiff, Nat.zero_le, false_implies, true_implies, not_true_eq_false, not_false_eq_true, implies_true, Nat.reduceSub, Nat.reduceMul, reduceCtorEq, tn_clamp, nI_t, tn_nI, nI_add, pk_mul, rS_gS, rS_gA, rS_gL, rA_gS, rA_gA, rA_gL, rL_gS, rL_gA, rL_gL, and_self, and_false, false_and, if_true, if_false, true_or, or_true, or_false, false_or, sm_in, eqI, sI_s, Int32.toInt_zero, Int.natCast_zero, Int.natCast_one, Int.cast_ofNat_Int, Int.reduceEq, Int.reduceLT, Int.reduceLE, Int.reduceNeg, Int.reduceNe, ne_eq]
  clear hn hf ha hS hR
  grind
theorem ok_X5_isNumberOf (l : Launch) : sm_spok l lay sm_mt 1 69 sp_X5_isNumberOf := Or.inr (Or.inr (Or.inr ⟨by decide, by decide, by
  rw [mt_69]
  exact sm_method (T := TX5_) v_cok v_lok v_ka v_tok_X5 mok_X5_isNumberOf rfl (by unfold sm_rk; simp) wf_X5_isNumberOf (fun _ h => absurd h List.not_mem_nil) b_X5_isNumberOf⟩))
def sp_X5_isAnswer : sm_SP := fun as g K => match as with
  | [.ref p, .int q, .int a] => p = 1 ∧ (rS g 1 504).toInt ≤ 16 ∧ (okQ g q ∧ vAns (rA g 2 (tn q)) (rA g 3 (tn q)) a → K (some (.int (nI 1))) g) ∧ (¬ (okQ g q ∧ vAns (rA g 2 (tn q)) (rA g 3 (tn q)) a) → K (some (.int (nI 0))) g)
  | _ => False
theorem wf_X5_isAnswer : sm_wf lay (yX5_isAnswer, cX5_isAnswer, 3, (some .boolean)) 3 false sp_X5_isAnswer := by
  intro as g K h
  simp only [sp_X5_isAnswer] at h
  split at h
  · exact ⟨Nat.le_of_ble_eq_true rfl, by simp, rfl, fun _ => by obtain rfl := h.1; exact ⟨1, _, 5, [4, 5, 6, 7, 1], TX5, 5, rfl, rfl, rfl⟩⟩
  · exact h.elim
set_option maxHeartbeats 4000000 in
set_option maxRecDepth 100000 in
theorem b_X5_isAnswer : sm_body lay NX5_isAnswer 3 1 (sm_cl []) sp_X5_isAnswer := by
  intro K J S hW as g hs
  have hn := n_X5_isAnswer
  have hf := fd_all
  have ha := ar_all
  generalize NX5_isAnswer = N at hn hW
  generalize lay = L at hf ha hW
  obtain ⟨hS, hR⟩ := hW
  simp only [sp_X5_isAnswer] at hs
  split at hs
  case h_2 => exact hs.elim
  simp only [e_args, sm_pad, List.length_cons, List.length_nil, Nat.reduceAdd, Nat.reduceSub, List.replicate_succ, List.replicate_zero, List.cons_append, List.nil_append]
  rename_i p q a
  obtain ⟨rfl, h0, h1, h2⟩ := hs
  simp only [okQ, vAns] at h1 h2
  apply hR 60
  simp (disch := omega) only [hS, hn, sm_eqs, hf, ha, sm_b0, Int.reduceToNat, ↓reduceIte, Nat.reduceEqDiff, true_and, and_true, List.length_nil, List.length_cons, Nat.reduceAdd, Nat.reduceLeDiff, Nat.zero_le, false_implies, true_implies, not_true_eq_false, not_false_eq_true, implies_true, Nat.reduceSub, Nat.reduceMul, reduceCtorEq, tn_clamp, nI_t, tn_nI, nI_add, pk_mul, rS_gS, rS_gA, rS_gL, rA_gS, rA_gA, rA_gL, rL_gS, rL_gA, rL_gL, and_self, and_false, false_and, if_true, if_false, true_or, or_true, or_false, false_or, sm_in, eqI, sI_s, Int32.toInt_zero, Int.natCast_zero, Int.natCast_one, Int.cast_ofNat_Int, Int.reduceEq, Int.reduceLT, Int.reduceLE, Int.reduceNeg, Int.reduceNe, ne_eq]
  clear hn hf ha hS hR
  grind
theorem ok_X5_isAnswer (l : Launch) : sm_spok l lay sm_mt 1 70 sp_X5_isAnswer := Or.inr (Or.inr (Or.inr ⟨by decide, by decide, by
  rw [mt_70]
  exact sm_method (T := TX5_) v_cok v_lok v_ka v_tok_X5 mok_X5_isAnswer rfl (by unfold sm_rk; simp) wf_X5_isAnswer (fun _ h => absurd h List.not_mem_nil) b_X5_isAnswer⟩))
