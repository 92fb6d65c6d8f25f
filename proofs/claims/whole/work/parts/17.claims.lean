/-! Claims. -/
def sp_X2_size : sm_SP := fun as g K => match as with
  | [.ref p] => p = 25 ∧ zC g ∧ K (some (.int (nI (nC g)))) g
  | _ => False
theorem wf_X2_size : sm_wf lay (yX2_size, cX2_size, 1, (some .int)) 1 false sp_X2_size := by
  intro as g K h
  simp only [sp_X2_size] at h
  split at h
  · exact ⟨Nat.le_of_ble_eq_true rfl, by simp, rfl, fun _ => by obtain rfl := h.1; exact ⟨25, _, 2, [28, 29, 30, 31, 32, 1], TX2, 6, rfl, rfl, rfl⟩⟩
  · exact h.elim
set_option maxHeartbeats 4000000 in
set_option maxRecDepth 100000 in
theorem b_X2_size : sm_body lay NX2_size 1 0 (sm_cl []) sp_X2_size := by
  intro K J S hW as g hs
  have hn := n_X2_size
  have hf := fd_all
  have ha := ar_all
  generalize NX2_size = N at hn hW
  generalize lay = L at hf ha hW
  obtain ⟨hS, hR⟩ := hW
  simp only [sp_X2_size] at hs
  split at hs
  case h_2 => exact hs.elim
  simp only [e_args, sm_pad, List.length_cons, List.length_nil, Nat.reduceAdd, Nat.reduceSub, List.replicate_succ, List.replicate_zero, List.cons_append, List.nil_append]
  rename_i p
  obtain ⟨rfl, z, hs⟩ := hs
  apply hR 20
  simp (maxSteps := 10000000) (disch := omega) only [hS, hn, sm_eqs, hf, ha, sm_b0, Int.reduceToNat, ↓reduceIte, Nat.reduceEqDiff, true_and, and_true, List.length_nil, List.length_cons, Nat.reduceAdd, Nat.reduceLeDiff, Nat.zero_le, false_implies, true_implies, not_true_eq_false, not_false_eq_true, implies_true, Nat.reduceSub, Nat.reduceMul, Nat.reduceDiv, reduceCtorEq, tn_clamp, nI_t, tn_nI, nI_add, pk_mul, rS_gS, rS_gA, rS_gL, rA_gS, rA_gA, rA_gL, rL_gS, rL_gA, rL_gL, and_self, and_false, false_and, if_true, if_false, true_or, or_true, or_false, false_or, sm_in, eqI, sI_s, Int32.toInt_zero, Int.natCast_zero, Int.natCast_one, Int.cast_ofNat_Int, Int.reduceEq, Int.reduceLT, Int.reduceLE, Int.reduceNeg, Int.reduceNe, ne_eq, n_up, g_up, e_cat, z.1]
  exact hs
theorem ok_X2_size (l : Launch) : sm_spok l lay sm_mt 1 27 sp_X2_size := Or.inr (Or.inr (Or.inr ⟨by decide, by decide, by
  rw [mt_27]
  exact sm_method (T := TX2_) v_cok v_lok v_ka v_tok_X2 mok_X2_size rfl (by unfold sm_rk; simp) wf_X2_size (fun _ h => absurd h List.not_mem_nil) b_X2_size⟩))
def sp_X2_has : sm_SP := fun as g K => match as with
  | [.ref p, .int c] => p = 25 ∧ zC g ∧ (okC g c → K (some (.int (nI 1))) g) ∧ (¬ okC g c → K (some (.int (nI 0))) g)
  | _ => False
theorem wf_X2_has : sm_wf lay (yX2_has, cX2_has, 2, (some .boolean)) 2 false sp_X2_has := by
  intro as g K h
  simp only [sp_X2_has] at h
  split at h
  · exact ⟨Nat.le_of_ble_eq_true rfl, by simp, rfl, fun _ => by obtain rfl := h.1; exact ⟨25, _, 2, [28, 29, 30, 31, 32, 1], TX2, 6, rfl, rfl, rfl⟩⟩
  · exact h.elim
set_option maxHeartbeats 4000000 in
set_option maxRecDepth 100000 in
theorem b_X2_has : sm_body lay NX2_has 2 1 (sm_cl []) sp_X2_has := by
  intro K J S hW as g hs
  have hn := n_X2_has
  have hf := fd_all
  have ha := ar_all
  generalize NX2_has = N at hn hW
  generalize lay = L at hf ha hW
  obtain ⟨hS, hR⟩ := hW
  simp only [sp_X2_has] at hs
  split at hs
  case h_2 => exact hs.elim
  simp only [e_args, sm_pad, List.length_cons, List.length_nil, Nat.reduceAdd, Nat.reduceSub, List.replicate_succ, List.replicate_zero, List.cons_append, List.nil_append]
  rename_i p r
  obtain ⟨rfl, z, h1, h2⟩ := hs
  have z2 := z.2
  simp only [okC] at h1 h2
  apply hR 20
  simp (maxSteps := 10000000) (disch := omega) only [hS, hn, sm_eqs, hf, ha, sm_b0, Int.reduceToNat, ↓reduceIte, Nat.reduceEqDiff, true_and, and_true, List.length_nil, List.length_cons, Nat.reduceAdd, Nat.reduceLeDiff, Nat.zero_le, false_implies, true_implies, not_true_eq_false, not_false_eq_true, implies_true, Nat.reduceSub, Nat.reduceMul, Nat.reduceDiv, reduceCtorEq, tn_clamp, nI_t, tn_nI, nI_add, pk_mul, rS_gS, rS_gA, rS_gL, rA_gS, rA_gA, rA_gL, rL_gS, rL_gA, rL_gL, and_self, and_false, false_and, if_true, if_false, true_or, or_true, or_false, false_or, sm_in, eqI, sI_s, Int32.toInt_zero, Int.natCast_zero, Int.natCast_one, Int.cast_ofNat_Int, Int.reduceEq, Int.reduceLT, Int.reduceLE, Int.reduceNeg, Int.reduceNe, ne_eq, n_up, g_up, e_cat, z.1]
  clear hn hf ha hS hR
  grind
theorem ok_X2_has (l : Launch) : sm_spok l lay sm_mt 1 28 sp_X2_has := Or.inr (Or.inr (Or.inr ⟨by decide, by decide, by
  rw [mt_28]
  exact sm_method (T := TX2_) v_cok v_lok v_ka v_tok_X2 mok_X2_has rfl (by unfold sm_rk; simp) wf_X2_has (fun _ h => absurd h List.not_mem_nil) b_X2_has⟩))
def sp_X2_isFull : sm_SP := fun as g K => match as with
  | [.ref p] => p = 25 ∧ zC g ∧ (100 ≤ nC g → K (some (.int (nI 1))) g) ∧ (¬ 100 ≤ nC g → K (some (.int (nI 0))) g)
  | _ => False
theorem wf_X2_isFull : sm_wf lay (yX2_isFull, cX2_isFull, 1, (some .boolean)) 1 false sp_X2_isFull := by
  intro as g K h
  simp only [sp_X2_isFull] at h
  split at h
  · exact ⟨Nat.le_of_ble_eq_true rfl, by simp, rfl, fun _ => by obtain rfl := h.1; exact ⟨25, _, 2, [28, 29, 30, 31, 32, 1], TX2, 6, rfl, rfl, rfl⟩⟩
  · exact h.elim
set_option maxHeartbeats 4000000 in
set_option maxRecDepth 100000 in
theorem b_X2_isFull : sm_body lay NX2_isFull 1 1 (sm_cl []) sp_X2_isFull := by
  intro K J S hW as g hs
  have hn := n_X2_isFull
  have hf := fd_all
  have ha := ar_all
  generalize NX2_isFull = N at hn hW
  generalize lay = L at hf ha hW
  obtain ⟨hS, hR⟩ := hW
  simp only [sp_X2_isFull] at hs
  split at hs
  case h_2 => exact hs.elim
  simp only [e_args, sm_pad, List.length_cons, List.length_nil, Nat.reduceAdd, Nat.reduceSub, List.replicate_succ, List.replicate_zero, List.cons_append, List.nil_append]
  rename_i p
  obtain ⟨rfl, z, h1, h2⟩ := hs
  have z2 := z.2
  apply hR 20
  simp (maxSteps := 10000000) (disch := omega) only [hS, hn, sm_eqs, hf, ha, sm_b0, Int.reduceToNat, ↓reduceIte, Nat.reduceEqDiff, true_and, and_true, List.length_nil, List.length_cons, Nat.reduceAdd, Nat.reduceLeDiff, Nat.zero_le, false_implies, true_implies, not_true_eq_false, not_false_eq_true, implies_true, Nat.reduceSub, Nat.reduceMul, Nat.reduceDiv, reduceCtorEq, tn_clamp, nI_t, tn_nI, nI_add, pk_mul, rS_gS, rS_gA, rS_gL, rA_gS, rA_gA, rA_gL, rL_gS, rL_gA, rL_gL, and_self, and_false, false_and, if_true, if_false, true_or, or_true, or_false, false_or, sm_in, eqI, sI_s, Int32.toInt_zero, Int.natCast_zero, Int.natCast_one, Int.cast_ofNat_Int, Int.reduceEq, Int.reduceLT, Int.reduceLE, Int.reduceNeg, Int.reduceNe, ne_eq, n_up, g_up, e_cat, z.1]
  clear hn hf ha hS hR
  grind
theorem ok_X2_isFull (l : Launch) : sm_spok l lay sm_mt 1 29 sp_X2_isFull := Or.inr (Or.inr (Or.inr ⟨by decide, by decide, by
  rw [mt_29]
  exact sm_method (T := TX2_) v_cok v_lok v_ka v_tok_X2 mok_X2_isFull rfl (by unfold sm_rk; simp) wf_X2_isFull (fun _ h => absurd h List.not_mem_nil) b_X2_isFull⟩))
/-- a claim that stands -/
def stdC (g : sm_G) (c : Int32) : Prop := okC g c ∧ (rA g 28 (tn c)).toInt ≤ 1
def sp_X2_isStanding : sm_SP := fun as g K => match as with
  | [.ref p, .int c] => p = 25 ∧ zC g ∧ (stdC g c → K (some (.int (nI 1))) g) ∧ (¬ stdC g c → K (some (.int (nI 0))) g)
  | _ => False
theorem wf_X2_isStanding : sm_wf lay (yX2_isStanding, cX2_isStanding, 2, (some .boolean)) 2 false sp_X2_isStanding := by
  intro as g K h
  simp only [sp_X2_isStanding] at h
  split at h
  · exact ⟨Nat.le_of_ble_eq_true rfl, by simp, rfl, fun _ => by obtain rfl := h.1; exact ⟨25, _, 2, [28, 29, 30, 31, 32, 1], TX2, 6, rfl, rfl, rfl⟩⟩
  · exact h.elim
set_option maxHeartbeats 4000000 in
set_option maxRecDepth 100000 in
theorem b_X2_isStanding : sm_body lay NX2_isStanding 2 1 (sm_cl []) sp_X2_isStanding := by
  intro K J S hW as g hs
  have hn := n_X2_isStanding
  have hf := fd_all
  have ha := ar_all
  generalize NX2_isStanding = N at hn hW
  generalize lay = L at hf ha hW
  obtain ⟨hS, hR⟩ := hW
  simp only [sp_X2_isStanding] at hs
  split at hs
  case h_2 => exact hs.elim
  simp only [e_args, sm_pad, List.length_cons, List.length_nil, Nat.reduceAdd, Nat.reduceSub, List.replicate_succ, List.replicate_zero, List.cons_append, List.nil_append]
  rename_i p r
  obtain ⟨rfl, z, h1, h2⟩ := hs
  have z2 := z.2
  simp only [stdC, okC] at h1 h2
  apply hR 40
  simp (maxSteps := 10000000) (disch := omega) only [hS, hn, sm_eqs, hf, ha, sm_b0, Int.reduceToNat, ↓reduceIte, Nat.reduceEqDiff, true_and, and_true, List.length_nil, List.length_cons, Nat.reduceAdd, Nat.reduceLeDiff, Nat.zero_le, false_implies, true_implies, not_true_eq_false, not_false_eq_true, implies_true, Nat.reduceSub, Nat.reduceMul, Nat.reduceDiv, reduceCtorEq, tn_clamp, nI_t, tn_nI, nI_add, pk_mul, rS_gS, rS_gA, rS_gL, rA_gS, rA_gA, rA_gL, rL_gS, rL_gA, rL_gL, and_self, and_false, false_and, if_true, if_false, true_or, or_true, or_false, false_or, sm_in, eqI, sI_s, Int32.toInt_zero, Int.natCast_zero, Int.natCast_one, Int.cast_ofNat_Int, Int.reduceEq, Int.reduceLT, Int.reduceLE, Int.reduceNeg, Int.reduceNe, ne_eq, n_up, g_up, e_cat, z.1]
  clear hn hf ha hS hR
  grind
theorem ok_X2_isStanding (l : Launch) : sm_spok l lay sm_mt 1 30 sp_X2_isStanding := Or.inr (Or.inr (Or.inr ⟨by decide, by decide, by
  rw [mt_30]
  exact sm_method (T := TX2_) v_cok v_lok v_ka v_tok_X2 mok_X2_isStanding rfl (by unfold sm_rk; simp) wf_X2_isStanding (fun _ h => absurd h List.not_mem_nil) b_X2_isStanding⟩))
def sp_X2_stateOf : sm_SP := fun as g K => match as with
  | [.ref p, .int c] => p = 25 ∧ zC g ∧ (okC g c → K (some (.int (rA g 28 (tn c)))) g) ∧ (¬ okC g c → K (some (.int (sI 0))) g)
  | _ => False
theorem wf_X2_stateOf : sm_wf lay (yX2_stateOf, cX2_stateOf, 2, (some .int)) 2 false sp_X2_stateOf := by
  intro as g K h
  simp only [sp_X2_stateOf] at h
  split at h
  · exact ⟨Nat.le_of_ble_eq_true rfl, by simp, rfl, fun _ => by obtain rfl := h.1; exact ⟨25, _, 2, [28, 29, 30, 31, 32, 1], TX2, 6, rfl, rfl, rfl⟩⟩
  · exact h.elim
set_option maxHeartbeats 4000000 in
set_option maxRecDepth 100000 in
theorem b_X2_stateOf : sm_body lay NX2_stateOf 2 0 (sm_cl [(28, sp_X2_has)]) sp_X2_stateOf := by
  intro K J S hW as g hs
  have hn := n_X2_stateOf
  have hf := fd_all
  have ha := ar_all
  generalize NX2_stateOf = N at hn hW
  generalize lay = L at hf ha hW
  obtain ⟨hS, hR⟩ := hW
  simp only [sp_X2_stateOf] at hs
  split at hs
  case h_2 => exact hs.elim
  simp only [e_args, sm_pad, List.length_cons, List.length_nil, Nat.reduceAdd, Nat.reduceSub, List.replicate_succ, List.replicate_zero, List.cons_append, List.nil_append]
  rename_i p c
  obtain ⟨rfl, z, h1, h2⟩ := hs
  have z2 := z.2
  by_cases hr : okC g c
  · obtain ⟨j, hj, rfl⟩ := ok_nI hr
    simp (disch := omega) only [tn_nI, hr, true_implies] at h1
    apply hR 20
    simp (maxSteps := 10000000) (disch := omega) only [hS, hn, sm_eqs, hf, ha, sm_b0, Int.reduceToNat, ↓reduceIte, Nat.reduceEqDiff, true_and, and_true, List.length_nil, List.length_cons, Nat.reduceAdd, Nat.reduceLeDiff, Nat.zero_le, false_implies, true_implies, not_true_eq_false, not_false_eq_true, implies_true, Nat.reduceSub, Nat.reduceMul, Nat.reduceDiv, reduceCtorEq, tn_clamp, nI_t, tn_nI, nI_add, pk_mul, rS_gS, rS_gA, rS_gL, rA_gS, rA_gA, rA_gL, rL_gS, rL_gA, rL_gL, and_self, and_false, false_and, if_true, if_false, true_or, or_true, or_false, false_or, sm_in, eqI, sI_s, Int32.toInt_zero, Int.natCast_zero, Int.natCast_one, Int.cast_ofNat_Int, Int.reduceEq, Int.reduceLT, Int.reduceLE, Int.reduceNeg, Int.reduceNe, ne_eq, n_up, g_up, e_cat, sp_X2_has, z, hr]
    clear hn hf ha hS hR
    grind
  · apply hR 20
    simp (maxSteps := 10000000) (disch := omega) only [hS, hn, sm_eqs, hf, ha, sm_b0, Int.reduceToNat, ↓reduceIte, Nat.reduceEqDiff, true_and, and_true, List.length_nil, List.length_cons, Nat.reduceAdd, Nat.reduceLeDiff, Nat.zero_le, false_implies, true_implies, not_true_eq_false, not_false_eq_true, implies_true, Nat.reduceSub, Nat.reduceMul, Nat.reduceDiv, reduceCtorEq, tn_clamp, nI_t, tn_nI, nI_add, pk_mul, rS_gS, rS_gA, rS_gL, rA_gS, rA_gA, rA_gL, rL_gS, rL_gA, rL_gL, and_self, and_false, false_and, if_true, if_false, true_or, or_true, or_false, false_or, sm_in, eqI, sI_s, Int32.toInt_zero, Int.natCast_zero, Int.natCast_one, Int.cast_ofNat_Int, Int.reduceEq, Int.reduceLT, Int.reduceLE, Int.reduceNeg, Int.reduceNe, ne_eq, n_up, g_up, e_cat, sp_X2_has, z, hr]
    exact h2 hr
theorem ok_X2_stateOf (l : Launch) : sm_spok l lay sm_mt 2 31 sp_X2_stateOf := Or.inr (Or.inr (Or.inr ⟨by decide, by decide, by
  rw [mt_31]
  exact sm_method (T := TX2_) v_cok v_lok v_ka v_tok_X2 mok_X2_stateOf rfl (by unfold sm_rk; simp) wf_X2_stateOf (List.forall_mem_cons.mpr ⟨sm_spok_up (Nat.le_of_ble_eq_true rfl : 1 ≤ 1) (ok_X2_has l), fun _ h => absurd h List.not_mem_nil⟩) b_X2_stateOf⟩))
def sp_X2_reportOf : sm_SP := fun as g K => match as with
  | [.ref p, .int c] => p = 25 ∧ zC g ∧ (okC g c → K (some (.int (rA g 26 (tn c)))) g) ∧ (¬ okC g c → K (some (.int (sI 0))) g)
  | _ => False
theorem wf_X2_reportOf : sm_wf lay (yX2_reportOf, cX2_reportOf, 2, (some .int)) 2 false sp_X2_reportOf := by
  intro as g K h
  simp only [sp_X2_reportOf] at h
  split at h
  · exact ⟨Nat.le_of_ble_eq_true rfl, by simp, rfl, fun _ => by obtain rfl := h.1; exact ⟨25, _, 2, [28, 29, 30, 31, 32, 1], TX2, 6, rfl, rfl, rfl⟩⟩
  · exact h.elim
set_option maxHeartbeats 4000000 in
set_option maxRecDepth 100000 in
theorem b_X2_reportOf : sm_body lay NX2_reportOf 2 0 (sm_cl [(28, sp_X2_has)]) sp_X2_reportOf := by
  intro K J S hW as g hs
  have hn := n_X2_reportOf
  have hf := fd_all
  have ha := ar_all
  generalize NX2_reportOf = N at hn hW
  generalize lay = L at hf ha hW
  obtain ⟨hS, hR⟩ := hW
  simp only [sp_X2_reportOf] at hs
  split at hs
  case h_2 => exact hs.elim
  simp only [e_args, sm_pad, List.length_cons, List.length_nil, Nat.reduceAdd, Nat.reduceSub, List.replicate_succ, List.replicate_zero, List.cons_append, List.nil_append]
  rename_i p c
  obtain ⟨rfl, z, h1, h2⟩ := hs
  have z2 := z.2
  by_cases hr : okC g c
  · obtain ⟨j, hj, rfl⟩ := ok_nI hr
    simp (disch := omega) only [tn_nI, hr, true_implies] at h1
    apply hR 20
    simp (maxSteps := 10000000) (disch := omega) only [hS, hn, sm_eqs, hf, ha, sm_b0, Int.reduceToNat, ↓reduceIte, Nat.reduceEqDiff, true_and, and_true, List.length_nil, List.length_cons, Nat.reduceAdd, Nat.reduceLeDiff, Nat.zero_le, false_implies, true_implies, not_true_eq_false, not_false_eq_true, implies_true, Nat.reduceSub, Nat.reduceMul, Nat.reduceDiv, reduceCtorEq, tn_clamp, nI_t, tn_nI, nI_add, pk_mul, rS_gS, rS_gA, rS_gL, rA_gS, rA_gA, rA_gL, rL_gS, rL_gA, rL_gL, and_self, and_false, false_and, if_true, if_false, true_or, or_true, or_false, false_or, sm_in, eqI, sI_s, Int32.toInt_zero, Int.natCast_zero, Int.natCast_one, Int.cast_ofNat_Int, Int.reduceEq, Int.reduceLT, Int.reduceLE, Int.reduceNeg, Int.reduceNe, ne_eq, n_up, g_up, e_cat, sp_X2_has, z, hr]
    clear hn hf ha hS hR
    grind
  · apply hR 20
    simp (maxSteps := 10000000) (disch := omega) only [hS, hn, sm_eqs, hf, ha, sm_b0, Int.reduceToNat, ↓reduceIte, Nat.reduceEqDiff, true_and, and_true, List.length_nil, List.length_cons, Nat.reduceAdd, Nat.reduceLeDiff, Nat.zero_le, false_implies, true_implies, not_true_eq_false, not_false_eq_true, implies_true, Nat.reduceSub, Nat.reduceMul, Nat.reduceDiv, reduceCtorEq, tn_clamp, nI_t, tn_nI, nI_add, pk_mul, rS_gS, rS_gA, rS_gL, rA_gS, rA_gA, rA_gL, rL_gS, rL_gA, rL_gL, and_self, and_false, false_and, if_true, if_false, true_or, or_true, or_false, false_or, sm_in, eqI, sI_s, Int32.toInt_zero, Int.natCast_zero, Int.natCast_one, Int.cast_ofNat_Int, Int.reduceEq, Int.reduceLT, Int.reduceLE, Int.reduceNeg, Int.reduceNe, ne_eq, n_up, g_up, e_cat, sp_X2_has, z, hr]
    exact h2 hr
theorem ok_X2_reportOf (l : Launch) : sm_spok l lay sm_mt 2 32 sp_X2_reportOf := Or.inr (Or.inr (Or.inr ⟨by decide, by decide, by
  rw [mt_32]
  exact sm_method (T := TX2_) v_cok v_lok v_ka v_tok_X2 mok_X2_reportOf rfl (by unfold sm_rk; simp) wf_X2_reportOf (List.forall_mem_cons.mpr ⟨sm_spok_up (Nat.le_of_ble_eq_true rfl : 1 ≤ 1) (ok_X2_has l), fun _ h => absurd h List.not_mem_nil⟩) b_X2_reportOf⟩))
def sp_X2_thingOf : sm_SP := fun as g K => match as with
  | [.ref p, .int c] => p = 25 ∧ zC g ∧ (okC g c → K (some (.int (rA g 27 (tn c)))) g) ∧ (¬ okC g c → K (some (.int (sI 0))) g)
  | _ => False
theorem wf_X2_thingOf : sm_wf lay (yX2_thingOf, cX2_thingOf, 2, (some .int)) 2 false sp_X2_thingOf := by
  intro as g K h
  simp only [sp_X2_thingOf] at h
  split at h
  · exact ⟨Nat.le_of_ble_eq_true rfl, by simp, rfl, fun _ => by obtain rfl := h.1; exact ⟨25, _, 2, [28, 29, 30, 31, 32, 1], TX2, 6, rfl, rfl, rfl⟩⟩
  · exact h.elim
set_option maxHeartbeats 4000000 in
set_option maxRecDepth 100000 in
theorem b_X2_thingOf : sm_body lay NX2_thingOf 2 0 (sm_cl [(28, sp_X2_has)]) sp_X2_thingOf := by
  intro K J S hW as g hs
  have hn := n_X2_thingOf
  have hf := fd_all
  have ha := ar_all
  generalize NX2_thingOf = N at hn hW
  generalize lay = L at hf ha hW
  obtain ⟨hS, hR⟩ := hW
  simp only [sp_X2_thingOf] at hs
  split at hs
  case h_2 => exact hs.elim
  simp only [e_args, sm_pad, List.length_cons, List.length_nil, Nat.reduceAdd, Nat.reduceSub, List.replicate_succ, List.replicate_zero, List.cons_append, List.nil_append]
  rename_i p c
  obtain ⟨rfl, z, h1, h2⟩ := hs
  have z2 := z.2
  by_cases hr : okC g c
  · obtain ⟨j, hj, rfl⟩ := ok_nI hr
    simp (disch := omega) only [tn_nI, hr, true_implies] at h1
    apply hR 20
    simp (maxSteps := 10000000) (disch := omega) only [hS, hn, sm_eqs, hf, ha, sm_b0, Int.reduceToNat, ↓reduceIte, Nat.reduceEqDiff, true_and, and_true, List.length_nil, List.length_cons, Nat.reduceAdd, Nat.reduceLeDiff, Nat.zero_le, false_implies, true_implies, not_true_eq_false, not_false_eq_true, implies_true, Nat.reduceSub, Nat.reduceMul, Nat.reduceDiv, reduceCtorEq, tn_clamp, nI_t, tn_nI, nI_add, pk_mul, rS_gS, rS_gA, rS_gL, rA_gS, rA_gA, rA_gL, rL_gS, rL_gA, rL_gL, and_self, and_false, false_and, if_true, if_false, true_or, or_true, or_false, false_or, sm_in, eqI, sI_s, Int32.toInt_zero, Int.natCast_zero, Int.natCast_one, Int.cast_ofNat_Int, Int.reduceEq, Int.reduceLT, Int.reduceLE, Int.reduceNeg, Int.reduceNe, ne_eq, n_up, g_up, e_cat, sp_X2_has, z, hr]
    clear hn hf ha hS hR
    grind
  · apply hR 20
    simp (maxSteps := 10000000) (disch := omega) only [hS, hn, sm_eqs, hf, ha, sm_b0, Int.reduceToNat, ↓reduceIte, Nat.reduceEqDiff, true_and, and_true, List.length_nil, List.length_cons, Nat.reduceAdd, Nat.reduceLeDiff, Nat.zero_le, false_implies, true_implies, not_true_eq_false, not_false_eq_true, implies_true, Nat.reduceSub, Nat.reduceMul, Nat.reduceDiv, reduceCtorEq, tn_clamp, nI_t, tn_nI, nI_add, pk_mul, rS_gS, rS_gA, rS_gL, rA_gS, rA_gA, rA_gL, rL_gS, rL_gA, rL_gL, and_self, and_false, false_and, if_true, if_false, true_or, or_true, or_false, false_or, sm_in, eqI, sI_s, Int32.toInt_zero, Int.natCast_zero, Int.natCast_one, Int.cast_ofNat_Int, Int.reduceEq, Int.reduceLT, Int.reduceLE, Int.reduceNeg, Int.reduceNe, ne_eq, n_up, g_up, e_cat, sp_X2_has, z, hr]
    exact h2 hr
theorem ok_X2_thingOf (l : Launch) : sm_spok l lay sm_mt 2 33 sp_X2_thingOf := Or.inr (Or.inr (Or.inr ⟨by decide, by decide, by
  rw [mt_33]
  exact sm_method (T := TX2_) v_cok v_lok v_ka v_tok_X2 mok_X2_thingOf rfl (by unfold sm_rk; simp) wf_X2_thingOf (List.forall_mem_cons.mpr ⟨sm_spok_up (Nat.le_of_ble_eq_true rfl : 1 ≤ 1) (ok_X2_has l), fun _ h => absurd h List.not_mem_nil⟩) b_X2_thingOf⟩))
def sp_X2_isTarget : sm_SP := fun as g K => match as with
  | [.ref p, .int t] => p = 25 ∧ (sm_in t 60 → K (some (.int (nI 1))) g) ∧ (¬ sm_in t 60 → K (some (.int (nI 0))) g)
  | _ => False
theorem wf_X2_isTarget : sm_wf lay (yX2_isTarget, cX2_isTarget, 2, (some .boolean)) 2 false sp_X2_isTarget := by
  intro as g K h
  simp only [sp_X2_isTarget] at h
  split at h
  · exact ⟨Nat.le_of_ble_eq_true rfl, by simp, rfl, fun _ => by obtain rfl := h.1; exact ⟨25, _, 2, [28, 29, 30, 31, 32, 1], TX2, 6, rfl, rfl, rfl⟩⟩
  · exact h.elim
set_option maxHeartbeats 4000000 in
set_option maxRecDepth 100000 in
theorem b_X2_isTarget : sm_body lay NX2_isTarget 2 1 (sm_cl []) sp_X2_isTarget := by
  intro K J S hW as g hs
  have hn := n_X2_isTarget
  have hf := fd_all
  have ha := ar_all
  generalize NX2_isTarget = N at hn hW
  generalize lay = L at hf ha hW
  obtain ⟨hS, hR⟩ := hW
  simp only [sp_X2_isTarget] at hs
  split at hs
  case h_2 => exact hs.elim
  simp only [e_args, sm_pad, List.length_cons, List.length_nil, Nat.reduceAdd, Nat.reduceSub, List.replicate_succ, List.replicate_zero, List.cons_append, List.nil_append]
  rename_i p t
  obtain ⟨rfl, h1, h2⟩ := hs
  simp only [sm_in] at h1 h2
  apply hR 40
  simp (maxSteps := 10000000) (disch := omega) only [hS, hn, sm_eqs, hf, ha, sm_b0, Int.reduceToNat, ↓reduceIte, Nat.reduceEqDiff, true_and, and_true, List.length_nil, List.length_cons, Nat.reduceAdd, Nat.reduceLeDiff, Nat.zero_le, false_implies, true_implies, not_true_eq_false, not_false_eq_true, implies_true, Nat.reduceSub, Nat.reduceMul, Nat.reduceDiv, reduceCtorEq, tn_clamp, nI_t, tn_nI, nI_add, pk_mul, rS_gS, rS_gA, rS_gL, rA_gS, rA_gA, rA_gL, rL_gS, rL_gA, rL_gL, and_self, and_false, false_and, if_true, if_false, true_or, or_true, or_false, false_or, sm_in, eqI, sI_s, Int32.toInt_zero, Int.natCast_zero, Int.natCast_one, Int.cast_ofNat_Int, Int.reduceEq, Int.reduceLT, Int.reduceLE, Int.reduceNeg, Int.reduceNe, ne_eq, n_up, g_up, e_cat]
  clear hn hf ha hS hR
  grind
theorem ok_X2_isTarget (l : Launch) : sm_spok l lay sm_mt 1 35 sp_X2_isTarget := Or.inr (Or.inr (Or.inr ⟨by decide, by decide, by
  rw [mt_35]
  exact sm_method (T := TX2_) v_cok v_lok v_ka v_tok_X2 mok_X2_isTarget rfl (by unfold sm_rk; simp) wf_X2_isTarget (fun _ h => absurd h List.not_mem_nil) b_X2_isTarget⟩))
def sp_X2_standingOn : sm_SP := fun as g K => match as with
  | [.ref p, .int t] => p = 25 ∧ (sm_in t 60 → K (some (.int (rA g 30 (tn t)))) g) ∧ (¬ sm_in t 60 → K (some (.int (nI 0))) g)
  | _ => False
theorem wf_X2_standingOn : sm_wf lay (yX2_standingOn, cX2_standingOn, 2, (some .int)) 2 false sp_X2_standingOn := by
  intro as g K h
  simp only [sp_X2_standingOn] at h
  split at h
  · exact ⟨Nat.le_of_ble_eq_true rfl, by simp, rfl, fun _ => by obtain rfl := h.1; exact ⟨25, _, 2, [28, 29, 30, 31, 32, 1], TX2, 6, rfl, rfl, rfl⟩⟩
  · exact h.elim
set_option maxHeartbeats 4000000 in
set_option maxRecDepth 100000 in
theorem b_X2_standingOn : sm_body lay NX2_standingOn 2 0 (sm_cl [(35, sp_X2_isTarget)]) sp_X2_standingOn := by
  intro K J S hW as g hs
  have hn := n_X2_standingOn
  have hf := fd_all
  have ha := ar_all
  generalize NX2_standingOn = N at hn hW
  generalize lay = L at hf ha hW
  obtain ⟨hS, hR⟩ := hW
  simp only [sp_X2_standingOn] at hs
  split at hs
  case h_2 => exact hs.elim
  simp only [e_args, sm_pad, List.length_cons, List.length_nil, Nat.reduceAdd, Nat.reduceSub, List.replicate_succ, List.replicate_zero, List.cons_append, List.nil_append]
  rename_i p t
  obtain ⟨rfl, h1, h2⟩ := hs
  simp only [sm_in] at h1 h2
  apply hR 40
  simp (maxSteps := 10000000) (disch := omega) only [hS, hn, sm_eqs, hf, ha, sm_b0, Int.reduceToNat, ↓reduceIte, Nat.reduceEqDiff, true_and, and_true, List.length_nil, List.length_cons, Nat.reduceAdd, Nat.reduceLeDiff, Nat.zero_le, false_implies, true_implies, not_true_eq_false, not_false_eq_true, implies_true, Nat.reduceSub, Nat.reduceMul, Nat.reduceDiv, reduceCtorEq, tn_clamp, nI_t, tn_nI, nI_add, pk_mul, rS_gS, rS_gA, rS_gL, rA_gS, rA_gA, rA_gL, rL_gS, rL_gA, rL_gL, and_self, and_false, false_and, if_true, if_false, true_or, or_true, or_false, false_or, sm_in, eqI, sI_s, Int32.toInt_zero, Int.natCast_zero, Int.natCast_one, Int.cast_ofNat_Int, Int.reduceEq, Int.reduceLT, Int.reduceLE, Int.reduceNeg, Int.reduceNe, ne_eq, n_up, g_up, e_cat, sp_X2_isTarget]
  clear hn hf ha hS hR
  grind
theorem ok_X2_standingOn (l : Launch) : sm_spok l lay sm_mt 2 34 sp_X2_standingOn := Or.inr (Or.inr (Or.inr ⟨by decide, by decide, by
  rw [mt_34]
  exact sm_method (T := TX2_) v_cok v_lok v_ka v_tok_X2 mok_X2_standingOn rfl (by unfold sm_rk; simp) wf_X2_standingOn (List.forall_mem_cons.mpr ⟨sm_spok_up (Nat.le_of_ble_eq_true rfl : 1 ≤ 1) (ok_X2_isTarget l), fun _ h => absurd h List.not_mem_nil⟩) b_X2_standingOn⟩))
/-- a sum of ints, as the machine adds them -/
def isum (f : Nat → Int32) : Nat → Int32
  | 0 => nI 0
  | n + 1 => isum f n + f n
def sp_X2_standingCount : sm_SP := fun as g K => match as with
  | [.ref p] => p = 25 ∧ K (some (.int (isum (rA g 30) 60))) g
  | _ => False
theorem wf_X2_standingCount : sm_wf lay (yX2_standingCount, cX2_standingCount, 3, (some .int)) 1 false sp_X2_standingCount := by
  intro as g K h
  simp only [sp_X2_standingCount] at h
  split at h
  · exact ⟨Nat.le_of_ble_eq_true rfl, by simp, rfl, fun _ => by obtain rfl := h.1; exact ⟨25, _, 2, [28, 29, 30, 31, 32, 1], TX2, 6, rfl, rfl, rfl⟩⟩
  · exact h.elim
set_option maxHeartbeats 4000000 in
set_option maxRecDepth 100000 in
theorem b_X2_standingCount : sm_body lay NX2_standingCount 3 0 (sm_cl []) sp_X2_standingCount := by
  intro K J S hW as g hs
  have hn := n_X2_standingCount
  have hf := fd_all
  have ha := ar_all
  generalize NX2_standingCount = N at hn hW
  generalize lay = L at hf ha hW
  obtain ⟨hS, hR⟩ := hW
  simp only [sp_X2_standingCount] at hs
  split at hs
  case h_2 => exact hs.elim
  simp only [e_args, sm_pad, List.length_cons, List.length_nil, Nat.reduceAdd, Nat.reduceSub, List.replicate_succ, List.replicate_zero, List.cons_append, List.nil_append]
  rename_i p
  obtain ⟨rfl, hs⟩ := hs
  have loop : ∀ m t, m = 60 - t → t ≤ 60 → J 4 [some (.ref 25), some (.int (isum (rA g 30) t)), some (.int (nI t))] [] g := by
    intro m
    induction m with
    | zero =>
      intro t hm ht
      obtain rfl : t = 60 := by omega
      apply hR 40
      simp (maxSteps := 10000000) (disch := omega) only [hS, hn, sm_eqs, hf, ha, sm_b0, Int.reduceToNat, ↓reduceIte, Nat.reduceEqDiff, true_and, and_true, List.length_nil, List.length_cons, Nat.reduceAdd, Nat.reduceLeDiff, Nat.zero_le, false_implies, true_implies, not_true_eq_false, not_false_eq_true, implies_true, Nat.reduceSub, Nat.reduceMul, Nat.reduceDiv, reduceCtorEq, tn_clamp, nI_t, tn_nI, nI_add, pk_mul, rS_gS, rS_gA, rS_gL, rA_gS, rA_gA, rA_gL, rL_gS, rL_gA, rL_gL, and_self, and_false, false_and, if_true, if_false, true_or, or_true, or_false, false_or, sm_in, eqI, sI_s, Int32.toInt_zero, Int.natCast_zero, Int.natCast_one, Int.cast_ofNat_Int, Int.reduceEq, Int.reduceLT, Int.reduceLE, Int.reduceNeg, Int.reduceNe, ne_eq, n_up, g_up, e_cat]
      exact hs
    | succ m ih =>
      intro t hm ht
      have ih := ih (t + 1) (by omega) (by omega)
      simp only [isum] at ih
      apply hR 40
      simp (maxSteps := 10000000) (disch := omega) only [hS, hn, sm_eqs, hf, ha, sm_b0, Int.reduceToNat, ↓reduceIte, Nat.reduceEqDiff, true_and, and_true, List.length_nil, List.length_cons, Nat.reduceAdd, Nat.reduceLeDiff, Nat.zero_le, false_implies, true_implies, not_true_eq_false, not_false_eq_true, implies_true, Nat.reduceSub, Nat.reduceMul, Nat.reduceDiv, reduceCtorEq, tn_clamp, nI_t, tn_nI, nI_add, pk_mul, rS_gS, rS_gA, rS_gL, rA_gS, rA_gA, rA_gL, rL_gS, rL_gA, rL_gL, and_self, and_false, false_and, if_true, if_false, true_or, or_true, or_false, false_or, sm_in, eqI, sI_s, Int32.toInt_zero, Int.natCast_zero, Int.natCast_one, Int.cast_ofNat_Int, Int.reduceEq, Int.reduceLT, Int.reduceLE, Int.reduceNeg, Int.reduceNe, ne_eq, n_up, g_up, e_cat]
      clear hn hf ha hS hR
      grind
  apply hR 40
  simp (maxSteps := 10000000) (disch := omega) only [hS, hn, sm_eqs, hf, ha, sm_b0, Int.reduceToNat, ↓reduceIte, Nat.reduceEqDiff, true_and, and_true, List.length_nil, List.length_cons, Nat.reduceAdd, Nat.reduceLeDiff, Nat.zero_le, false_implies, true_implies, not_true_eq_false, not_false_eq_true, implies_true, Nat.reduceSub, Nat.reduceMul, Nat.reduceDiv, reduceCtorEq, tn_clamp, nI_t, tn_nI, nI_add, pk_mul, rS_gS, rS_gA, rS_gL, rA_gS, rA_gA, rA_gL, rL_gS, rL_gA, rL_gL, and_self, and_false, false_and, if_true, if_false, true_or, or_true, or_false, false_or, sm_in, eqI, sI_s, Int32.toInt_zero, Int.natCast_zero, Int.natCast_one, Int.cast_ofNat_Int, Int.reduceEq, Int.reduceLT, Int.reduceLE, Int.reduceNeg, Int.reduceNe, ne_eq, n_up, g_up, e_cat]
  exact loop _ 0 rfl (Nat.zero_le _)
theorem ok_X2_standingCount (l : Launch) : sm_spok l lay sm_mt 1 36 sp_X2_standingCount := Or.inr (Or.inr (Or.inr ⟨by decide, by decide, by
  rw [mt_36]
  exact sm_method (T := TX2_) v_cok v_lok v_ka v_tok_X2 mok_X2_standingCount rfl (by unfold sm_rk; simp) wf_X2_standingCount (fun _ h => absurd h List.not_mem_nil) b_X2_standingCount⟩))
def sp_X2_add : sm_SP := fun as g K => match as with
  | [.ref p, .int r, .int t] => p = 25 ∧ zC g ∧ nC g < 100 ∧ sm_in t 60 ∧ K (some (.int (nI (nC g)))) (gS (gA (gA (gA (gA (gA g 26 (upd (rA g 26) (nC g) r)) 27 (upd (rA g 27) (nC g) t)) 28 (upd (rA g 28) (nC g) (nI 0))) 29 (upd (rA g 29) (nC g) (nI 0))) 30 (upd (rA g 30) (tn t) (rA g 30 (tn t) + nI 1))) 25 205 (nI (nC g + 1)))
  | _ => False
theorem wf_X2_add : sm_wf lay (yX2_add, cX2_add, 4, (some .int)) 3 false sp_X2_add := by
  intro as g K h
  simp only [sp_X2_add] at h
  split at h
  · exact ⟨Nat.le_of_ble_eq_true rfl, by simp, rfl, fun _ => by obtain rfl := h.1; exact ⟨25, _, 2, [28, 29, 30, 31, 32, 1], TX2, 6, rfl, rfl, rfl⟩⟩
  · exact h.elim
set_option maxHeartbeats 4000000 in
set_option maxRecDepth 100000 in
theorem b_X2_add : sm_body lay NX2_add 4 0 (sm_cl [(29, sp_X2_isFull), (35, sp_X2_isTarget)]) sp_X2_add := by
  intro K J S hW as g hs
  have hn := n_X2_add
  have hf := fd_all
  have ha := ar_all
  generalize NX2_add = N at hn hW
  generalize lay = L at hf ha hW
  obtain ⟨hS, hR⟩ := hW
  simp only [sp_X2_add] at hs
  split at hs
  case h_2 => exact hs.elim
  simp only [e_args, sm_pad, List.length_cons, List.length_nil, Nat.reduceAdd, Nat.reduceSub, List.replicate_succ, List.replicate_zero, List.cons_append, List.nil_append]
  rename_i p r t
  obtain ⟨rfl, z, h0, ht, hs⟩ := hs
  have z2 := z.2
  obtain ⟨t, ht2, rfl⟩ := sm_in_nI ht
  simp (disch := omega) only [tn_nI] at hs
  apply hR 100
  simp (maxSteps := 10000000) (disch := omega) only [hS, hn, sm_eqs, hf, ha, sm_b0, Int.reduceToNat, ↓reduceIte, Nat.reduceEqDiff, true_and, and_true, List.length_nil, List.length_cons, Nat.reduceAdd, Nat.reduceLeDiff, Nat.zero_le, false_implies, true_implies, not_true_eq_false, not_false_eq_true, implies_true, Nat.reduceSub, Nat.reduceMul, Nat.reduceDiv, reduceCtorEq, tn_clamp, nI_t, tn_nI, nI_add, pk_mul, rS_gS, rS_gA, rS_gL, rA_gS, rA_gA, rA_gL, rL_gS, rL_gA, rL_gL, and_self, and_false, false_and, if_true, if_false, true_or, or_true, or_false, false_or, sm_in, eqI, sI_s, Int32.toInt_zero, Int.natCast_zero, Int.natCast_one, Int.cast_ofNat_Int, Int.reduceEq, Int.reduceLT, Int.reduceLE, Int.reduceNeg, Int.reduceNe, ne_eq, n_up, g_up, e_cat, sp_X2_isFull, sp_X2_isTarget, z.1, z]
  clear hn hf ha hS hR
  grind
theorem ok_X2_add (l : Launch) : sm_spok l lay sm_mt 2 37 sp_X2_add := Or.inr (Or.inr (Or.inr ⟨by decide, by decide, by
  rw [mt_37]
  exact sm_method (T := TX2_) v_cok v_lok v_ka v_tok_X2 mok_X2_add rfl (by unfold sm_rk; simp) wf_X2_add (List.forall_mem_cons.mpr ⟨sm_spok_up (Nat.le_of_ble_eq_true rfl : 1 ≤ 1) (ok_X2_isFull l), List.forall_mem_cons.mpr ⟨sm_spok_up (Nat.le_of_ble_eq_true rfl : 1 ≤ 1) (ok_X2_isTarget l), fun _ h => absurd h List.not_mem_nil⟩⟩) b_X2_add⟩))
def sp_X2_isClaimedBy : sm_SP := fun as g K => match as with
  | [.ref p, .int r, .int t] => p = 25 ∧ zC g ∧ ((∃ c, c < nC g ∧ (rA g 28 c).toInt ≤ 1 ∧ (rA g 26 c).toInt = r.toInt ∧ (rA g 27 c).toInt = t.toInt) → K (some (.int (nI 1))) g) ∧ (¬ (∃ c, c < nC g ∧ (rA g 28 c).toInt ≤ 1 ∧ (rA g 26 c).toInt = r.toInt ∧ (rA g 27 c).toInt = t.toInt) → K (some (.int (nI 0))) g)
  | _ => False
theorem wf_X2_isClaimedBy : sm_wf lay (yX2_isClaimedBy, cX2_isClaimedBy, 4, (some .boolean)) 3 false sp_X2_isClaimedBy := by
  intro as g K h
  simp only [sp_X2_isClaimedBy] at h
  split at h
  · exact ⟨Nat.le_of_ble_eq_true rfl, by simp, rfl, fun _ => by obtain rfl := h.1; exact ⟨25, _, 2, [28, 29, 30, 31, 32, 1], TX2, 6, rfl, rfl, rfl⟩⟩
  · exact h.elim
set_option maxHeartbeats 4000000 in
set_option maxRecDepth 100000 in
theorem b_X2_isClaimedBy : sm_body lay NX2_isClaimedBy 4 1 (sm_cl [(30, sp_X2_isStanding)]) sp_X2_isClaimedBy := by
  intro K J S hW as g hs
  have hn := n_X2_isClaimedBy
  have hf := fd_all
  have ha := ar_all
  generalize NX2_isClaimedBy = N at hn hW
  generalize lay = L at hf ha hW
  obtain ⟨hS, hR⟩ := hW
  simp only [sp_X2_isClaimedBy] at hs
  split at hs
  case h_2 => exact hs.elim
  simp only [e_args, sm_pad, List.length_cons, List.length_nil, Nat.reduceAdd, Nat.reduceSub, List.replicate_succ, List.replicate_zero, List.cons_append, List.nil_append]
  rename_i p r t
  obtain ⟨rfl, z, h1, h2⟩ := hs
  have z2 := z.2
  have loop : ∀ m c, m = nC g - c → c ≤ nC g → (∀ d, d < c → ¬ ((rA g 28 d).toInt ≤ 1 ∧ (rA g 26 d).toInt = r.toInt ∧ (rA g 27 d).toInt = t.toInt)) → J 2 [some (.ref 25), some (.int r), some (.int t), some (.int (nI c))] [] g := by
    intro m
    induction m with
    | zero =>
      intro c hm hc hd
      obtain rfl : c = nC g := by omega
      have h2 := h2 (fun ⟨d, h3, h4⟩ => hd d h3 h4)
      apply hR 40
      simp (maxSteps := 10000000) (disch := omega) only [hS, hn, sm_eqs, hf, ha, sm_b0, Int.reduceToNat, ↓reduceIte, Nat.reduceEqDiff, true_and, and_true, List.length_nil, List.length_cons, Nat.reduceAdd, Nat.reduceLeDiff, Nat.zero_le, false_implies, true_implies, not_true_eq_false, not_false_eq_true, implies_true, Nat.reduceSub, Nat.reduceMul, Nat.reduceDiv, reduceCtorEq, tn_clamp, nI_t, tn_nI, nI_add, pk_mul, rS_gS, rS_gA, rS_gL, rA_gS, rA_gA, rA_gL, rL_gS, rL_gA, rL_gL, and_self, and_false, false_and, if_true, if_false, true_or, or_true, or_false, false_or, sm_in, eqI, sI_s, Int32.toInt_zero, Int.natCast_zero, Int.natCast_one, Int.cast_ofNat_Int, Int.reduceEq, Int.reduceLT, Int.reduceLE, Int.reduceNeg, Int.reduceNe, ne_eq, n_up, g_up, e_cat, sp_X2_isStanding, z.1, z]
      clear hn hf ha hS hR
      grind
    | succ m ih =>
      intro c hm hc hd
      have h1 := fun h => h1 ⟨c, by omega, h⟩
      have ih := fun (h : ¬ ((rA g 28 c).toInt ≤ 1 ∧ (rA g 26 c).toInt = r.toInt ∧ (rA g 27 c).toInt = t.toInt)) => ih (c + 1) (by omega) (by omega) (fun d h5 => by
        by_cases e : d = c
        · rw [e]; exact h
        · exact hd d (by omega))
      clear h2 hd
      apply hR 40
      simp (maxSteps := 10000000) (disch := omega) only [hS, hn, sm_eqs, hf, ha, sm_b0, Int.reduceToNat, ↓reduceIte, Nat.reduceEqDiff, true_and, and_true, List.length_nil, List.length_cons, Nat.reduceAdd, Nat.reduceLeDiff, Nat.zero_le, false_implies, true_implies, not_true_eq_false, not_false_eq_true, implies_true, Nat.reduceSub, Nat.reduceMul, Nat.reduceDiv, reduceCtorEq, tn_clamp, nI_t, tn_nI, nI_add, pk_mul, rS_gS, rS_gA, rS_gL, rA_gS, rA_gA, rA_gL, rL_gS, rL_gA, rL_gL, and_self, and_false, false_and, if_true, if_false, true_or, or_true, or_false, false_or, sm_in, eqI, sI_s, Int32.toInt_zero, Int.natCast_zero, Int.natCast_one, Int.cast_ofNat_Int, Int.reduceEq, Int.reduceLT, Int.reduceLE, Int.reduceNeg, Int.reduceNe, ne_eq, n_up, g_up, e_cat, sp_X2_isStanding, z.1, z, stdC, okC]
      clear hn hf ha hS hR
      grind
  apply hR 40
  simp (maxSteps := 10000000) (disch := omega) only [hS, hn, sm_eqs, hf, ha, sm_b0, Int.reduceToNat, ↓reduceIte, Nat.reduceEqDiff, true_and, and_true, List.length_nil, List.length_cons, Nat.reduceAdd, Nat.reduceLeDiff, Nat.zero_le, false_implies, true_implies, not_true_eq_false, not_false_eq_true, implies_true, Nat.reduceSub, Nat.reduceMul, Nat.reduceDiv, reduceCtorEq, tn_clamp, nI_t, tn_nI, nI_add, pk_mul, rS_gS, rS_gA, rS_gL, rA_gS, rA_gA, rA_gL, rL_gS, rL_gA, rL_gL, and_self, and_false, false_and, if_true, if_false, true_or, or_true, or_false, false_or, sm_in, eqI, sI_s, Int32.toInt_zero, Int.natCast_zero, Int.natCast_one, Int.cast_ofNat_Int, Int.reduceEq, Int.reduceLT, Int.reduceLE, Int.reduceNeg, Int.reduceNe, ne_eq, n_up, g_up, e_cat, sp_X2_isStanding]
  exact loop _ 0 rfl (Nat.zero_le _) (fun d h => by omega)
theorem ok_X2_isClaimedBy (l : Launch) : sm_spok l lay sm_mt 2 38 sp_X2_isClaimedBy := Or.inr (Or.inr (Or.inr ⟨by decide, by decide, by
  rw [mt_38]
  exact sm_method (T := TX2_) v_cok v_lok v_ka v_tok_X2 mok_X2_isClaimedBy rfl (by unfold sm_rk; simp) wf_X2_isClaimedBy (List.forall_mem_cons.mpr ⟨sm_spok_up (Nat.le_of_ble_eq_true rfl : 1 ≤ 1) (ok_X2_isStanding l), fun _ h => absurd h List.not_mem_nil⟩) b_X2_isClaimedBy⟩))
def sp_X2_isProvedAhead : sm_SP := fun as g K => match as with
  | [.ref p, .int c, .int t] => p = 25 ∧ zC g ∧ okC g c ∧ ((∃ d, d < tn c ∧ (rA g 28 d).toInt = 1 ∧ (rA g 27 d).toInt = t.toInt) → K (some (.int (nI 1))) g) ∧ (¬ (∃ d, d < tn c ∧ (rA g 28 d).toInt = 1 ∧ (rA g 27 d).toInt = t.toInt) → K (some (.int (nI 0))) g)
  | _ => False
theorem wf_X2_isProvedAhead : sm_wf lay (yX2_isProvedAhead, cX2_isProvedAhead, 4, (some .boolean)) 3 false sp_X2_isProvedAhead := by
  intro as g K h
  simp only [sp_X2_isProvedAhead] at h
  split at h
  · exact ⟨Nat.le_of_ble_eq_true rfl, by simp, rfl, fun _ => by obtain rfl := h.1; exact ⟨25, _, 2, [28, 29, 30, 31, 32, 1], TX2, 6, rfl, rfl, rfl⟩⟩
  · exact h.elim
set_option maxHeartbeats 4000000 in
set_option maxRecDepth 100000 in
theorem b_X2_isProvedAhead : sm_body lay NX2_isProvedAhead 4 1 (sm_cl []) sp_X2_isProvedAhead := by
  intro K J S hW as g hs
  have hn := n_X2_isProvedAhead
  have hf := fd_all
  have ha := ar_all
  generalize NX2_isProvedAhead = N at hn hW
  generalize lay = L at hf ha hW
  obtain ⟨hS, hR⟩ := hW
  simp only [sp_X2_isProvedAhead] at hs
  split at hs
  case h_2 => exact hs.elim
  simp only [e_args, sm_pad, List.length_cons, List.length_nil, Nat.reduceAdd, Nat.reduceSub, List.replicate_succ, List.replicate_zero, List.cons_append, List.nil_append]
  rename_i p c t
  obtain ⟨rfl, z, hc, h1, h2⟩ := hs
  have z2 := z.2
  obtain ⟨c, hc, rfl⟩ := ok_nI hc
  simp (disch := omega) only [tn_nI] at h1 h2
  have loop : ∀ m i, m = c - i → i ≤ c → (∀ d, d < i → ¬ ((rA g 28 d).toInt = 1 ∧ (rA g 27 d).toInt = t.toInt)) → J 2 [some (.ref 25), some (.int (nI c)), some (.int t), some (.int (nI i))] [] g := by
    intro m
    induction m with
    | zero =>
      intro i hm hi hd
      obtain rfl : i = c := by omega
      have h2 := h2 (fun ⟨d, h3, h4⟩ => hd d h3 h4)
      apply hR 40
      simp (maxSteps := 10000000) (disch := omega) only [hS, hn, sm_eqs, hf, ha, sm_b0, Int.reduceToNat, ↓reduceIte, Nat.reduceEqDiff, true_and, and_true, List.length_nil, List.length_cons, Nat.reduceAdd, Nat.reduceLeDiff, Nat.zero_le, false_implies, true_implies, not_true_eq_false, not_false_eq_true, implies_true, Nat.reduceSub, Nat.reduceMul, Nat.reduceDiv, reduceCtorEq, tn_clamp, nI_t, tn_nI, nI_add, pk_mul, rS_gS, rS_gA, rS_gL, rA_gS, rA_gA, rA_gL, rL_gS, rL_gA, rL_gL, and_self, and_false, false_and, if_true, if_false, true_or, or_true, or_false, false_or, sm_in, eqI, sI_s, Int32.toInt_zero, Int.natCast_zero, Int.natCast_one, Int.cast_ofNat_Int, Int.reduceEq, Int.reduceLT, Int.reduceLE, Int.reduceNeg, Int.reduceNe, ne_eq, n_up, g_up, e_cat, z.1, z]
      clear hn hf ha hS hR
      grind
    | succ m ih =>
      intro i hm hi hd
      have h1 := fun h => h1 ⟨i, by omega, h⟩
      have ih := fun (h : ¬ ((rA g 28 i).toInt = 1 ∧ (rA g 27 i).toInt = t.toInt)) => ih (i + 1) (by omega) (by omega) (fun d h5 => by
        by_cases e : d = i
        · rw [e]; exact h
        · exact hd d (by omega))
      clear h2 hd
      apply hR 40
      simp (maxSteps := 10000000) (disch := omega) only [hS, hn, sm_eqs, hf, ha, sm_b0, Int.reduceToNat, ↓reduceIte, Nat.reduceEqDiff, true_and, and_true, List.length_nil, List.length_cons, Nat.reduceAdd, Nat.reduceLeDiff, Nat.zero_le, false_implies, true_implies, not_true_eq_false, not_false_eq_true, implies_true, Nat.reduceSub, Nat.reduceMul, Nat.reduceDiv, reduceCtorEq, tn_clamp, nI_t, tn_nI, nI_add, pk_mul, rS_gS, rS_gA, rS_gL, rA_gS, rA_gA, rA_gL, rL_gS, rL_gA, rL_gL, and_self, and_false, false_and, if_true, if_false, true_or, or_true, or_false, false_or, sm_in, eqI, sI_s, Int32.toInt_zero, Int.natCast_zero, Int.natCast_one, Int.cast_ofNat_Int, Int.reduceEq, Int.reduceLT, Int.reduceLE, Int.reduceNeg, Int.reduceNe, ne_eq, n_up, g_up, e_cat, z.1, z]
      clear hn hf ha hS hR
      grind
  apply hR 40
  simp (maxSteps := 10000000) (disch := omega) only [hS, hn, sm_eqs, hf, ha, sm_b0, Int.reduceToNat, ↓reduceIte, Nat.reduceEqDiff, true_and, and_true, List.length_nil, List.length_cons, Nat.reduceAdd, Nat.reduceLeDiff, Nat.zero_le, false_implies, true_implies, not_true_eq_false, not_false_eq_true, implies_true, Nat.reduceSub, Nat.reduceMul, Nat.reduceDiv, reduceCtorEq, tn_clamp, nI_t, tn_nI, nI_add, pk_mul, rS_gS, rS_gA, rS_gL, rA_gS, rA_gA, rA_gL, rL_gS, rL_gA, rL_gL, and_self, and_false, false_and, if_true, if_false, true_or, or_true, or_false, false_or, sm_in, eqI, sI_s, Int32.toInt_zero, Int.natCast_zero, Int.natCast_one, Int.cast_ofNat_Int, Int.reduceEq, Int.reduceLT, Int.reduceLE, Int.reduceNeg, Int.reduceNe, ne_eq, n_up, g_up, e_cat]
  exact loop _ 0 rfl (Nat.zero_le _) (fun d h => by omega)
theorem ok_X2_isProvedAhead (l : Launch) : sm_spok l lay sm_mt 1 39 sp_X2_isProvedAhead := Or.inr (Or.inr (Or.inr ⟨by decide, by decide, by
  rw [mt_39]
  exact sm_method (T := TX2_) v_cok v_lok v_ka v_tok_X2 mok_X2_isProvedAhead rfl (by unfold sm_rk; simp) wf_X2_isProvedAhead (fun _ h => absurd h List.not_mem_nil) b_X2_isProvedAhead⟩))
def sp_X2_isFirstAsked : sm_SP := fun as g K => match as with
  | [.ref p, .int c] => p = 25 ∧ zC g ∧ okC g c ∧ (∀ i, rA g 29 i = nI 0 ∨ rA g 29 i = nI 1) ∧ (rA g 29 (tn c) = nI 0 → K (some (.int (nI 1))) (gA g 29 (upd (rA g 29) (tn c) (nI 1)))) ∧ (rA g 29 (tn c) = nI 1 → K (some (.int (nI 0))) g)
  | _ => False
theorem wf_X2_isFirstAsked : sm_wf lay (yX2_isFirstAsked, cX2_isFirstAsked, 2, (some .boolean)) 2 false sp_X2_isFirstAsked := by
  intro as g K h
  simp only [sp_X2_isFirstAsked] at h
  split at h
  · exact ⟨Nat.le_of_ble_eq_true rfl, by simp, rfl, fun _ => by obtain rfl := h.1; exact ⟨25, _, 2, [28, 29, 30, 31, 32, 1], TX2, 6, rfl, rfl, rfl⟩⟩
  · exact h.elim
set_option maxHeartbeats 4000000 in
set_option maxRecDepth 100000 in
theorem b_X2_isFirstAsked : sm_body lay NX2_isFirstAsked 2 1 (sm_cl [(28, sp_X2_has)]) sp_X2_isFirstAsked := by
  intro K J S hW as g hs
  have hn := n_X2_isFirstAsked
  have hf := fd_all
  have ha := ar_all
  generalize NX2_isFirstAsked = N at hn hW
  generalize lay = L at hf ha hW
  obtain ⟨hS, hR⟩ := hW
  simp only [sp_X2_isFirstAsked] at hs
  split at hs
  case h_2 => exact hs.elim
  simp only [e_args, sm_pad, List.length_cons, List.length_nil, Nat.reduceAdd, Nat.reduceSub, List.replicate_succ, List.replicate_zero, List.cons_append, List.nil_append]
  rename_i p c
  obtain ⟨rfl, z, hc, hb, h1, h2⟩ := hs
  have z2 := z.2
  obtain ⟨j, hj, rfl⟩ := ok_nI hc
  simp (disch := omega) only [tn_nI] at h1 h2
  rcases hb j with hb | hb
  · have h1 := h1 hb
    apply hR 40
    simp (maxSteps := 10000000) (disch := omega) only [hS, hn, sm_eqs, hf, ha, sm_b0, Int.reduceToNat, ↓reduceIte, Nat.reduceEqDiff, true_and, and_true, List.length_nil, List.length_cons, Nat.reduceAdd, Nat.reduceLeDiff, Nat.zero_le, false_implies, true_implies, not_true_eq_false, not_false_eq_true, implies_true, Nat.reduceSub, Nat.reduceMul, Nat.reduceDiv, reduceCtorEq, tn_clamp, nI_t, tn_nI, nI_add, pk_mul, rS_gS, rS_gA, rS_gL, rA_gS, rA_gA, rA_gL, rL_gS, rL_gA, rL_gL, and_self, and_false, false_and, if_true, if_false, true_or, or_true, or_false, false_or, sm_in, eqI, sI_s, Int32.toInt_zero, Int.natCast_zero, Int.natCast_one, Int.cast_ofNat_Int, Int.reduceEq, Int.reduceLT, Int.reduceLE, Int.reduceNeg, Int.reduceNe, ne_eq, n_up, g_up, e_cat, sp_X2_has, z, hc, hb]
    clear hn hf ha hS hR
    grind
  · have h2 := h2 hb
    apply hR 40
    simp (maxSteps := 10000000) (disch := omega) only [hS, hn, sm_eqs, hf, ha, sm_b0, Int.reduceToNat, ↓reduceIte, Nat.reduceEqDiff, true_and, and_true, List.length_nil, List.length_cons, Nat.reduceAdd, Nat.reduceLeDiff, Nat.zero_le, false_implies, true_implies, not_true_eq_false, not_false_eq_true, implies_true, Nat.reduceSub, Nat.reduceMul, Nat.reduceDiv, reduceCtorEq, tn_clamp, nI_t, tn_nI, nI_add, pk_mul, rS_gS, rS_gA, rS_gL, rA_gS, rA_gA, rA_gL, rL_gS, rL_gA, rL_gL, and_self, and_false, false_and, if_true, if_false, true_or, or_true, or_false, false_or, sm_in, eqI, sI_s, Int32.toInt_zero, Int.natCast_zero, Int.natCast_one, Int.cast_ofNat_Int, Int.reduceEq, Int.reduceLT, Int.reduceLE, Int.reduceNeg, Int.reduceNe, ne_eq, n_up, g_up, e_cat, sp_X2_has, z, hc, hb]
    clear hn hf ha hS hR
    grind
theorem ok_X2_isFirstAsked (l : Launch) : sm_spok l lay sm_mt 2 40 sp_X2_isFirstAsked := Or.inr (Or.inr (Or.inr ⟨by decide, by decide, by
  rw [mt_40]
  exact sm_method (T := TX2_) v_cok v_lok v_ka v_tok_X2 mok_X2_isFirstAsked rfl (by unfold sm_rk; simp) wf_X2_isFirstAsked (List.forall_mem_cons.mpr ⟨sm_spok_up (Nat.le_of_ble_eq_true rfl : 1 ≤ 1) (ok_X2_has l), fun _ h => absurd h List.not_mem_nil⟩) b_X2_isFirstAsked⟩))
def sp_X2_setProved : sm_SP := fun as g K => match as with
  | [.ref p, .int c] => p = 25 ∧ zC g ∧ stdC g c ∧ K none (gA g 28 (upd (rA g 28) (tn c) (nI 1)))
  | _ => False
theorem wf_X2_setProved : sm_wf lay (yX2_setProved, cX2_setProved, 2, none) 2 false sp_X2_setProved := by
  intro as g K h
  simp only [sp_X2_setProved] at h
  split at h
  · exact ⟨Nat.le_of_ble_eq_true rfl, by simp, rfl, fun _ => by obtain rfl := h.1; exact ⟨25, _, 2, [28, 29, 30, 31, 32, 1], TX2, 6, rfl, rfl, rfl⟩⟩
  · exact h.elim
set_option maxHeartbeats 4000000 in
set_option maxRecDepth 100000 in
theorem b_X2_setProved : sm_body lay NX2_setProved 2 4 (sm_cl [(30, sp_X2_isStanding)]) sp_X2_setProved := by
  intro K J S hW as g hs
  have hn := n_X2_setProved
  have hf := fd_all
  have ha := ar_all
  generalize NX2_setProved = N at hn hW
  generalize lay = L at hf ha hW
  obtain ⟨hS, hR⟩ := hW
  simp only [sp_X2_setProved] at hs
  split at hs
  case h_2 => exact hs.elim
  simp only [e_args, sm_pad, List.length_cons, List.length_nil, Nat.reduceAdd, Nat.reduceSub, List.replicate_succ, List.replicate_zero, List.cons_append, List.nil_append]
  rename_i p c
  obtain ⟨rfl, z, hc, hs⟩ := hs
  have z2 := z.2
  obtain ⟨j, hj, rfl⟩ := ok_nI hc.1
  simp (disch := omega) only [tn_nI] at hs
  apply hR 40
  simp (maxSteps := 10000000) (disch := omega) only [hS, hn, sm_eqs, hf, ha, sm_b0, Int.reduceToNat, ↓reduceIte, Nat.reduceEqDiff, true_and, and_true, List.length_nil, List.length_cons, Nat.reduceAdd, Nat.reduceLeDiff, Nat.zero_le, false_implies, true_implies, not_true_eq_false, not_false_eq_true, implies_true, Nat.reduceSub, Nat.reduceMul, Nat.reduceDiv, reduceCtorEq, tn_clamp, nI_t, tn_nI, nI_add, pk_mul, rS_gS, rS_gA, rS_gL, rA_gS, rA_gA, rA_gL, rL_gS, rL_gA, rL_gL, and_self, and_false, false_and, if_true, if_false, true_or, or_true, or_false, false_or, sm_in, eqI, sI_s, Int32.toInt_zero, Int.natCast_zero, Int.natCast_one, Int.cast_ofNat_Int, Int.reduceEq, Int.reduceLT, Int.reduceLE, Int.reduceNeg, Int.reduceNe, ne_eq, n_up, g_up, e_cat, sp_X2_isStanding, z, hc]
  clear hn hf ha hS hR
  grind
theorem ok_X2_setProved (l : Launch) : sm_spok l lay sm_mt 2 41 sp_X2_setProved := Or.inr (Or.inr (Or.inr ⟨by decide, by decide, by
  rw [mt_41]
  exact sm_method (T := TX2_) v_cok v_lok v_ka v_tok_X2 mok_X2_setProved rfl (by unfold sm_rk; simp) wf_X2_setProved (List.forall_mem_cons.mpr ⟨sm_spok_up (Nat.le_of_ble_eq_true rfl : 1 ≤ 1) (ok_X2_isStanding l), fun _ h => absurd h List.not_mem_nil⟩) b_X2_setProved⟩))
/-- a claim is ended: as s says, if it stands -/
def fin (g : sm_G) (c : Nat) (s : Int32) : sm_G := if (rA g 28 c).toInt ≤ 1 then gA (gA g 28 (upd (rA g 28) c s)) 30 (upd (rA g 30) (tn (rA g 27 c)) (rA g 30 (tn (rA g 27 c)) - nI 1)) else g
def sp_X2_finish : sm_SP := fun as g K => match as with
  | [.ref p, .int c, .int s] => p = 25 ∧ zC g ∧ okC g c ∧ sm_in (rA g 27 (tn c)) 60 ∧ K none (fin g (tn c) s)
  | _ => False
theorem wf_X2_finish : sm_wf lay (yX2_finish, cX2_finish, 4, none) 3 false sp_X2_finish := by
  intro as g K h
  simp only [sp_X2_finish] at h
  split at h
  · exact ⟨Nat.le_of_ble_eq_true rfl, by simp, rfl, fun _ => by obtain rfl := h.1; exact ⟨25, _, 2, [28, 29, 30, 31, 32, 1], TX2, 6, rfl, rfl, rfl⟩⟩
  · exact h.elim
set_option maxHeartbeats 4000000 in
set_option maxRecDepth 100000 in
theorem b_X2_finish : sm_body lay NX2_finish 4 4 (sm_cl []) sp_X2_finish := by
  intro K J S hW as g hs
  have hn := n_X2_finish
  have hf := fd_all
  have ha := ar_all
  generalize NX2_finish = N at hn hW
  generalize lay = L at hf ha hW
  obtain ⟨hS, hR⟩ := hW
  simp only [sp_X2_finish] at hs
  split at hs
  case h_2 => exact hs.elim
  simp only [e_args, sm_pad, List.length_cons, List.length_nil, Nat.reduceAdd, Nat.reduceSub, List.replicate_succ, List.replicate_zero, List.cons_append, List.nil_append]
  rename_i p c s
  obtain ⟨rfl, z, hc, ht, hs⟩ := hs
  have z2 := z.2
  obtain ⟨j, hj, rfl⟩ := ok_nI hc
  simp (disch := omega) only [tn_nI, sm_in] at hs ht
  by_cases h : (rA g 28 j).toInt ≤ 1
  · simp only [fin, h, if_true] at hs
    apply hR 60
    simp (maxSteps := 10000000) (disch := omega) only [hS, hn, sm_eqs, hf, ha, sm_b0, Int.reduceToNat, ↓reduceIte, Nat.reduceEqDiff, true_and, and_true, List.length_nil, List.length_cons, Nat.reduceAdd, Nat.reduceLeDiff, Nat.zero_le, false_implies, true_implies, not_true_eq_false, not_false_eq_true, implies_true, Nat.reduceSub, Nat.reduceMul, Nat.reduceDiv, reduceCtorEq, tn_clamp, nI_t, tn_nI, nI_add, pk_mul, rS_gS, rS_gA, rS_gL, rA_gS, rA_gA, rA_gL, rL_gS, rL_gA, rL_gL, and_self, and_false, false_and, if_true, if_false, true_or, or_true, or_false, false_or, sm_in, eqI, sI_s, Int32.toInt_zero, Int.natCast_zero, Int.natCast_one, Int.cast_ofNat_Int, Int.reduceEq, Int.reduceLT, Int.reduceLE, Int.reduceNeg, Int.reduceNe, ne_eq, n_up, g_up, e_cat, z.1, z]
    clear hn hf ha hS hR
    grind
  · simp only [fin, h, if_false] at hs
    apply hR 60
    simp (maxSteps := 10000000) (disch := omega) only [hS, hn, sm_eqs, hf, ha, sm_b0, Int.reduceToNat, ↓reduceIte, Nat.reduceEqDiff, true_and, and_true, List.length_nil, List.length_cons, Nat.reduceAdd, Nat.reduceLeDiff, Nat.zero_le, false_implies, true_implies, not_true_eq_false, not_false_eq_true, implies_true, Nat.reduceSub, Nat.reduceMul, Nat.reduceDiv, reduceCtorEq, tn_clamp, nI_t, tn_nI, nI_add, pk_mul, rS_gS, rS_gA, rS_gL, rA_gS, rA_gA, rA_gL, rL_gS, rL_gA, rL_gL, and_self, and_false, false_and, if_true, if_false, true_or, or_true, or_false, false_or, sm_in, eqI, sI_s, Int32.toInt_zero, Int.natCast_zero, Int.natCast_one, Int.cast_ofNat_Int, Int.reduceEq, Int.reduceLT, Int.reduceLE, Int.reduceNeg, Int.reduceNe, ne_eq, n_up, g_up, e_cat, z.1, z]
    clear hn hf ha hS hR
    grind
theorem ok_X2_finish (l : Launch) : sm_spok l lay sm_mt 1 42 sp_X2_finish := Or.inr (Or.inr (Or.inr ⟨by decide, by decide, by
  rw [mt_42]
  exact sm_method (T := TX2_) v_cok v_lok v_ka v_tok_X2 mok_X2_finish rfl (by unfold sm_rk; simp) wf_X2_finish (fun _ h => absurd h List.not_mem_nil) b_X2_finish⟩))
/-- what ends no claim's cells but state and count -/
theorem fin_S (g : sm_G) (c : Nat) (s : Int32) (a b : Nat) : rS (fin g c s) a b = rS g a b := by unfold fin; split <;> rfl
theorem fin_A (g : sm_G) (c : Nat) (s : Int32) (a : Nat) (h1 : a ≠ 28) (h2 : a ≠ 30) : rA (fin g c s) a = rA g a := by
  unfold fin; split
  · rw [rA_gA, if_neg h2, rA_gA, if_neg h1]
  · rfl
theorem fin_L (g : sm_G) (c : Nat) (s : Int32) (a : Nat) : rL (fin g c s) a = rL g a := by unfold fin; split <;> rfl
/-- the first n claims that a test holds of are ended -/
def fins (g : sm_G) (f : Nat → Bool) (s : Int32) : Nat → sm_G
  | 0 => g
  | n + 1 => if f n = true then fin (fins g f s n) n s else fins g f s n
theorem fins_S (g : sm_G) (f : Nat → Bool) (s : Int32) (a b : Nat) : ∀ n, rS (fins g f s n) a b = rS g a b := by
  intro n
  induction n with
  | zero => rfl
  | succ n ih => simp only [fins]; split
                 · rw [fin_S, ih]
                 · exact ih
theorem fins_A (g : sm_G) (f : Nat → Bool) (s : Int32) (a : Nat) (h1 : a ≠ 28) (h2 : a ≠ 30) : ∀ n, rA (fins g f s n) a = rA g a := by
  intro n
  induction n with
  | zero => rfl
  | succ n ih => simp only [fins]; split
                 · rw [fin_A _ _ _ _ h1 h2, ih]
                 · exact ih
theorem fins_L (g : sm_G) (f : Nat → Bool) (s : Int32) (a : Nat) : ∀ n, rL (fins g f s n) a = rL g a := by
  intro n
  induction n with
  | zero => rfl
  | succ n ih => simp only [fins]; split
                 · rw [fin_L, ih]
                 · exact ih
theorem fins_C (g : sm_G) (f : Nat → Bool) (s : Int32) (n : Nat) : nC (fins g f s n) = nC g := by simp only [nC, fins_S]
theorem fins_zC {g : sm_G} (z : zC g) (f : Nat → Bool) (s : Int32) (n : Nat) : zC (fins g f s n) := by
  unfold zC; rw [fins_S, fins_C]; exact z
def sp_X2_finishAllOf : sm_SP := fun as g K => match as with
  | [.ref p, .int r, .int s] => p = 25 ∧ zC g ∧ (∀ c, c < nC g → sm_in (rA g 27 c) 60) ∧ K none (fins g (fun c => (rA g 26 c).toInt == r.toInt) s (nC g))
  | _ => False
theorem wf_X2_finishAllOf : sm_wf lay (yX2_finishAllOf, cX2_finishAllOf, 4, none) 3 false sp_X2_finishAllOf := by
  intro as g K h
  simp only [sp_X2_finishAllOf] at h
  split at h
  · exact ⟨Nat.le_of_ble_eq_true rfl, by simp, rfl, fun _ => by obtain rfl := h.1; exact ⟨25, _, 2, [28, 29, 30, 31, 32, 1], TX2, 6, rfl, rfl, rfl⟩⟩
  · exact h.elim
set_option maxHeartbeats 4000000 in
set_option maxRecDepth 100000 in
theorem b_X2_finishAllOf : sm_body lay NX2_finishAllOf 4 4 (sm_cl [(42, sp_X2_finish)]) sp_X2_finishAllOf := by
  intro K J S hW as g hs
  have hn := n_X2_finishAllOf
  have hf := fd_all
  have ha := ar_all
  generalize NX2_finishAllOf = N at hn hW
  generalize lay = L at hf ha hW
  obtain ⟨hS, hR⟩ := hW
  simp only [sp_X2_finishAllOf] at hs
  split at hs
  case h_2 => exact hs.elim
  simp only [e_args, sm_pad, List.length_cons, List.length_nil, Nat.reduceAdd, Nat.reduceSub, List.replicate_succ, List.replicate_zero, List.cons_append, List.nil_append]
  rename_i p r s
  obtain ⟨rfl, z, ht, hs⟩ := hs
  have z2 := z.2
  have loop : ∀ m c, m = nC g - c → c ≤ nC g → J 2 [some (.ref 25), some (.int r), some (.int s), some (.int (nI c))] [] (fins g (fun c => (rA g 26 c).toInt == r.toInt) s c) := by
    intro m
    induction m with
    | zero =>
      intro c hm hc
      obtain rfl : c = nC g := by omega
      apply hR 40
      simp (maxSteps := 10000000) (disch := omega) only [hS, hn, sm_eqs, hf, ha, sm_b0, Int.reduceToNat, ↓reduceIte, Nat.reduceEqDiff, true_and, and_true, List.length_nil, List.length_cons, Nat.reduceAdd, Nat.reduceLeDiff, Nat.zero_le, false_implies, true_implies, not_true_eq_false, not_false_eq_true, implies_true, Nat.reduceSub, Nat.reduceMul, Nat.reduceDiv, reduceCtorEq, tn_clamp, nI_t, tn_nI, nI_add, pk_mul, rS_gS, rS_gA, rS_gL, rA_gS, rA_gA, rA_gL, rL_gS, rL_gA, rL_gL, and_self, and_false, false_and, if_true, if_false, true_or, or_true, or_false, false_or, sm_in, eqI, sI_s, Int32.toInt_zero, Int.natCast_zero, Int.natCast_one, Int.cast_ofNat_Int, Int.reduceEq, Int.reduceLT, Int.reduceLE, Int.reduceNeg, Int.reduceNe, ne_eq, n_up, g_up, e_cat, sp_X2_finish, z.1, fins_S]
      clear hn hf ha hS hR
      grind
    | succ m ih =>
      intro c hm hc
      have ih := ih (c + 1) (by omega) (by omega)
      have ht := ht c (by omega)
      simp only [sm_in] at ht
      have zf := fins_zC z (fun c => (rA g 26 c).toInt == r.toInt) s c
      simp only [fins, beq_iff_eq] at ih
      have e1 := fins_A g (fun c => (rA g 26 c).toInt == r.toInt) s 26 (by decide) (by decide) c
      have e2 := fins_A g (fun c => (rA g 26 c).toInt == r.toInt) s 27 (by decide) (by decide) c
      apply hR 40
      simp (maxSteps := 10000000) (disch := omega) only [hS, hn, sm_eqs, hf, ha, sm_b0, Int.reduceToNat, ↓reduceIte, Nat.reduceEqDiff, true_and, and_true, List.length_nil, List.length_cons, Nat.reduceAdd, Nat.reduceLeDiff, Nat.zero_le, false_implies, true_implies, not_true_eq_false, not_false_eq_true, implies_true, Nat.reduceSub, Nat.reduceMul, Nat.reduceDiv, reduceCtorEq, tn_clamp, nI_t, tn_nI, nI_add, pk_mul, rS_gS, rS_gA, rS_gL, rA_gS, rA_gA, rA_gL, rL_gS, rL_gA, rL_gL, and_self, and_false, false_and, if_true, if_false, true_or, or_true, or_false, false_or, sm_in, eqI, sI_s, Int32.toInt_zero, Int.natCast_zero, Int.natCast_one, Int.cast_ofNat_Int, Int.reduceEq, Int.reduceLT, Int.reduceLE, Int.reduceNeg, Int.reduceNe, ne_eq, n_up, g_up, e_cat, sp_X2_finish, z.1, fins_S, fins_C, zf, okC, e1, e2]
      clear hn hf ha hS hR
      grind
  apply hR 40
  simp (maxSteps := 10000000) (disch := omega) only [hS, hn, sm_eqs, hf, ha, sm_b0, Int.reduceToNat, ↓reduceIte, Nat.reduceEqDiff, true_and, and_true, List.length_nil, List.length_cons, Nat.reduceAdd, Nat.reduceLeDiff, Nat.zero_le, false_implies, true_implies, not_true_eq_false, not_false_eq_true, implies_true, Nat.reduceSub, Nat.reduceMul, Nat.reduceDiv, reduceCtorEq, tn_clamp, nI_t, tn_nI, nI_add, pk_mul, rS_gS, rS_gA, rS_gL, rA_gS, rA_gA, rA_gL, rL_gS, rL_gA, rL_gL, and_self, and_false, false_and, if_true, if_false, true_or, or_true, or_false, false_or, sm_in, eqI, sI_s, Int32.toInt_zero, Int.natCast_zero, Int.natCast_one, Int.cast_ofNat_Int, Int.reduceEq, Int.reduceLT, Int.reduceLE, Int.reduceNeg, Int.reduceNe, ne_eq, n_up, g_up, e_cat, sp_X2_finish]
  exact loop _ 0 rfl (Nat.zero_le _)
theorem ok_X2_finishAllOf (l : Launch) : sm_spok l lay sm_mt 2 43 sp_X2_finishAllOf := Or.inr (Or.inr (Or.inr ⟨by decide, by decide, by
  rw [mt_43]
  exact sm_method (T := TX2_) v_cok v_lok v_ka v_tok_X2 mok_X2_finishAllOf rfl (by unfold sm_rk; simp) wf_X2_finishAllOf (List.forall_mem_cons.mpr ⟨sm_spok_up (Nat.le_of_ble_eq_true rfl : 1 ≤ 1) (ok_X2_finish l), fun _ h => absurd h List.not_mem_nil⟩) b_X2_finishAllOf⟩))
def sp_X2_finishAllOn : sm_SP := fun as g K => match as with
  | [.ref p, .int r, .int s] => p = 25 ∧ zC g ∧ (∀ c, c < nC g → sm_in (rA g 27 c) 60) ∧ K none (fins g (fun c => (rA g 27 c).toInt == r.toInt) s (nC g))
  | _ => False
theorem wf_X2_finishAllOn : sm_wf lay (yX2_finishAllOn, cX2_finishAllOn, 4, none) 3 false sp_X2_finishAllOn := by
  intro as g K h
  simp only [sp_X2_finishAllOn] at h
  split at h
  · exact ⟨Nat.le_of_ble_eq_true rfl, by simp, rfl, fun _ => by obtain rfl := h.1; exact ⟨25, _, 2, [28, 29, 30, 31, 32, 1], TX2, 6, rfl, rfl, rfl⟩⟩
  · exact h.elim
set_option maxHeartbeats 4000000 in
set_option maxRecDepth 100000 in
theorem b_X2_finishAllOn : sm_body lay NX2_finishAllOn 4 4 (sm_cl [(42, sp_X2_finish)]) sp_X2_finishAllOn := by
  intro K J S hW as g hs
  have hn := n_X2_finishAllOn
  have hf := fd_all
  have ha := ar_all
  generalize NX2_finishAllOn = N at hn hW
  generalize lay = L at hf ha hW
  obtain ⟨hS, hR⟩ := hW
  simp only [sp_X2_finishAllOn] at hs
  split at hs
  case h_2 => exact hs.elim
  simp only [e_args, sm_pad, List.length_cons, List.length_nil, Nat.reduceAdd, Nat.reduceSub, List.replicate_succ, List.replicate_zero, List.cons_append, List.nil_append]
  rename_i p r s
  obtain ⟨rfl, z, ht, hs⟩ := hs
  have z2 := z.2
  have loop : ∀ m c, m = nC g - c → c ≤ nC g → J 2 [some (.ref 25), some (.int r), some (.int s), some (.int (nI c))] [] (fins g (fun c => (rA g 27 c).toInt == r.toInt) s c) := by
    intro m
    induction m with
    | zero =>
      intro c hm hc
      obtain rfl : c = nC g := by omega
      apply hR 40
      simp (maxSteps := 10000000) (disch := omega) only [hS, hn, sm_eqs, hf, ha, sm_b0, Int.reduceToNat, ↓reduceIte, Nat.reduceEqDiff, true_and, and_true, List.length_nil, List.length_cons, Nat.reduceAdd, Nat.reduceLeDiff, Nat.zero_le, false_implies, true_implies, not_true_eq_false, not_false_eq_true, implies_true, Nat.reduceSub, Nat.reduceMul, Nat.reduceDiv, reduceCtorEq, tn_clamp, nI_t, tn_nI, nI_add, pk_mul, rS_gS, rS_gA, rS_gL, rA_gS, rA_gA, rA_gL, rL_gS, rL_gA, rL_gL, and_self, and_false, false_and, if_true, if_false, true_or, or_true, or_false, false_or, sm_in, eqI, sI_s, Int32.toInt_zero, Int.natCast_zero, Int.natCast_one, Int.cast_ofNat_Int, Int.reduceEq, Int.reduceLT, Int.reduceLE, Int.reduceNeg, Int.reduceNe, ne_eq, n_up, g_up, e_cat, sp_X2_finish, z.1, fins_S]
      clear hn hf ha hS hR
      grind
    | succ m ih =>
      intro c hm hc
      have ih := ih (c + 1) (by omega) (by omega)
      have ht := ht c (by omega)
      simp only [sm_in] at ht
      have zf := fins_zC z (fun c => (rA g 27 c).toInt == r.toInt) s c
      simp only [fins, beq_iff_eq] at ih
      have e1 := fins_A g (fun c => (rA g 27 c).toInt == r.toInt) s 26 (by decide) (by decide) c
      have e2 := fins_A g (fun c => (rA g 27 c).toInt == r.toInt) s 27 (by decide) (by decide) c
      apply hR 40
      simp (maxSteps := 10000000) (disch := omega) only [hS, hn, sm_eqs, hf, ha, sm_b0, Int.reduceToNat, ↓reduceIte, Nat.reduceEqDiff, true_and, and_true, List.length_nil, List.length_cons, Nat.reduceAdd, Nat.reduceLeDiff, Nat.zero_le, false_implies, true_implies, not_true_eq_false, not_false_eq_true, implies_true, Nat.reduceSub, Nat.reduceMul, Nat.reduceDiv, reduceCtorEq, tn_clamp, nI_t, tn_nI, nI_add, pk_mul, rS_gS, rS_gA, rS_gL, rA_gS, rA_gA, rA_gL, rL_gS, rL_gA, rL_gL, and_self, and_false, false_and, if_true, if_false, true_or, or_true, or_false, false_or, sm_in, eqI, sI_s, Int32.toInt_zero, Int.natCast_zero, Int.natCast_one, Int.cast_ofNat_Int, Int.reduceEq, Int.reduceLT, Int.reduceLE, Int.reduceNeg, Int.reduceNe, ne_eq, n_up, g_up, e_cat, sp_X2_finish, z.1, fins_S, fins_C, zf, okC, e1, e2]
      clear hn hf ha hS hR
      grind
  apply hR 40
  simp (maxSteps := 10000000) (disch := omega) only [hS, hn, sm_eqs, hf, ha, sm_b0, Int.reduceToNat, ↓reduceIte, Nat.reduceEqDiff, true_and, and_true, List.length_nil, List.length_cons, Nat.reduceAdd, Nat.reduceLeDiff, Nat.zero_le, false_implies, true_implies, not_true_eq_false, not_false_eq_true, implies_true, Nat.reduceSub, Nat.reduceMul, Nat.reduceDiv, reduceCtorEq, tn_clamp, nI_t, tn_nI, nI_add, pk_mul, rS_gS, rS_gA, rS_gL, rA_gS, rA_gA, rA_gL, rL_gS, rL_gA, rL_gL, and_self, and_false, false_and, if_true, if_false, true_or, or_true, or_false, false_or, sm_in, eqI, sI_s, Int32.toInt_zero, Int.natCast_zero, Int.natCast_one, Int.cast_ofNat_Int, Int.reduceEq, Int.reduceLT, Int.reduceLE, Int.reduceNeg, Int.reduceNe, ne_eq, n_up, g_up, e_cat, sp_X2_finish]
  exact loop _ 0 rfl (Nat.zero_le _)
theorem ok_X2_finishAllOn (l : Launch) : sm_spok l lay sm_mt 2 44 sp_X2_finishAllOn := Or.inr (Or.inr (Or.inr ⟨by decide, by decide, by
  rw [mt_44]
  exact sm_method (T := TX2_) v_cok v_lok v_ka v_tok_X2 mok_X2_finishAllOn rfl (by unfold sm_rk; simp) wf_X2_finishAllOn (List.forall_mem_cons.mpr ⟨sm_spok_up (Nat.le_of_ble_eq_true rfl : 1 ≤ 1) (ok_X2_finish l), fun _ h => absurd h List.not_mem_nil⟩) b_X2_finishAllOn⟩))
