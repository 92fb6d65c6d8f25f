/-! Rows, reports. -/
def sp_X6_size : sm_SP := fun as g K => match as with
  | [.ref p] => p = 12 ∧ zR g ∧ K (some (.int (nI (nR g)))) g
  | _ => False
theorem wf_X6_size : sm_wf lay (yX6_size, cX6_size, 1, (some .int)) 1 false sp_X6_size := by
  intro as g K h
  simp only [sp_X6_size] at h
  split at h
  · exact ⟨Nat.le_of_ble_eq_true rfl, by simp, rfl, fun _ => by obtain rfl := h.1; exact ⟨12, _, 6, [15, 16, 1], TX6, 3, rfl, rfl, rfl⟩⟩
  · exact h.elim
set_option maxHeartbeats 4000000 in
set_option maxRecDepth 100000 in
theorem b_X6_size : sm_body lay NX6_size 1 0 (sm_cl []) sp_X6_size := by
  intro K J S hW as g hs
  have hn := n_X6_size
  have hf := fd_all
  have ha := ar_all
  generalize NX6_size = N at hn hW
  generalize lay = L at hf ha hW
  obtain ⟨hS, hR⟩ := hW
  simp only [sp_X6_size] at hs
  split at hs
  case h_2 => exact hs.elim
  simp only [e_args, sm_pad, List.length_cons, List.length_nil, Nat.reduceAdd, Nat.reduceSub, List.replicate_succ, List.replicate_zero, List.cons_append, List.nil_append]
  rename_i p
  obtain ⟨rfl, z, hs⟩ := hs
  apply hR 20
  simp (maxSteps := 10000000) (disch := omega) only [hS, hn, sm_eqs, hf, ha, sm_b0, Int.reduceToNat, ↓reduceIte, Nat.reduceEqDiff, true_and, and_true, List.length_nil, List.length_cons, Nat.reduceAdd, Nat.reduceLeDiff, Nat.zero_le, false_implies, true_implies, not_true_eq_false, not_false_eq_true, implies_true, Nat.reduceSub, Nat.reduceMul, Nat.reduceDiv, reduceCtorEq, tn_clamp, nI_t, tn_nI, nI_add, pk_mul, rS_gS, rS_gA, rS_gL, rA_gS, rA_gA, rA_gL, rL_gS, rL_gA, rL_gL, and_self, and_false, false_and, if_true, if_false, true_or, or_true, or_false, false_or, sm_in, eqI, sI_s, Int32.toInt_zero, Int.natCast_zero, Int.natCast_one, Int.cast_ofNat_Int, Int.reduceEq, Int.reduceLT, Int.reduceLE, Int.reduceNeg, Int.reduceNe, ne_eq, n_up, g_up, e_cat, z.1]
  exact hs
theorem ok_X6_size (l : Launch) : sm_spok l lay sm_mt 1 75 sp_X6_size := Or.inr (Or.inr (Or.inr ⟨by decide, by decide, by
  rw [mt_75]
  exact sm_method (T := TX6_) v_cok v_lok v_ka v_tok_X6 mok_X6_size rfl (by unfold sm_rk; simp) wf_X6_size (fun _ h => absurd h List.not_mem_nil) b_X6_size⟩))
def sp_X6_has : sm_SP := fun as g K => match as with
  | [.ref p, .int r] => p = 12 ∧ zR g ∧ (okR g r → K (some (.int (nI 1))) g) ∧ (¬ okR g r → K (some (.int (nI 0))) g)
  | _ => False
theorem wf_X6_has : sm_wf lay (yX6_has, cX6_has, 2, (some .boolean)) 2 false sp_X6_has := by
  intro as g K h
  simp only [sp_X6_has] at h
  split at h
  · exact ⟨Nat.le_of_ble_eq_true rfl, by simp, rfl, fun _ => by obtain rfl := h.1; exact ⟨12, _, 6, [15, 16, 1], TX6, 3, rfl, rfl, rfl⟩⟩
  · exact h.elim
set_option maxHeartbeats 4000000 in
set_option maxRecDepth 100000 in
theorem b_X6_has : sm_body lay NX6_has 2 1 (sm_cl []) sp_X6_has := by
  intro K J S hW as g hs
  have hn := n_X6_has
  have hf := fd_all
  have ha := ar_all
  generalize NX6_has = N at hn hW
  generalize lay = L at hf ha hW
  obtain ⟨hS, hR⟩ := hW
  simp only [sp_X6_has] at hs
  split at hs
  case h_2 => exact hs.elim
  simp only [e_args, sm_pad, List.length_cons, List.length_nil, Nat.reduceAdd, Nat.reduceSub, List.replicate_succ, List.replicate_zero, List.cons_append, List.nil_append]
  rename_i p r
  obtain ⟨rfl, z, h1, h2⟩ := hs
  have z2 := z.2
  simp only [okR] at h1 h2
  apply hR 20
  simp (maxSteps := 10000000) (disch := omega) only [hS, hn, sm_eqs, hf, ha, sm_b0, Int.reduceToNat, ↓reduceIte, Nat.reduceEqDiff, true_and, and_true, List.length_nil, List.length_cons, Nat.reduceAdd, Nat.reduceLeDiff, Nat.zero_le, false_implies, true_implies, not_true_eq_false, not_false_eq_true, implies_true, Nat.reduceSub, Nat.reduceMul, Nat.reduceDiv, reduceCtorEq, tn_clamp, nI_t, tn_nI, nI_add, pk_mul, rS_gS, rS_gA, rS_gL, rA_gS, rA_gA, rA_gL, rL_gS, rL_gA, rL_gL, and_self, and_false, false_and, if_true, if_false, true_or, or_true, or_false, false_or, sm_in, eqI, sI_s, Int32.toInt_zero, Int.natCast_zero, Int.natCast_one, Int.cast_ofNat_Int, Int.reduceEq, Int.reduceLT, Int.reduceLE, Int.reduceNeg, Int.reduceNe, ne_eq, n_up, g_up, e_cat, z.1]
  clear hn hf ha hS hR
  grind
theorem ok_X6_has (l : Launch) : sm_spok l lay sm_mt 1 76 sp_X6_has := Or.inr (Or.inr (Or.inr ⟨by decide, by decide, by
  rw [mt_76]
  exact sm_method (T := TX6_) v_cok v_lok v_ka v_tok_X6 mok_X6_has rfl (by unfold sm_rk; simp) wf_X6_has (fun _ h => absurd h List.not_mem_nil) b_X6_has⟩))
def sp_X6_isOpen : sm_SP := fun as g K => match as with
  | [.ref p, .int r] => p = 12 ∧ zR g ∧ (∀ i, rA g 14 i = nI 0 ∨ rA g 14 i = nI 1) ∧ (okR g r ∧ rA g 14 (tn r) = nI 1 → K (some (.int (nI 1))) g) ∧ (¬ (okR g r ∧ rA g 14 (tn r) = nI 1) → K (some (.int (nI 0))) g)
  | _ => False
theorem wf_X6_isOpen : sm_wf lay (yX6_isOpen, cX6_isOpen, 2, (some .boolean)) 2 false sp_X6_isOpen := by
  intro as g K h
  simp only [sp_X6_isOpen] at h
  split at h
  · exact ⟨Nat.le_of_ble_eq_true rfl, by simp, rfl, fun _ => by obtain rfl := h.1; exact ⟨12, _, 6, [15, 16, 1], TX6, 3, rfl, rfl, rfl⟩⟩
  · exact h.elim
set_option maxHeartbeats 4000000 in
set_option maxRecDepth 100000 in
theorem b_X6_isOpen : sm_body lay NX6_isOpen 2 1 (sm_cl [(76, sp_X6_has)]) sp_X6_isOpen := by
  intro K J S hW as g hs
  have hn := n_X6_isOpen
  have hf := fd_all
  have ha := ar_all
  generalize NX6_isOpen = N at hn hW
  generalize lay = L at hf ha hW
  obtain ⟨hS, hR⟩ := hW
  simp only [sp_X6_isOpen] at hs
  split at hs
  case h_2 => exact hs.elim
  simp only [e_args, sm_pad, List.length_cons, List.length_nil, Nat.reduceAdd, Nat.reduceSub, List.replicate_succ, List.replicate_zero, List.cons_append, List.nil_append]
  rename_i p r
  obtain ⟨rfl, z, hb, h1, h2⟩ := hs
  have z2 := z.2
  by_cases hr : okR g r
  · obtain ⟨j, hj, rfl⟩ := ok_nI hr
    simp (disch := omega) only [tn_nI, hr, true_and] at h1 h2
    rcases hb j with hb | hb
    · rw [hb] at h1 h2
      have h2 := h2 (by decide)
      apply hR 20
      simp (maxSteps := 10000000) (disch := omega) only [hS, hn, sm_eqs, hf, ha, sm_b0, Int.reduceToNat, ↓reduceIte, Nat.reduceEqDiff, true_and, and_true, List.length_nil, List.length_cons, Nat.reduceAdd, Nat.reduceLeDiff, Nat.zero_le, false_implies, true_implies, not_true_eq_false, not_false_eq_true, implies_true, Nat.reduceSub, Nat.reduceMul, Nat.reduceDiv, reduceCtorEq, tn_clamp, nI_t, tn_nI, nI_add, pk_mul, rS_gS, rS_gA, rS_gL, rA_gS, rA_gA, rA_gL, rL_gS, rL_gA, rL_gL, and_self, and_false, false_and, if_true, if_false, true_or, or_true, or_false, false_or, sm_in, eqI, sI_s, Int32.toInt_zero, Int.natCast_zero, Int.natCast_one, Int.cast_ofNat_Int, Int.reduceEq, Int.reduceLT, Int.reduceLE, Int.reduceNeg, Int.reduceNe, ne_eq, n_up, g_up, e_cat, sp_X6_has, z, hr, hb]
      clear hn hf ha hS hR
      grind
    · rw [hb] at h1 h2
      have h1 := h1 rfl
      apply hR 20
      simp (maxSteps := 10000000) (disch := omega) only [hS, hn, sm_eqs, hf, ha, sm_b0, Int.reduceToNat, ↓reduceIte, Nat.reduceEqDiff, true_and, and_true, List.length_nil, List.length_cons, Nat.reduceAdd, Nat.reduceLeDiff, Nat.zero_le, false_implies, true_implies, not_true_eq_false, not_false_eq_true, implies_true, Nat.reduceSub, Nat.reduceMul, Nat.reduceDiv, reduceCtorEq, tn_clamp, nI_t, tn_nI, nI_add, pk_mul, rS_gS, rS_gA, rS_gL, rA_gS, rA_gA, rA_gL, rL_gS, rL_gA, rL_gL, and_self, and_false, false_and, if_true, if_false, true_or, or_true, or_false, false_or, sm_in, eqI, sI_s, Int32.toInt_zero, Int.natCast_zero, Int.natCast_one, Int.cast_ofNat_Int, Int.reduceEq, Int.reduceLT, Int.reduceLE, Int.reduceNeg, Int.reduceNe, ne_eq, n_up, g_up, e_cat, sp_X6_has, z, hr, hb]
      clear hn hf ha hS hR
      grind
  · have h2 := h2 (fun h => hr h.1)
    apply hR 20
    simp (maxSteps := 10000000) (disch := omega) only [hS, hn, sm_eqs, hf, ha, sm_b0, Int.reduceToNat, ↓reduceIte, Nat.reduceEqDiff, true_and, and_true, List.length_nil, List.length_cons, Nat.reduceAdd, Nat.reduceLeDiff, Nat.zero_le, false_implies, true_implies, not_true_eq_false, not_false_eq_true, implies_true, Nat.reduceSub, Nat.reduceMul, Nat.reduceDiv, reduceCtorEq, tn_clamp, nI_t, tn_nI, nI_add, pk_mul, rS_gS, rS_gA, rS_gL, rA_gS, rA_gA, rA_gL, rL_gS, rL_gA, rL_gL, and_self, and_false, false_and, if_true, if_false, true_or, or_true, or_false, false_or, sm_in, eqI, sI_s, Int32.toInt_zero, Int.natCast_zero, Int.natCast_one, Int.cast_ofNat_Int, Int.reduceEq, Int.reduceLT, Int.reduceLE, Int.reduceNeg, Int.reduceNe, ne_eq, n_up, g_up, e_cat, sp_X6_has, z, hr]
    exact h2
theorem ok_X6_isOpen (l : Launch) : sm_spok l lay sm_mt 2 77 sp_X6_isOpen := Or.inr (Or.inr (Or.inr ⟨by decide, by decide, by
  rw [mt_77]
  exact sm_method (T := TX6_) v_cok v_lok v_ka v_tok_X6 mok_X6_isOpen rfl (by unfold sm_rk; simp) wf_X6_isOpen (List.forall_mem_cons.mpr ⟨sm_spok_up (Nat.le_of_ble_eq_true rfl : 1 ≤ 1) (ok_X6_has l), fun _ h => absurd h List.not_mem_nil⟩) b_X6_isOpen⟩))
def sp_X6_personOf : sm_SP := fun as g K => match as with
  | [.ref p, .int r] => p = 12 ∧ zR g ∧ (okR g r → K (some (.int (rA g 13 (tn r)))) g) ∧ (¬ okR g r → K (some (.int (sI 0))) g)
  | _ => False
theorem wf_X6_personOf : sm_wf lay (yX6_personOf, cX6_personOf, 2, (some .int)) 2 false sp_X6_personOf := by
  intro as g K h
  simp only [sp_X6_personOf] at h
  split at h
  · exact ⟨Nat.le_of_ble_eq_true rfl, by simp, rfl, fun _ => by obtain rfl := h.1; exact ⟨12, _, 6, [15, 16, 1], TX6, 3, rfl, rfl, rfl⟩⟩
  · exact h.elim
set_option maxHeartbeats 4000000 in
set_option maxRecDepth 100000 in
theorem b_X6_personOf : sm_body lay NX6_personOf 2 0 (sm_cl [(76, sp_X6_has)]) sp_X6_personOf := by
  intro K J S hW as g hs
  have hn := n_X6_personOf
  have hf := fd_all
  have ha := ar_all
  generalize NX6_personOf = N at hn hW
  generalize lay = L at hf ha hW
  obtain ⟨hS, hR⟩ := hW
  simp only [sp_X6_personOf] at hs
  split at hs
  case h_2 => exact hs.elim
  simp only [e_args, sm_pad, List.length_cons, List.length_nil, Nat.reduceAdd, Nat.reduceSub, List.replicate_succ, List.replicate_zero, List.cons_append, List.nil_append]
  rename_i p r
  obtain ⟨rfl, z, h1, h2⟩ := hs
  have z2 := z.2
  by_cases hr : okR g r
  · obtain ⟨j, hj, rfl⟩ := ok_nI hr
    simp (disch := omega) only [tn_nI, hr, true_implies] at h1
    apply hR 20
    simp (maxSteps := 10000000) (disch := omega) only [hS, hn, sm_eqs, hf, ha, sm_b0, Int.reduceToNat, ↓reduceIte, Nat.reduceEqDiff, true_and, and_true, List.length_nil, List.length_cons, Nat.reduceAdd, Nat.reduceLeDiff, Nat.zero_le, false_implies, true_implies, not_true_eq_false, not_false_eq_true, implies_true, Nat.reduceSub, Nat.reduceMul, Nat.reduceDiv, reduceCtorEq, tn_clamp, nI_t, tn_nI, nI_add, pk_mul, rS_gS, rS_gA, rS_gL, rA_gS, rA_gA, rA_gL, rL_gS, rL_gA, rL_gL, and_self, and_false, false_and, if_true, if_false, true_or, or_true, or_false, false_or, sm_in, eqI, sI_s, Int32.toInt_zero, Int.natCast_zero, Int.natCast_one, Int.cast_ofNat_Int, Int.reduceEq, Int.reduceLT, Int.reduceLE, Int.reduceNeg, Int.reduceNe, ne_eq, n_up, g_up, e_cat, sp_X6_has, z, hr]
    clear hn hf ha hS hR
    grind
  · apply hR 20
    simp (maxSteps := 10000000) (disch := omega) only [hS, hn, sm_eqs, hf, ha, sm_b0, Int.reduceToNat, ↓reduceIte, Nat.reduceEqDiff, true_and, and_true, List.length_nil, List.length_cons, Nat.reduceAdd, Nat.reduceLeDiff, Nat.zero_le, false_implies, true_implies, not_true_eq_false, not_false_eq_true, implies_true, Nat.reduceSub, Nat.reduceMul, Nat.reduceDiv, reduceCtorEq, tn_clamp, nI_t, tn_nI, nI_add, pk_mul, rS_gS, rS_gA, rS_gL, rA_gS, rA_gA, rA_gL, rL_gS, rL_gA, rL_gL, and_self, and_false, false_and, if_true, if_false, true_or, or_true, or_false, false_or, sm_in, eqI, sI_s, Int32.toInt_zero, Int.natCast_zero, Int.natCast_one, Int.cast_ofNat_Int, Int.reduceEq, Int.reduceLT, Int.reduceLE, Int.reduceNeg, Int.reduceNe, ne_eq, n_up, g_up, e_cat, sp_X6_has, z, hr]
    exact h2 hr
theorem ok_X6_personOf (l : Launch) : sm_spok l lay sm_mt 2 78 sp_X6_personOf := Or.inr (Or.inr (Or.inr ⟨by decide, by decide, by
  rw [mt_78]
  exact sm_method (T := TX6_) v_cok v_lok v_ka v_tok_X6 mok_X6_personOf rfl (by unfold sm_rk; simp) wf_X6_personOf (List.forall_mem_cons.mpr ⟨sm_spok_up (Nat.le_of_ble_eq_true rfl : 1 ≤ 1) (ok_X6_has l), fun _ h => absurd h List.not_mem_nil⟩) b_X6_personOf⟩))
def sp_X6_add : sm_SP := fun as g K => match as with
  | [.ref p, .int w] => p = 12 ∧ zR g ∧ (nR g < 60 ∧ 1 ≤ w.toInt ∧ w.toInt ≤ 999 → K (some (.int (nI (nR g)))) (gS (gA (gA g 13 (upd (rA g 13) (nR g) w)) 14 (upd (rA g 14) (nR g) (nI 1))) 12 602 (nI (nR g + 1)))) ∧ (¬ (nR g < 60 ∧ 1 ≤ w.toInt ∧ w.toInt ≤ 999) → K (some (.int (sI 0))) g)
  | _ => False
theorem wf_X6_add : sm_wf lay (yX6_add, cX6_add, 3, (some .int)) 2 false sp_X6_add := by
  intro as g K h
  simp only [sp_X6_add] at h
  split at h
  · exact ⟨Nat.le_of_ble_eq_true rfl, by simp, rfl, fun _ => by obtain rfl := h.1; exact ⟨12, _, 6, [15, 16, 1], TX6, 3, rfl, rfl, rfl⟩⟩
  · exact h.elim
set_option maxHeartbeats 4000000 in
set_option maxRecDepth 100000 in
theorem b_X6_add : sm_body lay NX6_add 3 0 (sm_cl []) sp_X6_add := by
  intro K J S hW as g hs
  have hn := n_X6_add
  have hf := fd_all
  have ha := ar_all
  generalize NX6_add = N at hn hW
  generalize lay = L at hf ha hW
  obtain ⟨hS, hR⟩ := hW
  simp only [sp_X6_add] at hs
  split at hs
  case h_2 => exact hs.elim
  simp only [e_args, sm_pad, List.length_cons, List.length_nil, Nat.reduceAdd, Nat.reduceSub, List.replicate_succ, List.replicate_zero, List.cons_append, List.nil_append]
  rename_i p w
  obtain ⟨rfl, z, h1, h2⟩ := hs
  have z2 := z.2
  apply hR 60
  simp (maxSteps := 10000000) (disch := omega) only [hS, hn, sm_eqs, hf, ha, sm_b0, Int.reduceToNat, ↓reduceIte, Nat.reduceEqDiff, true_and, and_true, List.length_nil, List.length_cons, Nat.reduceAdd, Nat.reduceLeDiff, Nat.zero_le, false_implies, true_implies, not_true_eq_false, not_false_eq_true, implies_true, Nat.reduceSub, Nat.reduceMul, Nat.reduceDiv, reduceCtorEq, tn_clamp, nI_t, tn_nI, nI_add, pk_mul, rS_gS, rS_gA, rS_gL, rA_gS, rA_gA, rA_gL, rL_gS, rL_gA, rL_gL, and_self, and_false, false_and, if_true, if_false, true_or, or_true, or_false, false_or, sm_in, eqI, sI_s, Int32.toInt_zero, Int.natCast_zero, Int.natCast_one, Int.cast_ofNat_Int, Int.reduceEq, Int.reduceLT, Int.reduceLE, Int.reduceNeg, Int.reduceNe, ne_eq, n_up, g_up, e_cat, z.1]
  clear hn hf ha hS hR
  grind
theorem ok_X6_add (l : Launch) : sm_spok l lay sm_mt 1 79 sp_X6_add := Or.inr (Or.inr (Or.inr ⟨by decide, by decide, by
  rw [mt_79]
  exact sm_method (T := TX6_) v_cok v_lok v_ka v_tok_X6 mok_X6_add rfl (by unfold sm_rk; simp) wf_X6_add (fun _ h => absurd h List.not_mem_nil) b_X6_add⟩))
def sp_X6_shut : sm_SP := fun as g K => match as with
  | [.ref p, .int r] => p = 12 ∧ zR g ∧ okR g r ∧ K none (gA g 14 (upd (rA g 14) (tn r) (nI 0)))
  | _ => False
theorem wf_X6_shut : sm_wf lay (yX6_shut, cX6_shut, 2, none) 2 false sp_X6_shut := by
  intro as g K h
  simp only [sp_X6_shut] at h
  split at h
  · exact ⟨Nat.le_of_ble_eq_true rfl, by simp, rfl, fun _ => by obtain rfl := h.1; exact ⟨12, _, 6, [15, 16, 1], TX6, 3, rfl, rfl, rfl⟩⟩
  · exact h.elim
set_option maxHeartbeats 4000000 in
set_option maxRecDepth 100000 in
theorem b_X6_shut : sm_body lay NX6_shut 2 4 (sm_cl [(76, sp_X6_has)]) sp_X6_shut := by
  intro K J S hW as g hs
  have hn := n_X6_shut
  have hf := fd_all
  have ha := ar_all
  generalize NX6_shut = N at hn hW
  generalize lay = L at hf ha hW
  obtain ⟨hS, hR⟩ := hW
  simp only [sp_X6_shut] at hs
  split at hs
  case h_2 => exact hs.elim
  simp only [e_args, sm_pad, List.length_cons, List.length_nil, Nat.reduceAdd, Nat.reduceSub, List.replicate_succ, List.replicate_zero, List.cons_append, List.nil_append]
  rename_i p r
  obtain ⟨rfl, z, hr, hs⟩ := hs
  have z2 := z.2
  obtain ⟨j, hj, rfl⟩ := ok_nI hr
  simp (disch := omega) only [tn_nI] at hs
  apply hR 20
  simp (maxSteps := 10000000) (disch := omega) only [hS, hn, sm_eqs, hf, ha, sm_b0, Int.reduceToNat, ↓reduceIte, Nat.reduceEqDiff, true_and, and_true, List.length_nil, List.length_cons, Nat.reduceAdd, Nat.reduceLeDiff, Nat.zero_le, false_implies, true_implies, not_true_eq_false, not_false_eq_true, implies_true, Nat.reduceSub, Nat.reduceMul, Nat.reduceDiv, reduceCtorEq, tn_clamp, nI_t, tn_nI, nI_add, pk_mul, rS_gS, rS_gA, rS_gL, rA_gS, rA_gA, rA_gL, rL_gS, rL_gA, rL_gL, and_self, and_false, false_and, if_true, if_false, true_or, or_true, or_false, false_or, sm_in, eqI, sI_s, Int32.toInt_zero, Int.natCast_zero, Int.natCast_one, Int.cast_ofNat_Int, Int.reduceEq, Int.reduceLT, Int.reduceLE, Int.reduceNeg, Int.reduceNe, ne_eq, n_up, g_up, e_cat, sp_X6_has, z, hr]
  clear hn hf ha hS hR
  grind
theorem ok_X6_shut (l : Launch) : sm_spok l lay sm_mt 2 80 sp_X6_shut := Or.inr (Or.inr (Or.inr ⟨by decide, by decide, by
  rw [mt_80]
  exact sm_method (T := TX6_) v_cok v_lok v_ka v_tok_X6 mok_X6_shut rfl (by unfold sm_rk; simp) wf_X6_shut (List.forall_mem_cons.mpr ⟨sm_spok_up (Nat.le_of_ble_eq_true rfl : 1 ≤ 1) (ok_X6_has l), fun _ h => absurd h List.not_mem_nil⟩) b_X6_shut⟩))
/-- how many of the first n there are -/
def cnt (f : Nat → Bool) : Nat → Nat
  | 0 => 0
  | n + 1 => cnt f n + (if f n = true then 1 else 0)
theorem cnt_le (f : Nat → Bool) : ∀ n, cnt f n ≤ n := by
  intro n
  induction n with
  | zero => exact Nat.le_refl _
  | succ n ih => simp only [cnt]; split <;> omega
def sp_X6_openCount : sm_SP := fun as g K => match as with
  | [.ref p] => p = 12 ∧ zR g ∧ (∀ i, rA g 14 i = nI 0 ∨ rA g 14 i = nI 1) ∧ K (some (.int (nI (cnt (fun r => rA g 14 r == nI 1) (nR g))))) g
  | _ => False
theorem wf_X6_openCount : sm_wf lay (yX6_openCount, cX6_openCount, 3, (some .int)) 1 false sp_X6_openCount := by
  intro as g K h
  simp only [sp_X6_openCount] at h
  split at h
  · exact ⟨Nat.le_of_ble_eq_true rfl, by simp, rfl, fun _ => by obtain rfl := h.1; exact ⟨12, _, 6, [15, 16, 1], TX6, 3, rfl, rfl, rfl⟩⟩
  · exact h.elim
set_option maxHeartbeats 4000000 in
set_option maxRecDepth 100000 in
theorem b_X6_openCount : sm_body lay NX6_openCount 3 0 (sm_cl []) sp_X6_openCount := by
  intro K J S hW as g hs
  have hn := n_X6_openCount
  have hf := fd_all
  have ha := ar_all
  generalize NX6_openCount = N at hn hW
  generalize lay = L at hf ha hW
  obtain ⟨hS, hR⟩ := hW
  simp only [sp_X6_openCount] at hs
  split at hs
  case h_2 => exact hs.elim
  simp only [e_args, sm_pad, List.length_cons, List.length_nil, Nat.reduceAdd, Nat.reduceSub, List.replicate_succ, List.replicate_zero, List.cons_append, List.nil_append]
  rename_i p
  obtain ⟨rfl, z, hb, hs⟩ := hs
  have z2 := z.2
  have loop : ∀ m t, m = nR g - t → t ≤ nR g → J 4 [some (.ref 12), some (.int (nI (cnt (fun r => rA g 14 r == nI 1) t))), some (.int (nI t))] [] g := by
    intro m
    induction m with
    | zero =>
      intro t hm ht
      obtain rfl : t = nR g := by omega
      have hc := cnt_le (fun r => rA g 14 r == nI 1) (nR g)
      apply hR 40
      simp (maxSteps := 10000000) (disch := omega) only [hS, hn, sm_eqs, hf, ha, sm_b0, Int.reduceToNat, ↓reduceIte, Nat.reduceEqDiff, true_and, and_true, List.length_nil, List.length_cons, Nat.reduceAdd, Nat.reduceLeDiff, Nat.zero_le, false_implies, true_implies, not_true_eq_false, not_false_eq_true, implies_true, Nat.reduceSub, Nat.reduceMul, Nat.reduceDiv, reduceCtorEq, tn_clamp, nI_t, tn_nI, nI_add, pk_mul, rS_gS, rS_gA, rS_gL, rA_gS, rA_gA, rA_gL, rL_gS, rL_gA, rL_gL, and_self, and_false, false_and, if_true, if_false, true_or, or_true, or_false, false_or, sm_in, eqI, sI_s, Int32.toInt_zero, Int.natCast_zero, Int.natCast_one, Int.cast_ofNat_Int, Int.reduceEq, Int.reduceLT, Int.reduceLE, Int.reduceNeg, Int.reduceNe, ne_eq, n_up, g_up, e_cat, z.1]
      clear hn hf ha hS hR
      grind
    | succ m ih =>
      intro t hm ht
      have ih := ih (t + 1) (by omega) (by omega)
      have hc := cnt_le (fun r => rA g 14 r == nI 1) t
      simp only [cnt] at ih
      rcases hb t with hb | hb
      · have e : (rA g 14 t == nI 1) = false := by rw [hb]; decide
        simp only [e] at ih
        apply hR 40
        simp (maxSteps := 10000000) (disch := omega) only [hS, hn, sm_eqs, hf, ha, sm_b0, Int.reduceToNat, ↓reduceIte, Nat.reduceEqDiff, true_and, and_true, List.length_nil, List.length_cons, Nat.reduceAdd, Nat.reduceLeDiff, Nat.zero_le, false_implies, true_implies, not_true_eq_false, not_false_eq_true, implies_true, Nat.reduceSub, Nat.reduceMul, Nat.reduceDiv, reduceCtorEq, tn_clamp, nI_t, tn_nI, nI_add, pk_mul, rS_gS, rS_gA, rS_gL, rA_gS, rA_gA, rA_gL, rL_gS, rL_gA, rL_gL, and_self, and_false, false_and, if_true, if_false, true_or, or_true, or_false, false_or, sm_in, eqI, sI_s, Int32.toInt_zero, Int.natCast_zero, Int.natCast_one, Int.cast_ofNat_Int, Int.reduceEq, Int.reduceLT, Int.reduceLE, Int.reduceNeg, Int.reduceNe, ne_eq, n_up, g_up, e_cat, z.1, hb]
        clear hn hf ha hS hR
        grind
      · have e : (rA g 14 t == nI 1) = true := by rw [hb]; decide
        simp only [e] at ih
        apply hR 40
        simp (maxSteps := 10000000) (disch := omega) only [hS, hn, sm_eqs, hf, ha, sm_b0, Int.reduceToNat, ↓reduceIte, Nat.reduceEqDiff, true_and, and_true, List.length_nil, List.length_cons, Nat.reduceAdd, Nat.reduceLeDiff, Nat.zero_le, false_implies, true_implies, not_true_eq_false, not_false_eq_true, implies_true, Nat.reduceSub, Nat.reduceMul, Nat.reduceDiv, reduceCtorEq, tn_clamp, nI_t, tn_nI, nI_add, pk_mul, rS_gS, rS_gA, rS_gL, rA_gS, rA_gA, rA_gL, rL_gS, rL_gA, rL_gL, and_self, and_false, false_and, if_true, if_false, true_or, or_true, or_false, false_or, sm_in, eqI, sI_s, Int32.toInt_zero, Int.natCast_zero, Int.natCast_one, Int.cast_ofNat_Int, Int.reduceEq, Int.reduceLT, Int.reduceLE, Int.reduceNeg, Int.reduceNe, ne_eq, n_up, g_up, e_cat, z.1, hb]
        clear hn hf ha hS hR
        grind
  apply hR 40
  simp (maxSteps := 10000000) (disch := omega) only [hS, hn, sm_eqs, hf, ha, sm_b0, Int.reduceToNat, ↓reduceIte, Nat.reduceEqDiff, true_and, and_true, List.length_nil, List.length_cons, Nat.reduceAdd, Nat.reduceLeDiff, Nat.zero_le, false_implies, true_implies, not_true_eq_false, not_false_eq_true, implies_true, Nat.reduceSub, Nat.reduceMul, Nat.reduceDiv, reduceCtorEq, tn_clamp, nI_t, tn_nI, nI_add, pk_mul, rS_gS, rS_gA, rS_gL, rA_gS, rA_gA, rA_gL, rL_gS, rL_gA, rL_gL, and_self, and_false, false_and, if_true, if_false, true_or, or_true, or_false, false_or, sm_in, eqI, sI_s, Int32.toInt_zero, Int.natCast_zero, Int.natCast_one, Int.cast_ofNat_Int, Int.reduceEq, Int.reduceLT, Int.reduceLE, Int.reduceNeg, Int.reduceNe, ne_eq, n_up, g_up, e_cat]
  exact loop _ 0 rfl (Nat.zero_le _)
theorem ok_X6_openCount (l : Launch) : sm_spok l lay sm_mt 1 81 sp_X6_openCount := Or.inr (Or.inr (Or.inr ⟨by decide, by decide, by
  rw [mt_81]
  exact sm_method (T := TX6_) v_cok v_lok v_ka v_tok_X6 mok_X6_openCount rfl (by unfold sm_rk; simp) wf_X6_openCount (fun _ h => absurd h List.not_mem_nil) b_X6_openCount⟩))
