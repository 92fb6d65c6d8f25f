/-! The assignment: small reads. -/
/-- which row holds a column, as the assignment tells it -/
def hdC (g : sm_G) (j : Int32) : Int32 := if 0 ≤ j.toInt ∧ j.toInt < 31 ∧ 0 ≤ (rA g 41 (tn j)).toInt ∧ (rA g 41 (tn j)).toInt ≤ (rS g 34 108).toInt then rA g 41 (tn j) else nI 0
def sp_X1_holderOf : sm_SP := fun as g K => match as with
  | [.ref p, .int j] => p = 34 ∧ K (some (.int (hdC g j))) g
  | _ => False
theorem wf_X1_holderOf : sm_wf lay (yX1_holderOf, cX1_holderOf, 2, (some .int)) 2 false sp_X1_holderOf := by
  intro as g K h
  simp only [sp_X1_holderOf] at h
  split at h
  · exact ⟨Nat.le_of_ble_eq_true rfl, by simp, rfl, fun _ => by obtain rfl := h.1; exact ⟨34, _, 1, [37, 38, 39, 40, 41, 42, 43, 44, 1, 1, 1], TX1, 11, rfl, rfl, rfl⟩⟩
  · exact h.elim
set_option maxHeartbeats 4000000 in
set_option maxRecDepth 100000 in
theorem b_X1_holderOf : sm_body lay NX1_holderOf 2 0 (sm_cl []) sp_X1_holderOf := by
  intro K J S hW as g hs
  have hn := n_X1_holderOf
  have hf := fd_all
  have ha := ar_all
  generalize NX1_holderOf = N at hn hW
  generalize lay = L at hf ha hW
  obtain ⟨hS, hR⟩ := hW
  simp only [sp_X1_holderOf] at hs
  split at hs
  case h_2 => exact hs.elim
  simp only [e_args, sm_pad, List.length_cons, List.length_nil, Nat.reduceAdd, Nat.reduceSub, List.replicate_succ, List.replicate_zero, List.cons_append, List.nil_append]
  rename_i p j
  obtain ⟨rfl, hs⟩ := hs
  by_cases h : 0 ≤ j.toInt ∧ j.toInt < 31 ∧ 0 ≤ (rA g 41 (tn j)).toInt ∧ (rA g 41 (tn j)).toInt ≤ (rS g 34 108).toInt
  · unfold hdC at hs
    rw [if_pos h] at hs
    apply hR 60
    simp (maxSteps := 10000000) (disch := omega) only [hS, hn, sm_eqs, hf, ha, sm_b0, Int.reduceToNat, ↓reduceIte, Nat.reduceEqDiff, true_and, and_true, List.length_nil, List.length_cons, Nat.reduceAdd, Nat.reduceLeDiff, Nat.zero_le, false_implies, true_implies, not_true_eq_false, not_false_eq_true, implies_true, Nat.reduceSub, Nat.reduceMul, Nat.reduceDiv, reduceCtorEq, tn_clamp, nI_t, tn_nI, nI_add, pk_mul, rS_gS, rS_gA, rS_gL, rA_gS, rA_gA, rA_gL, rL_gS, rL_gA, rL_gL, and_self, and_false, false_and, if_true, if_false, true_or, or_true, or_false, false_or, sm_in, eqI, sI_s, Int32.toInt_zero, Int.natCast_zero, Int.natCast_one, Int.cast_ofNat_Int, Int.reduceEq, Int.reduceLT, Int.reduceLE, Int.reduceNeg, Int.reduceNe, ne_eq, n_up, g_up, e_cat, fr_A, fr_O, fr_P, fr_L]
    clear hn hf ha hS hR
    grind
  · unfold hdC at hs
    rw [if_neg h] at hs
    apply hR 60
    simp (maxSteps := 10000000) (disch := omega) only [hS, hn, sm_eqs, hf, ha, sm_b0, Int.reduceToNat, ↓reduceIte, Nat.reduceEqDiff, true_and, and_true, List.length_nil, List.length_cons, Nat.reduceAdd, Nat.reduceLeDiff, Nat.zero_le, false_implies, true_implies, not_true_eq_false, not_false_eq_true, implies_true, Nat.reduceSub, Nat.reduceMul, Nat.reduceDiv, reduceCtorEq, tn_clamp, nI_t, tn_nI, nI_add, pk_mul, rS_gS, rS_gA, rS_gL, rA_gS, rA_gA, rA_gL, rL_gS, rL_gA, rL_gL, and_self, and_false, false_and, if_true, if_false, true_or, or_true, or_false, false_or, sm_in, eqI, sI_s, Int32.toInt_zero, Int.natCast_zero, Int.natCast_one, Int.cast_ofNat_Int, Int.reduceEq, Int.reduceLT, Int.reduceLE, Int.reduceNeg, Int.reduceNe, ne_eq, n_up, g_up, e_cat, fr_A, fr_O, fr_P, fr_L]
    clear hn hf ha hS hR
    grind
theorem ok_X1_holderOf (l : Launch) : sm_spok l lay sm_mt 1 19 sp_X1_holderOf := Or.inr (Or.inr (Or.inr ⟨by decide, by decide, by
  rw [mt_19]
  exact sm_method (T := TX1_) v_cok v_lok v_ka v_tok_X1 mok_X1_holderOf rfl (by unfold sm_rk; simp) wf_X1_holderOf (fun _ h => absurd h List.not_mem_nil) b_X1_holderOf⟩))
def sp_X1_columnOf : sm_SP := fun as g K => match as with
  | [.ref p, .int i] => p = 34 ∧ (∃ n, n ≤ 20 ∧ rS g 34 109 = nI n) ∧ i.toInt < 1000 ∧ -1000 < i.toInt ∧ K (some (.int (oI (ffst (fun j => (rA g 41 (j + 1)).toInt == i.toInt + 1) (tn (rS g 34 109)))))) g
  | _ => False
theorem wf_X1_columnOf : sm_wf lay (yX1_columnOf, cX1_columnOf, 3, (some .int)) 2 false sp_X1_columnOf := by
  intro as g K h
  simp only [sp_X1_columnOf] at h
  split at h
  · exact ⟨Nat.le_of_ble_eq_true rfl, by simp, rfl, fun _ => by obtain rfl := h.1; exact ⟨34, _, 1, [37, 38, 39, 40, 41, 42, 43, 44, 1, 1, 1], TX1, 11, rfl, rfl, rfl⟩⟩
  · exact h.elim
set_option maxHeartbeats 4000000 in
set_option maxRecDepth 100000 in
theorem b_X1_columnOf : sm_body lay NX1_columnOf 3 0 (sm_cl []) sp_X1_columnOf := by
  intro K J S hW as g hs
  have hn := n_X1_columnOf
  have hf := fd_all
  have ha := ar_all
  generalize NX1_columnOf = N at hn hW
  generalize lay = L at hf ha hW
  obtain ⟨hS, hR⟩ := hW
  simp only [sp_X1_columnOf] at hs
  split at hs
  case h_2 => exact hs.elim
  simp only [e_args, sm_pad, List.length_cons, List.length_nil, Nat.reduceAdd, Nat.reduceSub, List.replicate_succ, List.replicate_zero, List.cons_append, List.nil_append]
  rename_i p i
  obtain ⟨rfl, ⟨n, hn20, hc⟩, hi1, hi2, hs⟩ := hs
  rw [hc, tn_nI (by omega)] at hs
  have hii : (i + nI 1).toInt = i.toInt + 1 := by
    rw [Int32.toInt_add, nI_t (by omega), Int.bmod_eq_of_le (by omega) (by omega)]; rfl
  have loop : ∀ m j, m = n - j → j ≤ n → (∀ u, u < j → ((rA g 41 (u + 1)).toInt == i.toInt + 1) = false) → J 2 [some (.ref 34), some (.int i), some (.int (nI (j + 1)))] [] g := by
    intro m
    induction m with
    | zero =>
      intro j hm hj hu
      obtain rfl : j = n := by omega
      have hs : K (some (.int (sI 0))) g := by rw [ffst_none hu] at hs; exact hs
      apply hR 60
      simp (maxSteps := 10000000) (disch := omega) only [hS, hn, sm_eqs, hf, ha, sm_b0, Int.reduceToNat, ↓reduceIte, Nat.reduceEqDiff, true_and, and_true, List.length_nil, List.length_cons, Nat.reduceAdd, Nat.reduceLeDiff, Nat.zero_le, false_implies, true_implies, not_true_eq_false, not_false_eq_true, implies_true, Nat.reduceSub, Nat.reduceMul, Nat.reduceDiv, reduceCtorEq, tn_clamp, nI_t, tn_nI, nI_add, pk_mul, rS_gS, rS_gA, rS_gL, rA_gS, rA_gA, rA_gL, rL_gS, rL_gA, rL_gL, and_self, and_false, false_and, if_true, if_false, true_or, or_true, or_false, false_or, sm_in, eqI, sI_s, Int32.toInt_zero, Int.natCast_zero, Int.natCast_one, Int.cast_ofNat_Int, Int.reduceEq, Int.reduceLT, Int.reduceLE, Int.reduceNeg, Int.reduceNe, ne_eq, n_up, g_up, e_cat, fr_A, fr_O, fr_P, fr_L, hc]
      clear hn hf ha hS hR
      grind
    | succ m ih =>
      intro j hm hj hu
      by_cases h : (rA g 41 (j + 1)).toInt = i.toInt + 1
      · have hs : K (some (.int (nI j))) g := by rw [ffst_some (by rw [h]; simp) hu (by omega)] at hs; exact hs
        apply hR 60
        simp (maxSteps := 10000000) (disch := omega) only [hS, hn, sm_eqs, hf, ha, sm_b0, Int.reduceToNat, ↓reduceIte, Nat.reduceEqDiff, true_and, and_true, List.length_nil, List.length_cons, Nat.reduceAdd, Nat.reduceLeDiff, Nat.zero_le, false_implies, true_implies, not_true_eq_false, not_false_eq_true, implies_true, Nat.reduceSub, Nat.reduceMul, Nat.reduceDiv, reduceCtorEq, tn_clamp, nI_t, tn_nI, nI_add, pk_mul, rS_gS, rS_gA, rS_gL, rA_gS, rA_gA, rA_gL, rL_gS, rL_gA, rL_gL, and_self, and_false, false_and, if_true, if_false, true_or, or_true, or_false, false_or, sm_in, eqI, sI_s, Int32.toInt_zero, Int.natCast_zero, Int.natCast_one, Int.cast_ofNat_Int, Int.reduceEq, Int.reduceLT, Int.reduceLE, Int.reduceNeg, Int.reduceNe, ne_eq, n_up, g_up, e_cat, fr_A, fr_O, fr_P, fr_L, hc, hii]
        clear ih
        have e : nI (j + 1) - nI 1 = nI j := by rw [pk_sub (by omega)]; rfl
        clear hn hf ha hS hR
        grind
      · have ih := ih (j + 1) (by omega) (by omega) (fun u hu2 => by
          by_cases e : u = j
          · subst e; simpa using h
          · exact hu u (by omega))
        clear hs
        apply hR 60
        simp (maxSteps := 10000000) (disch := omega) only [hS, hn, sm_eqs, hf, ha, sm_b0, Int.reduceToNat, ↓reduceIte, Nat.reduceEqDiff, true_and, and_true, List.length_nil, List.length_cons, Nat.reduceAdd, Nat.reduceLeDiff, Nat.zero_le, false_implies, true_implies, not_true_eq_false, not_false_eq_true, implies_true, Nat.reduceSub, Nat.reduceMul, Nat.reduceDiv, reduceCtorEq, tn_clamp, nI_t, tn_nI, nI_add, pk_mul, rS_gS, rS_gA, rS_gL, rA_gS, rA_gA, rA_gL, rL_gS, rL_gA, rL_gL, and_self, and_false, false_and, if_true, if_false, true_or, or_true, or_false, false_or, sm_in, eqI, sI_s, Int32.toInt_zero, Int.natCast_zero, Int.natCast_one, Int.cast_ofNat_Int, Int.reduceEq, Int.reduceLT, Int.reduceLE, Int.reduceNeg, Int.reduceNe, ne_eq, n_up, g_up, e_cat, fr_A, fr_O, fr_P, fr_L, hc, hii]
        clear hn hf ha hS hR
        grind
  apply hR 40
  simp (maxSteps := 10000000) (disch := omega) only [hS, hn, sm_eqs, hf, ha, sm_b0, Int.reduceToNat, ↓reduceIte, Nat.reduceEqDiff, true_and, and_true, List.length_nil, List.length_cons, Nat.reduceAdd, Nat.reduceLeDiff, Nat.zero_le, false_implies, true_implies, not_true_eq_false, not_false_eq_true, implies_true, Nat.reduceSub, Nat.reduceMul, Nat.reduceDiv, reduceCtorEq, tn_clamp, nI_t, tn_nI, nI_add, pk_mul, rS_gS, rS_gA, rS_gL, rA_gS, rA_gA, rA_gL, rL_gS, rL_gA, rL_gL, and_self, and_false, false_and, if_true, if_false, true_or, or_true, or_false, false_or, sm_in, eqI, sI_s, Int32.toInt_zero, Int.natCast_zero, Int.natCast_one, Int.cast_ofNat_Int, Int.reduceEq, Int.reduceLT, Int.reduceLE, Int.reduceNeg, Int.reduceNe, ne_eq, n_up, g_up, e_cat, fr_A, fr_O, fr_P, fr_L]
  exact loop _ 0 rfl (Nat.zero_le _) (fun u h => by omega)
theorem ok_X1_columnOf (l : Launch) : sm_spok l lay sm_mt 1 24 sp_X1_columnOf := Or.inr (Or.inr (Or.inr ⟨by decide, by decide, by
  rw [mt_24]
  exact sm_method (T := TX1_) v_cok v_lok v_ka v_tok_X1 mok_X1_columnOf rfl (by unfold sm_rk; simp) wf_X1_columnOf (fun _ h => absurd h List.not_mem_nil) b_X1_columnOf⟩))
