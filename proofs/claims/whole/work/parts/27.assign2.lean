/-! The assignment: start, allow. -/
/-- the column that a row is given -/
def coC (g : sm_G) (i : Nat) : Option Nat := ffst (fun j => (rA g 41 (j + 1)).toInt == (i : Int) + 1) (tn (rS g 34 109))
def sp_X1_gainOf : sm_SP := fun as g K => match as with
  | [.ref p, .int i] => p = 34 ∧ (∃ n, n ≤ 20 ∧ rS g 34 109 = nI n) ∧ (∃ n, n ≤ 10 ∧ rS g 34 108 = nI n) ∧ 0 ≤ i.toInt ∧ i.toInt < (rS g 34 108).toInt ∧
      (∀ j, coC g (tn i) = some j → K (some (.int (rA g 36 ((tn i + 1) * 31 + j + 1)))) g) ∧ (coC g (tn i) = none → K (some (.int (nI 0))) g)
  | _ => False
theorem wf_X1_gainOf : sm_wf lay (yX1_gainOf, cX1_gainOf, 3, (some .int)) 2 false sp_X1_gainOf := by
  intro as g K h
  simp only [sp_X1_gainOf] at h
  split at h
  · exact ⟨Nat.le_of_ble_eq_true rfl, by simp, rfl, fun _ => by obtain rfl := h.1; exact ⟨34, _, 1, [37, 38, 39, 40, 41, 42, 43, 44, 1, 1, 1], TX1, 11, rfl, rfl, rfl⟩⟩
  · exact h.elim
set_option maxHeartbeats 4000000 in
set_option maxRecDepth 100000 in
theorem b_X1_gainOf : sm_body lay NX1_gainOf 3 0 (sm_cl [(24, sp_X1_columnOf)]) sp_X1_gainOf := by
  intro K J S hW as g hs
  have hn := n_X1_gainOf
  have hf := fd_all
  have ha := ar_all
  generalize NX1_gainOf = N at hn hW
  generalize lay = L at hf ha hW
  obtain ⟨hS, hR⟩ := hW
  simp only [sp_X1_gainOf] at hs
  split at hs
  case h_2 => exact hs.elim
  simp only [e_args, sm_pad, List.length_cons, List.length_nil, Nat.reduceAdd, Nat.reduceSub, List.replicate_succ, List.replicate_zero, List.cons_append, List.nil_append]
  rename_i p i
  obtain ⟨rfl, ⟨n, hn20, hc⟩, ⟨k, hk10, hk⟩, hi1, hi2, h1, h2⟩ := hs
  rw [hk, nI_t (by omega)] at hi2
  obtain ⟨i, hi, rfl⟩ := ok_nI ⟨hi1, hi2⟩
  simp (disch := omega) only [tn_nI] at h1 h2
  have e : ffst (fun j => (rA g 41 (j + 1)).toInt == (i : Int) + 1) n = coC g i := by unfold coC; rw [hc, tn_nI (by omega)]
  have hx : ∃ n, n ≤ 20 ∧ nI n = nI n := ⟨n, hn20, rfl⟩
  cases h : coC g i with
  | none =>
    have h2 := h2 h
    rw [h] at e
    apply hR 60
    simp (maxSteps := 10000000) (disch := omega) only [hS, hn, sm_eqs, hf, ha, sm_b0, Int.reduceToNat, ↓reduceIte, Nat.reduceEqDiff, true_and, and_true, List.length_nil, List.length_cons, Nat.reduceAdd, Nat.reduceLeDiff, Nat.zero_le, false_implies, true_implies, not_true_eq_false, not_false_eq_true, implies_true, Nat.reduceSub, Nat.reduceMul, Nat.reduceDiv, reduceCtorEq, tn_clamp, nI_t, tn_nI, nI_add, pk_mul, rS_gS, rS_gA, rS_gL, rA_gS, rA_gA, rA_gL, rL_gS, rL_gA, rL_gL, and_self, and_false, false_and, if_true, if_false, true_or, or_true, or_false, false_or, sm_in, eqI, sI_s, Int32.toInt_zero, Int.natCast_zero, Int.natCast_one, Int.cast_ofNat_Int, Int.reduceEq, Int.reduceLT, Int.reduceLE, Int.reduceNeg, Int.reduceNe, ne_eq, n_up, g_up, e_cat, fr_A, fr_O, fr_P, fr_L, sp_X1_columnOf, hc, hk, e, oI]
    exact ⟨⟨n, hn20, (nI_t (by omega)).symm⟩, by omega, by omega, fun _ => h2, fun _ => ⟨fun _ => h2, fun _ => h2⟩⟩
  | some j =>
    have h1 := h1 j h
    rw [h] at e
    have hj := (ffst_lt e).1
    apply hR 60
    simp (maxSteps := 10000000) (disch := omega) only [hS, hn, sm_eqs, hf, ha, sm_b0, Int.reduceToNat, ↓reduceIte, Nat.reduceEqDiff, true_and, and_true, List.length_nil, List.length_cons, Nat.reduceAdd, Nat.reduceLeDiff, Nat.zero_le, false_implies, true_implies, not_true_eq_false, not_false_eq_true, implies_true, Nat.reduceSub, Nat.reduceMul, Nat.reduceDiv, reduceCtorEq, tn_clamp, nI_t, tn_nI, nI_add, pk_mul, rS_gS, rS_gA, rS_gL, rA_gS, rA_gA, rA_gL, rL_gS, rL_gA, rL_gL, and_self, and_false, false_and, if_true, if_false, true_or, or_true, or_false, false_or, sm_in, eqI, sI_s, Int32.toInt_zero, Int.natCast_zero, Int.natCast_one, Int.cast_ofNat_Int, Int.reduceEq, Int.reduceLT, Int.reduceLE, Int.reduceNeg, Int.reduceNe, ne_eq, n_up, g_up, e_cat, fr_A, fr_O, fr_P, fr_L, sp_X1_columnOf, hc, hk, e, oI]
    exact ⟨⟨n, hn20, (nI_t (by omega)).symm⟩, by omega, by omega, fun h9 => absurd h9 (by omega), fun _ => ⟨fun _ => ⟨fun h9 => absurd h9 (by omega), fun _ => ⟨fun _ => ⟨by omega, h1⟩, fun h9 => absurd h9 (by omega)⟩⟩, fun h9 => absurd h9 (by omega)⟩⟩
theorem ok_X1_gainOf (l : Launch) : sm_spok l lay sm_mt 2 25 sp_X1_gainOf := Or.inr (Or.inr (Or.inr ⟨by decide, by decide, by
  rw [mt_25]
  exact sm_method (T := TX1_) v_cok v_lok v_ka v_tok_X1 mok_X1_gainOf rfl (by unfold sm_rk; simp) wf_X1_gainOf (List.forall_mem_cons.mpr ⟨sm_spok_up (Nat.le_of_ble_eq_true rfl : 1 ≤ 1) (ok_X1_columnOf l), fun _ h => absurd h List.not_mem_nil⟩) b_X1_gainOf⟩))
