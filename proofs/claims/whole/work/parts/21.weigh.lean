/-! What things are worth. -/
def sp_X4_weigh : sm_SP := fun as g K => match as with
  | [.ref p, .int t] => p = 31 ∧ zQ g ∧ zT g ∧ sm_in t 60 ∧ (∀ f : Nat → Int32, (∀ q, q < 16 → f q = woC g (tn t) q) → K none (gA g 32 f))
  | _ => False
theorem wf_X4_weigh : sm_wf lay (yX4_weigh, cX4_weigh, 5, none) 2 false sp_X4_weigh := by
  intro as g K h
  simp only [sp_X4_weigh] at h
  split at h
  · exact ⟨Nat.le_of_ble_eq_true rfl, by simp, rfl, fun _ => by obtain rfl := h.1; exact ⟨31, _, 4, [3, 8, 11, 17, 34], TX4, 5, rfl, rfl, rfl⟩⟩
  · exact h.elim
set_option maxHeartbeats 4000000 in
set_option maxRecDepth 100000 in
theorem b_X4_weigh : sm_body lay NX4_weigh 5 4 (sm_cl [(85, sp_X7_answerOf), (60, sp_X4_countHolders), (67, sp_X5_weightOf)]) sp_X4_weigh := by
  intro K J S hW as g hs
  have hn := n_X4_weigh
  have hf := fd_all
  have ha := ar_all
  generalize NX4_weigh = N at hn hW
  generalize lay = L at hf ha hW
  obtain ⟨hS, hR⟩ := hW
  simp only [sp_X4_weigh] at hs
  split at hs
  case h_2 => exact hs.elim
  simp only [e_args, sm_pad, List.length_cons, List.length_nil, Nat.reduceAdd, Nat.reduceSub, List.replicate_succ, List.replicate_zero, List.cons_append, List.nil_append]
  rename_i p t
  obtain ⟨rfl, zq, z, ht, hs⟩ := hs
  have z3 := z.2
  have z2 := zq.2
  obtain ⟨t, ht2, rfl⟩ := sm_in_nI ht
  simp (disch := omega) only [tn_nI] at hs
  have loop : ∀ m q, m = 16 - q → q ≤ 16 → ∀ f : Nat → Int32, (∀ u, u < q → f u = woC g t u) → ∀ v3 v4, J 2 [some (.ref 31), some (.int (nI t)), some (.int (nI q)), v3, v4] [] (gA g 32 f) := by
    intro m
    induction m with
    | zero =>
      intro q hm hq f hf2 v3 v4
      obtain rfl : q = 16 := by omega
      have hs := hs f hf2
      apply hR 60
      simp (maxSteps := 10000000) (disch := omega) only [hS, hn, sm_eqs, hf, ha, sm_b0, Int.reduceToNat, ↓reduceIte, Nat.reduceEqDiff, true_and, and_true, List.length_nil, List.length_cons, Nat.reduceAdd, Nat.reduceLeDiff, Nat.zero_le, false_implies, true_implies, not_true_eq_false, not_false_eq_true, implies_true, Nat.reduceSub, Nat.reduceMul, reduceCtorEq, tn_clamp, nI_t, tn_nI, nI_add, pk_mul, rS_gS, rS_gA, rS_gL, rA_gS, rA_gA, rA_gL, rL_gS, rL_gA, rL_gL, and_self, and_false, false_and, if_true, if_false, true_or, or_true, or_false, false_or, sm_in, eqI, sI_s, Int32.toInt_zero, Int.natCast_zero, Int.natCast_one, Int.cast_ofNat_Int, Int.reduceEq, Int.reduceLT, Int.reduceLE, Int.reduceNeg, Int.reduceNe, ne_eq, n_up, g_up, e_cat, fr_A, fr_S, fr_L, sp_X7_answerOf, sp_X4_countHolders, sp_X5_weightOf]
      exact hs
    | succ m ih =>
      intro q hm hq f hf2 v3 v4
      have ih := ih (q + 1) (by omega) (by omega) (upd f q (woC g t q)) (fun u hu => by
        by_cases e : u = q
        · subst e; exact pk_us
        · rw [pk_un e]; exact hf2 u (by omega))
      have hb := hoC_le g t q (anC g 9 t q) (nT g)
      clear hs
      apply hR 60
      simp (maxSteps := 10000000) (disch := omega) only [hS, hn, sm_eqs, hf, ha, sm_b0, Int.reduceToNat, ↓reduceIte, Nat.reduceEqDiff, true_and, and_true, List.length_nil, List.length_cons, Nat.reduceAdd, Nat.reduceLeDiff, Nat.zero_le, false_implies, true_implies, not_true_eq_false, not_false_eq_true, implies_true, Nat.reduceSub, Nat.reduceMul, reduceCtorEq, tn_clamp, nI_t, tn_nI, nI_add, pk_mul, rS_gS, rS_gA, rS_gL, rA_gS, rA_gA, rA_gL, rL_gS, rL_gA, rL_gL, and_self, and_false, false_and, if_true, if_false, true_or, or_true, or_false, false_or, sm_in, eqI, sI_s, Int32.toInt_zero, Int.natCast_zero, Int.natCast_one, Int.cast_ofNat_Int, Int.reduceEq, Int.reduceLT, Int.reduceLE, Int.reduceNeg, Int.reduceNe, ne_eq, n_up, g_up, e_cat, fr_A, fr_S, fr_L, sp_X7_answerOf, sp_X4_countHolders, sp_X5_weightOf, aC_nI, zq, z]
      done
  have h0 := loop _ 0 rfl (Nat.zero_le _) (rA g 32) (fun u h => by omega) none none
  rw [gA_self] at h0
  apply hR 40
  simp (maxSteps := 10000000) (disch := omega) only [hS, hn, sm_eqs, hf, ha, sm_b0, Int.reduceToNat, ↓reduceIte, Nat.reduceEqDiff, true_and, and_true, List.length_nil, List.length_cons, Nat.reduceAdd, Nat.reduceLeDiff, Nat.zero_le, false_implies, true_implies, not_true_eq_false, not_false_eq_true, implies_true, Nat.reduceSub, Nat.reduceMul, reduceCtorEq, tn_clamp, nI_t, tn_nI, nI_add, pk_mul, rS_gS, rS_gA, rS_gL, rA_gS, rA_gA, rA_gL, rL_gS, rL_gA, rL_gL, and_self, and_false, false_and, if_true, if_false, true_or, or_true, or_false, false_or, sm_in, eqI, sI_s, Int32.toInt_zero, Int.natCast_zero, Int.natCast_one, Int.cast_ofNat_Int, Int.reduceEq, Int.reduceLT, Int.reduceLE, Int.reduceNeg, Int.reduceNe, ne_eq, n_up, g_up, e_cat, fr_A, fr_S, fr_L, sp_X7_answerOf, sp_X4_countHolders, sp_X5_weightOf]
  exact h0
theorem ok_X4_weigh (l : Launch) : sm_spok l lay sm_mt 4 59 sp_X4_weigh := Or.inr (Or.inr (Or.inr ⟨by decide, by decide, by
  rw [mt_59]
  exact sm_method (T := TX4_) v_cok v_lok v_ka v_tok_X4 mok_X4_weigh rfl (by unfold sm_rk; simp) wf_X4_weigh (List.forall_mem_cons.mpr ⟨sm_spok_up (Nat.le_of_ble_eq_true rfl : 2 ≤ 3) (ok_X7_answerOf l), List.forall_mem_cons.mpr ⟨sm_spok_up (Nat.le_of_ble_eq_true rfl : 3 ≤ 3) (ok_X4_countHolders l), List.forall_mem_cons.mpr ⟨sm_spok_up (Nat.le_of_ble_eq_true rfl : 2 ≤ 3) (ok_X5_weightOf l), fun _ h => absurd h List.not_mem_nil⟩⟩⟩) b_X4_weigh⟩))
