theorem pow21 (d k : Nat) : lN (d * 21 ^ k) * lN 21 = lN (d * 21 ^ (k + 1)) := by rw [lN_mul, Nat.pow_succ, Nat.mul_assoc]
def sp_X1_allow : sm_SP := fun as g K => match as with
  | [.ref p, .int r, .int c, .int v] => p = 34 ∧ ∃ R C i j, R ≤ 10 ∧ C ≤ 20 ∧ rS g 34 108 = nI R ∧ rS g 34 109 = nI C ∧ i < R ∧ j < C ∧ r = nI i ∧ c = nI j ∧
      K none (gL (gA g 36 (upd (rA g 36) ((i + 1) * 31 + j + 1) v)) 35 (vp_updL (rL g 35) ((i + 1) * 31 + j + 1) (-(v.toInt64 * lN 16679880978201 + lN ((20 - j) * 21 ^ (9 - i))))))
  | _ => False
theorem wf_X1_allow : sm_wf lay (yX1_allow, cX1_allow, 7, none) 4 false sp_X1_allow := by
  intro as g K h
  simp only [sp_X1_allow] at h
  split at h
  · exact ⟨Nat.le_of_ble_eq_true rfl, by simp, rfl, fun _ => by obtain rfl := h.1; exact ⟨34, _, 1, [37, 38, 39, 40, 41, 42, 43, 44, 1, 1, 1], TX1, 11, rfl, rfl, rfl⟩⟩
  · exact h.elim
set_option maxHeartbeats 4000000 in
set_option maxRecDepth 100000 in
theorem b_X1_allow : sm_body lay NX1_allow 7 4 (sm_cl []) sp_X1_allow := by
  intro K J S hW as g hs
  have hn := n_X1_allow
  have hf := fd_all
  have ha := ar_all
  generalize NX1_allow = N at hn hW
  generalize lay = L at hf ha hW
  obtain ⟨hS, hR⟩ := hW
  simp only [sp_X1_allow] at hs
  split at hs
  case h_2 => exact hs.elim
  simp only [e_args, sm_pad, List.length_cons, List.length_nil, Nat.reduceAdd, Nat.reduceSub, List.replicate_succ, List.replicate_zero, List.cons_append, List.nil_append]
  rename_i p r c v
  obtain ⟨rfl, R, C, i, j, hR10, hC20, eR, eC, hi, hj, rfl, rfl, hs⟩ := hs
  have e20 : (nI 20 - nI j).toInt64 = lN (20 - j) := by rw [pk_sub (by omega), nI_l (by omega)]
  have loop : ∀ m k, m = 10 - k → i + 1 ≤ k → k ≤ 10 → J 37 [some (.ref 34), some (.int (nI i)), some (.int (nI j)), some (.int v), some (.long (lN ((20 - j) * 21 ^ (k - (i + 1))))), none, some (.int (nI k))] [] g := by
    intro m
    induction m with
    | zero =>
      intro k hm h1 h2
      obtain rfl : k = 10 := by omega
      have e : 10 - (i + 1) = 9 - i := by omega
      rw [e]
      apply hR 60
      simp (maxSteps := 10000000) (disch := omega) only [hS, hn, sm_eqs, hf, ha, sm_b0, Int.reduceToNat, ↓reduceIte, Nat.reduceEqDiff, true_and, and_true, List.length_nil, List.length_cons, Nat.reduceAdd, Nat.reduceLeDiff, Nat.zero_le, false_implies, true_implies, not_true_eq_false, not_false_eq_true, implies_true, Nat.reduceSub, Nat.reduceMul, Nat.reduceDiv, reduceCtorEq, tn_clamp, nI_t, tn_nI, nI_add, pk_mul, rS_gS, rS_gA, rS_gL, rA_gS, rA_gA, rA_gL, rL_gS, rL_gA, rL_gL, and_self, and_false, false_and, if_true, if_false, true_or, or_true, or_false, false_or, sm_in, eqI, sI_s, Int32.toInt_zero, Int.natCast_zero, Int.natCast_one, Int.cast_ofNat_Int, Int.reduceEq, Int.reduceLT, Int.reduceLE, Int.reduceNeg, Int.reduceNe, ne_eq, n_up, g_up, e_cat, fr_A, fr_O, fr_P, fr_L]
      clear hn hf ha hS hR
      exact ⟨by omega, by omega, hs⟩
    | succ m ih =>
      intro k hm h1 h2
      have ih := ih (k + 1) (by omega) (by omega) (by omega)
      have e := pow21 (20 - j) (k - (i + 1))
      rw [show k - (i + 1) + 1 = k + 1 - (i + 1) by omega] at e
      clear hs
      apply hR 60
      simp (maxSteps := 10000000) (disch := omega) only [hS, hn, sm_eqs, hf, ha, sm_b0, Int.reduceToNat, ↓reduceIte, Nat.reduceEqDiff, true_and, and_true, List.length_nil, List.length_cons, Nat.reduceAdd, Nat.reduceLeDiff, Nat.zero_le, false_implies, true_implies, not_true_eq_false, not_false_eq_true, implies_true, Nat.reduceSub, Nat.reduceMul, Nat.reduceDiv, reduceCtorEq, tn_clamp, nI_t, tn_nI, nI_add, pk_mul, rS_gS, rS_gA, rS_gL, rA_gS, rA_gA, rA_gL, rL_gS, rL_gA, rL_gL, and_self, and_false, false_and, if_true, if_false, true_or, or_true, or_false, false_or, sm_in, eqI, sI_s, Int32.toInt_zero, Int.natCast_zero, Int.natCast_one, Int.cast_ofNat_Int, Int.reduceEq, Int.reduceLT, Int.reduceLE, Int.reduceNeg, Int.reduceNe, ne_eq, n_up, g_up, e_cat, fr_A, fr_O, fr_P, fr_L, e]
      clear hn hf ha hS hR
      exact ⟨fun _ => ih, fun h => absurd h (by omega)⟩
  have h0 := loop _ (i + 1) rfl (Nat.le_refl _) (by omega)
  rw [show i + 1 - (i + 1) = 0 by omega, Nat.pow_zero, Nat.mul_one] at h0
  clear hs loop
  apply hR 60
  simp (maxSteps := 10000000) (disch := omega) only [hS, hn, sm_eqs, hf, ha, sm_b0, Int.reduceToNat, ↓reduceIte, Nat.reduceEqDiff, true_and, and_true, List.length_nil, List.length_cons, Nat.reduceAdd, Nat.reduceLeDiff, Nat.zero_le, false_implies, true_implies, not_true_eq_false, not_false_eq_true, implies_true, Nat.reduceSub, Nat.reduceMul, Nat.reduceDiv, reduceCtorEq, tn_clamp, nI_t, tn_nI, nI_add, pk_mul, rS_gS, rS_gA, rS_gL, rA_gS, rA_gA, rA_gL, rL_gS, rL_gA, rL_gL, and_self, and_false, false_and, if_true, if_false, true_or, or_true, or_false, false_or, sm_in, eqI, sI_s, Int32.toInt_zero, Int.natCast_zero, Int.natCast_one, Int.cast_ofNat_Int, Int.reduceEq, Int.reduceLT, Int.reduceLE, Int.reduceNeg, Int.reduceNe, ne_eq, n_up, g_up, e_cat, fr_A, fr_O, fr_P, fr_L, eR, eC, e20]
  clear hn hf ha hS hR
  grind
theorem ok_X1_allow (l : Launch) : sm_spok l lay sm_mt 1 16 sp_X1_allow := Or.inr (Or.inr (Or.inr ⟨by decide, by decide, by
  rw [mt_16]
  exact sm_method (T := TX1_) v_cok v_lok v_ka v_tok_X1 mok_X1_allow rfl (by unfold sm_rk; simp) wf_X1_allow (fun _ h => absurd h List.not_mem_nil) b_X1_allow⟩))
