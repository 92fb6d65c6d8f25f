/-! Asking. -/
/-- things that no question parts -/
def alk (g : sm_G) (a b : Nat) : Prop := ∀ q, q < nQ g → (anC g 9 a q).toInt = (anC g 9 b q).toInt
def sp_X0_isAlike : sm_SP := fun as g K => match as with
  | [.ref p, .int a, .int b] => p = 46 ∧ zQ g ∧ sm_in a 60 ∧ sm_in b 60 ∧ (alk g (tn a) (tn b) → K (some (.int (nI 1))) g) ∧ (¬ alk g (tn a) (tn b) → K (some (.int (nI 0))) g)
  | _ => False
theorem wf_X0_isAlike : sm_wf lay (yX0_isAlike, cX0_isAlike, 4, (some .boolean)) 3 false sp_X0_isAlike := by
  intro as g K h
  simp only [sp_X0_isAlike] at h
  split at h
  · exact ⟨Nat.le_of_ble_eq_true rfl, by simp, rfl, fun _ => by obtain rfl := h.1; exact ⟨46, _, 0, [3, 11, 49, 50, 51, 1], TX0, 6, rfl, rfl, rfl⟩⟩
  · exact h.elim
set_option maxHeartbeats 4000000 in
set_option maxRecDepth 100000 in
theorem b_X0_isAlike : sm_body lay NX0_isAlike 4 1 (sm_cl [(65, sp_X5_size), (86, sp_X7_answerOf)]) sp_X0_isAlike := by
  intro K J S hW as g hs
  have hn := n_X0_isAlike
  have hf := fd_all
  have ha := ar_all
  generalize NX0_isAlike = N at hn hW
  generalize lay = L at hf ha hW
  obtain ⟨hS, hR⟩ := hW
  simp only [sp_X0_isAlike] at hs
  split at hs
  case h_2 => exact hs.elim
  simp only [e_args, sm_pad, List.length_cons, List.length_nil, Nat.reduceAdd, Nat.reduceSub, List.replicate_succ, List.replicate_zero, List.cons_append, List.nil_append]
  rename_i p a b
  obtain ⟨rfl, z, ha1, hb1, h1, h2⟩ := hs
  have z2 := z.2
  obtain ⟨a, ha2, rfl⟩ := sm_in_nI ha1
  obtain ⟨b, hb2, rfl⟩ := sm_in_nI hb1
  simp (disch := omega) only [tn_nI] at h1 h2
  have loop : ∀ m q, m = nQ g - q → q ≤ nQ g → (∀ u, u < q → (anC g 9 a u).toInt = (anC g 9 b u).toInt) → J 2 [some (.ref 46), some (.int (nI a)), some (.int (nI b)), some (.int (nI q))] [] g := by
    intro m
    induction m with
    | zero =>
      intro q hm hq hu
      obtain rfl : q = nQ g := by omega
      have h1 := h1 hu
      apply hR 60
      simp (maxSteps := 10000000) (disch := omega) only [hS, hn, sm_eqs, hf, ha, sm_b0, Int.reduceToNat, ↓reduceIte, Nat.reduceEqDiff, true_and, and_true, List.length_nil, List.length_cons, Nat.reduceAdd, Nat.reduceLeDiff, Nat.zero_le, false_implies, true_implies, not_true_eq_false, not_false_eq_true, implies_true, Nat.reduceSub, Nat.reduceMul, Nat.reduceDiv, reduceCtorEq, tn_clamp, nI_t, tn_nI, nI_add, pk_mul, rS_gS, rS_gA, rS_gL, rA_gS, rA_gA, rA_gL, rL_gS, rL_gA, rL_gL, and_self, and_false, false_and, if_true, if_false, true_or, or_true, or_false, false_or, sm_in, eqI, sI_s, Int32.toInt_zero, Int.natCast_zero, Int.natCast_one, Int.cast_ofNat_Int, Int.reduceEq, Int.reduceLT, Int.reduceLE, Int.reduceNeg, Int.reduceNe, ne_eq, n_up, g_up, e_cat, fr_A, fr_O, fr_P, fr_L, sp_X5_size, sp_X7_answerOf, z]
      exact ⟨fun h => absurd h (by omega), fun _ => h1⟩
    | succ m ih =>
      intro q hm hq hu
      by_cases h : (anC g 9 a q).toInt = (anC g 9 b q).toInt
      · have ih := ih (q + 1) (by omega) (by omega) (fun u hu2 => by
          by_cases e : u = q
          · rw [e]; exact h
          · exact hu u (by omega))
        apply hR 60
        simp (maxSteps := 10000000) (disch := omega) only [hS, hn, sm_eqs, hf, ha, sm_b0, Int.reduceToNat, ↓reduceIte, Nat.reduceEqDiff, true_and, and_true, List.length_nil, List.length_cons, Nat.reduceAdd, Nat.reduceLeDiff, Nat.zero_le, false_implies, true_implies, not_true_eq_false, not_false_eq_true, implies_true, Nat.reduceSub, Nat.reduceMul, Nat.reduceDiv, reduceCtorEq, tn_clamp, nI_t, tn_nI, nI_add, pk_mul, rS_gS, rS_gA, rS_gL, rA_gS, rA_gA, rA_gL, rL_gS, rL_gA, rL_gL, and_self, and_false, false_and, if_true, if_false, true_or, or_true, or_false, false_or, sm_in, eqI, sI_s, Int32.toInt_zero, Int.natCast_zero, Int.natCast_one, Int.cast_ofNat_Int, Int.reduceEq, Int.reduceLT, Int.reduceLE, Int.reduceNeg, Int.reduceNe, ne_eq, n_up, g_up, e_cat, fr_A, fr_O, fr_P, fr_L, sp_X5_size, sp_X7_answerOf, z, aC_nI, h]
        exact ⟨fun _ => ih, fun h => absurd h (by omega)⟩
      · have h2 := h2 (fun hal => h (hal q (by omega)))
        apply hR 60
        simp (maxSteps := 10000000) (disch := omega) only [hS, hn, sm_eqs, hf, ha, sm_b0, Int.reduceToNat, ↓reduceIte, Nat.reduceEqDiff, true_and, and_true, List.length_nil, List.length_cons, Nat.reduceAdd, Nat.reduceLeDiff, Nat.zero_le, false_implies, true_implies, not_true_eq_false, not_false_eq_true, implies_true, Nat.reduceSub, Nat.reduceMul, Nat.reduceDiv, reduceCtorEq, tn_clamp, nI_t, tn_nI, nI_add, pk_mul, rS_gS, rS_gA, rS_gL, rA_gS, rA_gA, rA_gL, rL_gS, rL_gA, rL_gL, and_self, and_false, false_and, if_true, if_false, true_or, or_true, or_false, false_or, sm_in, eqI, sI_s, Int32.toInt_zero, Int.natCast_zero, Int.natCast_one, Int.cast_ofNat_Int, Int.reduceEq, Int.reduceLT, Int.reduceLE, Int.reduceNeg, Int.reduceNe, ne_eq, n_up, g_up, e_cat, fr_A, fr_O, fr_P, fr_L, sp_X5_size, sp_X7_answerOf, z, aC_nI, h]
        exact ⟨fun _ => h2, fun h => absurd h (by omega)⟩
  apply hR 40
  simp (maxSteps := 10000000) (disch := omega) only [hS, hn, sm_eqs, hf, ha, sm_b0, Int.reduceToNat, ↓reduceIte, Nat.reduceEqDiff, true_and, and_true, List.length_nil, List.length_cons, Nat.reduceAdd, Nat.reduceLeDiff, Nat.zero_le, false_implies, true_implies, not_true_eq_false, not_false_eq_true, implies_true, Nat.reduceSub, Nat.reduceMul, Nat.reduceDiv, reduceCtorEq, tn_clamp, nI_t, tn_nI, nI_add, pk_mul, rS_gS, rS_gA, rS_gL, rA_gS, rA_gA, rA_gL, rL_gS, rL_gA, rL_gL, and_self, and_false, false_and, if_true, if_false, true_or, or_true, or_false, false_or, sm_in, eqI, sI_s, Int32.toInt_zero, Int.natCast_zero, Int.natCast_one, Int.cast_ofNat_Int, Int.reduceEq, Int.reduceLT, Int.reduceLE, Int.reduceNeg, Int.reduceNe, ne_eq, n_up, g_up, e_cat, fr_A, fr_O, fr_P, fr_L, sp_X5_size, sp_X7_answerOf]
  exact loop _ 0 rfl (Nat.zero_le _) (fun u h => by omega)
theorem ok_X0_isAlike (l : Launch) : sm_spok l lay sm_mt 3 2 sp_X0_isAlike := Or.inr (Or.inr (Or.inr ⟨by decide, by decide, by
  rw [mt_2]
  exact sm_method (T := TX0_) v_cok v_lok v_ka v_tok_X0 mok_X0_isAlike rfl (by unfold sm_rk; simp) wf_X0_isAlike (List.forall_mem_cons.mpr ⟨sm_spok_up (Nat.le_of_ble_eq_true rfl : 1 ≤ 2) (ok_X5_size l), List.forall_mem_cons.mpr ⟨sm_spok_up (Nat.le_of_ble_eq_true rfl : 2 ≤ 2) (ok_X7_answerOf l), fun _ h => absurd h List.not_mem_nil⟩⟩) b_X0_isAlike⟩))
/-- the answers that part things into classes -/
def fcl (g : sm_G) (s : Int64) (q t : Nat) : Prop := bitL s t = true ∧ ∀ u, u < t → bitL s u = true → (anC g 9 u q).toInt ≠ (anC g 9 t q).toInt
def sp_X0_isFirstOfClass : sm_SP := fun as g K => match as with
  | [.ref p, .long s, .int t, .int q] => p = 46 ∧ sm_in t 60 ∧ sm_in q 16 ∧ ((∀ u, u < tn t → bitL s u = true → (anC g 9 u (tn q)).toInt ≠ (anC g 9 (tn t) (tn q)).toInt) → K (some (.int (nI 1))) g) ∧ (¬ (∀ u, u < tn t → bitL s u = true → (anC g 9 u (tn q)).toInt ≠ (anC g 9 (tn t) (tn q)).toInt) → K (some (.int (nI 0))) g)
  | _ => False
theorem wf_X0_isFirstOfClass : sm_wf lay (yX0_isFirstOfClass, cX0_isFirstOfClass, 7, (some .boolean)) 4 false sp_X0_isFirstOfClass := by
  intro as g K h
  simp only [sp_X0_isFirstOfClass] at h
  split at h
  · exact ⟨Nat.le_of_ble_eq_true rfl, by simp, rfl, fun _ => by obtain rfl := h.1; exact ⟨46, _, 0, [3, 11, 49, 50, 51, 1], TX0, 6, rfl, rfl, rfl⟩⟩
  · exact h.elim
set_option maxHeartbeats 4000000 in
set_option maxRecDepth 100000 in
theorem b_X0_isFirstOfClass : sm_body lay NX0_isFirstOfClass 7 1 (sm_cl [(86, sp_X7_answerOf), (132, sp_X9_isIn)]) sp_X0_isFirstOfClass := by
  intro K J S hW as g hs
  have hn := n_X0_isFirstOfClass
  have hf := fd_all
  have ha := ar_all
  generalize NX0_isFirstOfClass = N at hn hW
  generalize lay = L at hf ha hW
  obtain ⟨hS, hR⟩ := hW
  simp only [sp_X0_isFirstOfClass] at hs
  split at hs
  case h_2 => exact hs.elim
  simp only [e_args, sm_pad, List.length_cons, List.length_nil, Nat.reduceAdd, Nat.reduceSub, List.replicate_succ, List.replicate_zero, List.cons_append, List.nil_append]
  rename_i p s t q
  obtain ⟨rfl, ht1, hq1, h1, h2⟩ := hs
  obtain ⟨t, ht2, rfl⟩ := sm_in_nI ht1
  obtain ⟨q, hq2, rfl⟩ := sm_in_nI hq1
  simp (disch := omega) only [tn_nI] at h1 h2
  have loop : ∀ m u, m = t - u → u ≤ t → (∀ v, v < u → bitL s v = true → (anC g 9 v q).toInt ≠ (anC g 9 t q).toInt) → J 15 [some (.ref 46), some (.long s), none, some (.int (nI t)), some (.int (nI q)), some (.int (anC g 9 t q)), some (.int (nI u))] [] g := by
    intro m
    induction m with
    | zero =>
      intro u hm hu hv
      obtain rfl : u = t := by omega
      have h1 := h1 hv
      apply hR 60
      simp (maxSteps := 10000000) (disch := omega) only [hS, hn, sm_eqs, hf, ha, sm_b0, Int.reduceToNat, ↓reduceIte, Nat.reduceEqDiff, true_and, and_true, List.length_nil, List.length_cons, Nat.reduceAdd, Nat.reduceLeDiff, Nat.zero_le, false_implies, true_implies, not_true_eq_false, not_false_eq_true, implies_true, Nat.reduceSub, Nat.reduceMul, Nat.reduceDiv, reduceCtorEq, tn_clamp, nI_t, tn_nI, nI_add, pk_mul, rS_gS, rS_gA, rS_gL, rA_gS, rA_gA, rA_gL, rL_gS, rL_gA, rL_gL, and_self, and_false, false_and, if_true, if_false, true_or, or_true, or_false, false_or, sm_in, eqI, sI_s, Int32.toInt_zero, Int.natCast_zero, Int.natCast_one, Int.cast_ofNat_Int, Int.reduceEq, Int.reduceLT, Int.reduceLE, Int.reduceNeg, Int.reduceNe, ne_eq, n_up, g_up, e_cat, fr_A, fr_O, fr_P, fr_L, sp_X7_answerOf, sp_X9_isIn]
      exact ⟨fun h => absurd h (by omega), fun _ => h1⟩
    | succ m ih =>
      intro u hm hu hv
      have h2 := fun h => h2 h
      have ih := fun (h : bitL s u = true → (anC g 9 u q).toInt ≠ (anC g 9 t q).toInt) => ih (u + 1) (by omega) (by omega) (fun v h3 => by
        by_cases e : v = u
        · rw [e]; exact h
        · exact hv v (by omega))
      cases hb : bitL s u with
      | false =>
        have ih := ih (fun h => by rw [hb] at h; cases h)
        apply hR 60
        simp (maxSteps := 10000000) (disch := omega) only [hS, hn, sm_eqs, hf, ha, sm_b0, Int.reduceToNat, ↓reduceIte, Nat.reduceEqDiff, true_and, and_true, List.length_nil, List.length_cons, Nat.reduceAdd, Nat.reduceLeDiff, Nat.zero_le, false_implies, true_implies, not_true_eq_false, not_false_eq_true, implies_true, Nat.reduceSub, Nat.reduceMul, Nat.reduceDiv, reduceCtorEq, tn_clamp, nI_t, tn_nI, nI_add, pk_mul, rS_gS, rS_gA, rS_gL, rA_gS, rA_gA, rA_gL, rL_gS, rL_gA, rL_gL, and_self, and_false, false_and, if_true, if_false, true_or, or_true, or_false, false_or, sm_in, eqI, sI_s, Int32.toInt_zero, Int.natCast_zero, Int.natCast_one, Int.cast_ofNat_Int, Int.reduceEq, Int.reduceLT, Int.reduceLE, Int.reduceNeg, Int.reduceNe, ne_eq, n_up, g_up, e_cat, fr_A, fr_O, fr_P, fr_L, sp_X7_answerOf, sp_X9_isIn, hb]
        exact ⟨fun _ => ⟨by omega, ih⟩, fun h => absurd h (by omega)⟩
      | true =>
        have e2 : (anC g 9 u q).toInt = (anC g 9 t q).toInt → K (some (.int (nI 0))) g := fun h => h2 (fun hh => hh u (by omega) hb h)
        have e1 := fun h => ih (fun _ => h)
        clear ih h2 hv h1
        apply hR 60
        simp (maxSteps := 10000000) (disch := omega) only [hS, hn, sm_eqs, hf, ha, sm_b0, Int.reduceToNat, ↓reduceIte, Nat.reduceEqDiff, true_and, and_true, List.length_nil, List.length_cons, Nat.reduceAdd, Nat.reduceLeDiff, Nat.zero_le, false_implies, true_implies, not_true_eq_false, not_false_eq_true, implies_true, Nat.reduceSub, Nat.reduceMul, Nat.reduceDiv, reduceCtorEq, tn_clamp, nI_t, tn_nI, nI_add, pk_mul, rS_gS, rS_gA, rS_gL, rA_gS, rA_gA, rA_gL, rL_gS, rL_gA, rL_gL, and_self, and_false, false_and, if_true, if_false, true_or, or_true, or_false, false_or, sm_in, eqI, sI_s, Int32.toInt_zero, Int.natCast_zero, Int.natCast_one, Int.cast_ofNat_Int, Int.reduceEq, Int.reduceLT, Int.reduceLE, Int.reduceNeg, Int.reduceNe, ne_eq, n_up, g_up, e_cat, fr_A, fr_O, fr_P, fr_L, sp_X7_answerOf, sp_X9_isIn, hb, aC_nI]
        clear hn hf ha hS hR
        grind
  apply hR 40
  simp (maxSteps := 10000000) (disch := omega) only [hS, hn, sm_eqs, hf, ha, sm_b0, Int.reduceToNat, ↓reduceIte, Nat.reduceEqDiff, true_and, and_true, List.length_nil, List.length_cons, Nat.reduceAdd, Nat.reduceLeDiff, Nat.zero_le, false_implies, true_implies, not_true_eq_false, not_false_eq_true, implies_true, Nat.reduceSub, Nat.reduceMul, Nat.reduceDiv, reduceCtorEq, tn_clamp, nI_t, tn_nI, nI_add, pk_mul, rS_gS, rS_gA, rS_gL, rA_gS, rA_gA, rA_gL, rL_gS, rL_gA, rL_gL, and_self, and_false, false_and, if_true, if_false, true_or, or_true, or_false, false_or, sm_in, eqI, sI_s, Int32.toInt_zero, Int.natCast_zero, Int.natCast_one, Int.cast_ofNat_Int, Int.reduceEq, Int.reduceLT, Int.reduceLE, Int.reduceNeg, Int.reduceNe, ne_eq, n_up, g_up, e_cat, fr_A, fr_O, fr_P, fr_L, sp_X7_answerOf, sp_X9_isIn, aC_nI]
  exact loop _ 0 rfl (Nat.zero_le _) (fun v h => by omega)
theorem ok_X0_isFirstOfClass (l : Launch) : sm_spok l lay sm_mt 3 4 sp_X0_isFirstOfClass := Or.inr (Or.inr (Or.inr ⟨by decide, by decide, by
  rw [mt_4]
  exact sm_method (T := TX0_) v_cok v_lok v_ka v_tok_X0 mok_X0_isFirstOfClass rfl (by unfold sm_rk; simp) wf_X0_isFirstOfClass (List.forall_mem_cons.mpr ⟨sm_spok_up (Nat.le_of_ble_eq_true rfl : 2 ≤ 2) (ok_X7_answerOf l), List.forall_mem_cons.mpr ⟨sm_spok_up (Nat.le_of_ble_eq_true rfl : 1 ≤ 2) (ok_X9_isIn l), fun _ h => absurd h List.not_mem_nil⟩⟩) b_X0_isFirstOfClass⟩))
