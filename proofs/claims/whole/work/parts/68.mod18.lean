/-! The reference: what is counted. -/
def sp_X10_count (c : sm_G) : sm_SP := fun as g K => match as with
  | [.ref p, .int n] => p = 53 ∧ CP c g ∧ (∀ h, mS g h → CP c h → (n.toInt = 0 → K (some (.int (rS c 0 911))) h) ∧ (n.toInt = 1 → K (some (.int (nI (nQ c)))) h) ∧ (n.toInt = 2 → K (some (.int (nI (nT c)))) h) ∧ (n.toInt = 3 → K (some (.int (nI (nR c)))) h) ∧ (n.toInt = 4 → K (some (.int (nI (cnt (fun r => rA c 14 r == nI 1) (nR c))))) h) ∧
      (n.toInt = 5 → K (some (.int (nI (nC c)))) h) ∧ (n.toInt = 6 → K (some (.int (nI (cnt (fun k => dc (stM h k)) (mC h))))) h) ∧ (7 ≤ n.toInt ∧ n.toInt ≤ 9 → K (some (.int (nI (cnt (fun t => (whC c t : Int) == n.toInt - 7) (nT c))))) h) ∧ (10 ≤ n.toInt ∧ n.toInt ≤ 13 → K (some (.int (nI (cnt (fun t => (rA c 23 t).toInt == n.toInt - 9) (nT c))))) h) ∧
      (n.toInt < 0 ∨ 13 < n.toInt → K (some (.int (sI 0))) h))
  | _ => False
theorem wf_X10_count (c : sm_G) : sm_wf lay (yX10_count, cX10_count, 4, (some .int)) 2 false (sp_X10_count c) := by
  intro as g K h
  simp only [sp_X10_count] at h
  split at h
  · exact ⟨Nat.le_of_ble_eq_true rfl, by simp, rfl, fun _ => by obtain rfl := h.1; exact ⟨53, _, 10, [1, 1, 56, 57, 58, 59, 60, 61, 1, 1, 62, 63, 64, 65, 66, 67, 68, 69, 70, 71, 72, 73, 1, 74, 75, 76, 77, 1, 1, 78, 79, 1, 80, 1, 81, 1, 82, 83, 84, 85, 86, 1], TX10, 42, rfl, rfl, rfl⟩⟩
  · exact h.elim
set_option maxHeartbeats 4000000 in
set_option maxRecDepth 100000 in
theorem b_X10_count (c : sm_G) : sm_body lay NX10_count 4 0 (sm_cl [(170, sp_X10_isOut c), (208, sp_X10_stands)]) (sp_X10_count c) := by
  intro K J S hW as g hs
  have hn := n_X10_count
  have hf := fd_all
  have ha := ar_all
  generalize NX10_count = N at hn hW
  generalize lay = L at hf ha hW
  obtain ⟨hS, hR⟩ := hW
  simp only [sp_X10_count] at hs
  split at hs
  case h_2 => exact hs.elim
  simp only [e_args, sm_pad, List.length_cons, List.length_nil, Nat.reduceAdd, Nat.reduceSub, List.replicate_succ, List.replicate_zero, List.cons_append, List.nil_append]
  rename_i p n
  obtain ⟨rfl, h, hs⟩ := hs
  have hn2 := CP_n h
  have h912 := h.2.2.2.1.2.1
  obtain ⟨s, hse⟩ : ∃ s, s = gS g 53 1000 (nI 0) := ⟨_, rfl⟩
  have hcp : CP c s := by rw [hse]; exact h
  obtain ⟨h0, h1, h2, h3, h4, h5, h6, h7, h10, hx⟩ := hs s (by rw [hse]; exact mS_S (mS_rf g)) hcp
  have hq0 := hcp.2.1.1
  have hr0 := hcp.2.2.1.1
  have ht0 := hcp.2.2.2.1.1
  have hc0 := hcp.2.2.2.2.1
  have zm := CP_zM hcp
  clear hs
  have lp1 : n.toInt = 4 → ∀ m i, m = nR c - i → i ≤ nR c → ∀ k, k = cnt (fun r => rA c 14 r == nI 1) i → J 102 [some (.ref 53), some (.int n), some (.int (nI k)), some (.int (nI i))] [] s := by
    intro h9
    have h4 := h4 h9
    clear h0 h1 h2 h3 h5 h6 h7 h10 hx
    intro m
    induction m with
    | zero =>
      intro i hm hi k hk9
      obtain rfl : i = nR c := by omega
      rw [← hk9] at h4
      apply hR 60
      simp (maxSteps := 10000000) (disch := omega) only [hS, hn, sm_eqs, hf, ha, sm_b0, Int.reduceToNat, ↓reduceIte, Nat.reduceEqDiff, true_and, and_true, List.length_nil, List.length_cons, Nat.reduceAdd, Nat.reduceLeDiff, Nat.zero_le, false_implies, true_implies, not_true_eq_false, not_false_eq_true, implies_true, Nat.reduceSub, Nat.reduceMul, Nat.reduceDiv, reduceCtorEq, tn_clamp, nI_t, tn_nI, nI_add, pk_mul, rS_gS, rS_gA, rS_gL, rA_gS, rA_gA, rA_gL, rL_gS, rL_gA, rL_gL, and_self, and_false, false_and, if_true, if_false, true_or, or_true, or_false, false_or, sm_in, eqI, sI_s, Int32.toInt_zero, Int.natCast_zero, Int.natCast_one, Int.cast_ofNat_Int, Int.reduceEq, Int.reduceLT, Int.reduceLE, Int.reduceNeg, Int.reduceNe, ne_eq, n_up, g_up, e_cat, fr_A, fr_O, fr_P, fr_L, sp_X10_isOut, sp_X10_stands, hr0]
      repeat' (first | (refine And.intro ?_ ?_) | (intro _))
      all_goals (first | with_reducible assumption | omega | (exfalso; omega) | exact h4)
    | succ m ih =>
      intro i hm hi k hk9
      have hkl : k ≤ i := by rw [hk9]; exact cnt_le _ _
      have e1 : (fun r => rA c 14 r == nI 1) i = true → J 102 [some (.ref 53), some (.int n), some (.int (nI (k + 1))), some (.int (nI (i + 1)))] [] s := fun a => ih (i + 1) (by omega) (by omega) _ (by show _ = cnt (fun r => rA c 14 r == nI 1) i + (if (fun r => rA c 14 r == nI 1) i = true then 1 else 0); rw [if_pos a, hk9])
      have e0 : ¬ (fun r => rA c 14 r == nI 1) i = true → J 102 [some (.ref 53), some (.int n), some (.int (nI (k + 0))), some (.int (nI (i + 1)))] [] s := fun a => ih (i + 1) (by omega) (by omega) _ (by show _ = cnt (fun r => rA c 14 r == nI 1) i + (if (fun r => rA c 14 r == nI 1) i = true then 1 else 0); rw [if_neg a, hk9])
      clear ih h4
      have hcl := iff_of_eq (hcp.2.2.1.2.2.2.2.2.2.1 i (by omega))
      apply hR 60
      simp (maxSteps := 10000000) (disch := omega) only [hS, hn, sm_eqs, hf, ha, sm_b0, Int.reduceToNat, ↓reduceIte, Nat.reduceEqDiff, true_and, and_true, List.length_nil, List.length_cons, Nat.reduceAdd, Nat.reduceLeDiff, Nat.zero_le, false_implies, true_implies, not_true_eq_false, not_false_eq_true, implies_true, Nat.reduceSub, Nat.reduceMul, Nat.reduceDiv, reduceCtorEq, tn_clamp, nI_t, tn_nI, nI_add, pk_mul, rS_gS, rS_gA, rS_gL, rA_gS, rA_gA, rA_gL, rL_gS, rL_gA, rL_gL, and_self, and_false, false_and, if_true, if_false, true_or, or_true, or_false, false_or, sm_in, eqI, sI_s, Int32.toInt_zero, Int.natCast_zero, Int.natCast_one, Int.cast_ofNat_Int, Int.reduceEq, Int.reduceLT, Int.reduceLE, Int.reduceNeg, Int.reduceNe, ne_eq, n_up, g_up, e_cat, fr_A, fr_O, fr_P, fr_L, sp_X10_isOut, sp_X10_stands, hr0]
      refine ⟨fun _ => ⟨⟨by omega, by omega⟩, fun a => e1 ?_, fun a => e0 (fun b => a (hcl.mpr ?_))⟩, fun a => absurd a (by omega)⟩
      · show (rA c 14 i == nI 1) = true
        rw [beq_iff_eq]; exact Int32.toInt_inj.mp (by rw [hcl.mp a]; rfl)
      · rw [beq_iff_eq.mp b]; rfl
  have lp2 : n.toInt = 6 → ∀ m i, m = mC s - i → i ≤ mC s → ∀ k, k = cnt (fun k => dc (stM s k)) i → J 142 [some (.ref 53), some (.int n), some (.int (nI k)), some (.int (nI i))] [] s := by
    intro h9
    have h6 := h6 h9
    clear h0 h1 h2 h3 h5 h4 h7 h10 hx
    intro m
    induction m with
    | zero =>
      intro i hm hi k hk9
      obtain rfl : i = mC s := by omega
      rw [← hk9] at h6
      apply hR 60
      simp (maxSteps := 10000000) (disch := omega) only [hS, hn, sm_eqs, hf, ha, sm_b0, Int.reduceToNat, ↓reduceIte, Nat.reduceEqDiff, true_and, and_true, List.length_nil, List.length_cons, Nat.reduceAdd, Nat.reduceLeDiff, Nat.zero_le, false_implies, true_implies, not_true_eq_false, not_false_eq_true, implies_true, Nat.reduceSub, Nat.reduceMul, Nat.reduceDiv, reduceCtorEq, tn_clamp, nI_t, tn_nI, nI_add, pk_mul, rS_gS, rS_gA, rS_gL, rA_gS, rA_gA, rA_gL, rL_gS, rL_gA, rL_gL, and_self, and_false, false_and, if_true, if_false, true_or, or_true, or_false, false_or, sm_in, eqI, sI_s, Int32.toInt_zero, Int.natCast_zero, Int.natCast_one, Int.cast_ofNat_Int, Int.reduceEq, Int.reduceLT, Int.reduceLE, Int.reduceNeg, Int.reduceNe, ne_eq, n_up, g_up, e_cat, fr_A, fr_O, fr_P, fr_L, sp_X10_isOut, sp_X10_stands, zm.1, zm.1.1]
      repeat' (first | (refine And.intro ?_ ?_) | (intro _))
      all_goals (first | with_reducible assumption | omega | (exfalso; omega) | exact h6)
    | succ m ih =>
      intro i hm hi k hk9
      have hkl : k ≤ i := by rw [hk9]; exact cnt_le _ _
      have e1 : (fun k => dc (stM s k)) i = true → J 142 [some (.ref 53), some (.int n), some (.int (nI (k + 1))), some (.int (nI (i + 1)))] [] s := fun a => ih (i + 1) (by omega) (by omega) _ (by show _ = cnt (fun k => dc (stM s k)) i + (if (fun k => dc (stM s k)) i = true then 1 else 0); rw [if_pos a, hk9])
      have e0 : ¬ (fun k => dc (stM s k)) i = true → J 142 [some (.ref 53), some (.int n), some (.int (nI (k + 0))), some (.int (nI (i + 1)))] [] s := fun a => ih (i + 1) (by omega) (by omega) _ (by show _ = cnt (fun k => dc (stM s k)) i + (if (fun k => dc (stM s k)) i = true then 1 else 0); rw [if_neg a, hk9])
      clear ih h6
      have zm2 := zm.1.2
      apply hR 60
      simp (maxSteps := 10000000) (disch := omega) only [hS, hn, sm_eqs, hf, ha, sm_b0, Int.reduceToNat, ↓reduceIte, Nat.reduceEqDiff, true_and, and_true, List.length_nil, List.length_cons, Nat.reduceAdd, Nat.reduceLeDiff, Nat.zero_le, false_implies, true_implies, not_true_eq_false, not_false_eq_true, implies_true, Nat.reduceSub, Nat.reduceMul, Nat.reduceDiv, reduceCtorEq, tn_clamp, nI_t, tn_nI, nI_add, pk_mul, rS_gS, rS_gA, rS_gL, rA_gS, rA_gA, rA_gL, rL_gS, rL_gA, rL_gL, and_self, and_false, false_and, if_true, if_false, true_or, or_true, or_false, false_or, sm_in, eqI, sI_s, Int32.toInt_zero, Int.natCast_zero, Int.natCast_one, Int.cast_ofNat_Int, Int.reduceEq, Int.reduceLT, Int.reduceLE, Int.reduceNeg, Int.reduceNe, ne_eq, n_up, g_up, e_cat, fr_A, fr_O, fr_P, fr_L, sp_X10_isOut, sp_X10_stands, zm.1, zm.1.1]
      clear hn hf ha hS hR
      have e1 := fun a => e1 (dc_t.mpr a)
      have e0 := fun (a : ¬ stM s i) => e0 (fun b => a (dc_t.mp b))
      have hk2 : 0 ≤ (i : Int) ∧ (i : Int) < mC s := by omega
      by_cases a : stM s i
      · have e1 := e1 a
        grind
      · have e0 := e0 a
        grind
  have lp3 : 7 ≤ n.toInt ∧ n.toInt ≤ 9 → ∀ m i, m = nT c - i → i ≤ nT c → ∀ k, k = cnt (fun t => (whC c t : Int) == n.toInt - 7) i → J 176 [some (.ref 53), some (.int n), some (.int (nI k)), some (.int (nI i))] [] s := by
    intro h9
    have h7 := h7 h9
    clear h0 h1 h2 h3 h5 h4 h6 h10 hx
    intro m
    induction m with
    | zero =>
      intro i hm hi k hk9
      obtain rfl : i = nT c := by omega
      rw [← hk9] at h7
      apply hR 60
      simp (maxSteps := 10000000) (disch := omega) only [hS, hn, sm_eqs, hf, ha, sm_b0, Int.reduceToNat, ↓reduceIte, Nat.reduceEqDiff, true_and, and_true, List.length_nil, List.length_cons, Nat.reduceAdd, Nat.reduceLeDiff, Nat.zero_le, false_implies, true_implies, not_true_eq_false, not_false_eq_true, implies_true, Nat.reduceSub, Nat.reduceMul, Nat.reduceDiv, reduceCtorEq, tn_clamp, nI_t, tn_nI, nI_add, pk_mul, rS_gS, rS_gA, rS_gL, rA_gS, rA_gA, rA_gL, rL_gS, rL_gA, rL_gL, and_self, and_false, false_and, if_true, if_false, true_or, or_true, or_false, false_or, sm_in, eqI, sI_s, Int32.toInt_zero, Int.natCast_zero, Int.natCast_one, Int.cast_ofNat_Int, Int.reduceEq, Int.reduceLT, Int.reduceLE, Int.reduceNeg, Int.reduceNe, ne_eq, n_up, g_up, e_cat, fr_A, fr_O, fr_P, fr_L, sp_X10_isOut, sp_X10_stands, ht0]
      repeat' (first | (refine And.intro ?_ ?_) | (intro _))
      all_goals (first | with_reducible assumption | omega | (exfalso; omega) | exact h7)
    | succ m ih =>
      intro i hm hi k hk9
      have hkl : k ≤ i := by rw [hk9]; exact cnt_le _ _
      have e1 : (fun t => (whC c t : Int) == n.toInt - 7) i = true → J 176 [some (.ref 53), some (.int n), some (.int (nI (k + 1))), some (.int (nI (i + 1)))] [] s := fun a => ih (i + 1) (by omega) (by omega) _ (by show _ = cnt (fun t => (whC c t : Int) == n.toInt - 7) i + (if (fun t => (whC c t : Int) == n.toInt - 7) i = true then 1 else 0); rw [if_pos a, hk9])
      have e0 : ¬ (fun t => (whC c t : Int) == n.toInt - 7) i = true → J 176 [some (.ref 53), some (.int n), some (.int (nI (k + 0))), some (.int (nI (i + 1)))] [] s := fun a => ih (i + 1) (by omega) (by omega) _ (by show _ = cnt (fun t => (whC c t : Int) == n.toInt - 7) i + (if (fun t => (whC c t : Int) == n.toInt - 7) i = true then 1 else 0); rw [if_neg a, hk9])
      clear ih h7
      have hcl := hcp.2.2.2.1.2.2.2.2.2.1 i (by omega)
      have e7 : (n - nI 7).toInt = n.toInt - 7 := by
        rw [Int32.toInt_sub, nI_t (by omega), Int.bmod_eq_of_le (by omega) (by omega)]; rfl
      have w3 : whC c i ≤ 2 := by unfold whC; split <;> (try split) <;> omega
      simp only [beq_iff_eq] at e1 e0
      apply hR 60
      simp (maxSteps := 10000000) (disch := omega) only [hS, hn, sm_eqs, hf, ha, sm_b0, Int.reduceToNat, ↓reduceIte, Nat.reduceEqDiff, true_and, and_true, List.length_nil, List.length_cons, Nat.reduceAdd, Nat.reduceLeDiff, Nat.zero_le, false_implies, true_implies, not_true_eq_false, not_false_eq_true, implies_true, Nat.reduceSub, Nat.reduceMul, Nat.reduceDiv, reduceCtorEq, tn_clamp, nI_t, tn_nI, nI_add, pk_mul, rS_gS, rS_gA, rS_gL, rA_gS, rA_gA, rA_gL, rL_gS, rL_gA, rL_gL, and_self, and_false, false_and, if_true, if_false, true_or, or_true, or_false, false_or, sm_in, eqI, sI_s, Int32.toInt_zero, Int.natCast_zero, Int.natCast_one, Int.cast_ofNat_Int, Int.reduceEq, Int.reduceLT, Int.reduceLE, Int.reduceNeg, Int.reduceNe, ne_eq, n_up, g_up, e_cat, fr_A, fr_O, fr_P, fr_L, sp_X10_isOut, sp_X10_stands, ht0, hcl, e7]
      clear hn hf ha hS hR
      grind
  have lp4 : 10 ≤ n.toInt ∧ n.toInt ≤ 13 → ∀ m i, m = nT c - i → i ≤ nT c → ∀ k, k = cnt (fun t => (rA c 23 t).toInt == n.toInt - 9) i → J 215 [some (.ref 53), some (.int n), some (.int (nI k)), some (.int (nI i))] [] s := by
    intro h9
    have h10 := h10 h9
    clear h0 h1 h2 h3 h5 h4 h6 h7 hx
    intro m
    induction m with
    | zero =>
      intro i hm hi k hk9
      obtain rfl : i = nT c := by omega
      rw [← hk9] at h10
      apply hR 60
      simp (maxSteps := 10000000) (disch := omega) only [hS, hn, sm_eqs, hf, ha, sm_b0, Int.reduceToNat, ↓reduceIte, Nat.reduceEqDiff, true_and, and_true, List.length_nil, List.length_cons, Nat.reduceAdd, Nat.reduceLeDiff, Nat.zero_le, false_implies, true_implies, not_true_eq_false, not_false_eq_true, implies_true, Nat.reduceSub, Nat.reduceMul, Nat.reduceDiv, reduceCtorEq, tn_clamp, nI_t, tn_nI, nI_add, pk_mul, rS_gS, rS_gA, rS_gL, rA_gS, rA_gA, rA_gL, rL_gS, rL_gA, rL_gL, and_self, and_false, false_and, if_true, if_false, true_or, or_true, or_false, false_or, sm_in, eqI, sI_s, Int32.toInt_zero, Int.natCast_zero, Int.natCast_one, Int.cast_ofNat_Int, Int.reduceEq, Int.reduceLT, Int.reduceLE, Int.reduceNeg, Int.reduceNe, ne_eq, n_up, g_up, e_cat, fr_A, fr_O, fr_P, fr_L, sp_X10_isOut, sp_X10_stands, ht0]
      repeat' (first | (refine And.intro ?_ ?_) | (intro _))
      all_goals (first | with_reducible assumption | omega | (exfalso; omega) | exact h10)
    | succ m ih =>
      intro i hm hi k hk9
      have hkl : k ≤ i := by rw [hk9]; exact cnt_le _ _
      have e1 : (fun t => (rA c 23 t).toInt == n.toInt - 9) i = true → J 215 [some (.ref 53), some (.int n), some (.int (nI (k + 1))), some (.int (nI (i + 1)))] [] s := fun a => ih (i + 1) (by omega) (by omega) _ (by show _ = cnt (fun t => (rA c 23 t).toInt == n.toInt - 9) i + (if (fun t => (rA c 23 t).toInt == n.toInt - 9) i = true then 1 else 0); rw [if_pos a, hk9])
      have e0 : ¬ (fun t => (rA c 23 t).toInt == n.toInt - 9) i = true → J 215 [some (.ref 53), some (.int n), some (.int (nI (k + 0))), some (.int (nI (i + 1)))] [] s := fun a => ih (i + 1) (by omega) (by omega) _ (by show _ = cnt (fun t => (rA c 23 t).toInt == n.toInt - 9) i + (if (fun t => (rA c 23 t).toInt == n.toInt - 9) i = true then 1 else 0); rw [if_neg a, hk9])
      clear ih h10
      have hko : okT c (nI i) := by unfold okT; rw [nI_t (by omega)]; omega
      have e7 : (n - nI 9).toInt = n.toInt - 9 := by
        rw [Int32.toInt_sub, nI_t (by omega), Int.bmod_eq_of_le (by omega) (by omega)]; rfl
      simp only [beq_iff_eq] at e1 e0
      have hw : whyC c i = (rA c 23 i).toInt := rfl
      by_cases hy : whyC c i = -1
      · have e0 := e0 (by omega)
        apply hR 60
        simp (maxSteps := 10000000) (disch := omega) only [hS, hn, sm_eqs, hf, ha, sm_b0, Int.reduceToNat, ↓reduceIte, Nat.reduceEqDiff, true_and, and_true, List.length_nil, List.length_cons, Nat.reduceAdd, Nat.reduceLeDiff, Nat.zero_le, false_implies, true_implies, not_true_eq_false, not_false_eq_true, implies_true, Nat.reduceSub, Nat.reduceMul, Nat.reduceDiv, reduceCtorEq, tn_clamp, nI_t, tn_nI, nI_add, pk_mul, rS_gS, rS_gA, rS_gL, rA_gS, rA_gA, rA_gL, rL_gS, rL_gA, rL_gL, and_self, and_false, false_and, if_true, if_false, true_or, or_true, or_false, false_or, sm_in, eqI, sI_s, Int32.toInt_zero, Int.natCast_zero, Int.natCast_one, Int.cast_ofNat_Int, Int.reduceEq, Int.reduceLT, Int.reduceLE, Int.reduceNeg, Int.reduceNe, ne_eq, n_up, g_up, e_cat, fr_A, fr_O, fr_P, fr_L, sp_X10_isOut, sp_X10_stands, ht0, hcp, hko, e7, hy]
        clear hn hf ha hS hR
        grind
      · have hcl := (hcp.2.2.2.1.2.2.2.2.2.2.2.2.1 i (by omega) hy).2.2
        apply hR 60
        simp (maxSteps := 10000000) (disch := omega) only [hS, hn, sm_eqs, hf, ha, sm_b0, Int.reduceToNat, ↓reduceIte, Nat.reduceEqDiff, true_and, and_true, List.length_nil, List.length_cons, Nat.reduceAdd, Nat.reduceLeDiff, Nat.zero_le, false_implies, true_implies, not_true_eq_false, not_false_eq_true, implies_true, Nat.reduceSub, Nat.reduceMul, Nat.reduceDiv, reduceCtorEq, tn_clamp, nI_t, tn_nI, nI_add, pk_mul, rS_gS, rS_gA, rS_gL, rA_gS, rA_gA, rA_gL, rL_gS, rL_gA, rL_gL, and_self, and_false, false_and, if_true, if_false, true_or, or_true, or_false, false_or, sm_in, eqI, sI_s, Int32.toInt_zero, Int.natCast_zero, Int.natCast_one, Int.cast_ofNat_Int, Int.reduceEq, Int.reduceLT, Int.reduceLE, Int.reduceNeg, Int.reduceNe, ne_eq, n_up, g_up, e_cat, fr_A, fr_O, fr_P, fr_L, sp_X10_isOut, sp_X10_stands, ht0, hcp, hko, e7, hcl, hy]
        clear hn hf ha hS hR
        grind
  have h4 := fun a => lp1 a _ 0 rfl (Nat.zero_le _) 0 rfl
  have h6 := fun a => lp2 a _ 0 rfl (Nat.zero_le _) 0 rfl
  have h7 := fun a => lp3 a _ 0 rfl (Nat.zero_le _) 0 rfl
  have h10 := fun a => lp4 a _ 0 rfl (Nat.zero_le _) 0 rfl
  clear lp1 lp2 lp3 lp4
  rw [hse] at h0 h1 h2 h3 h5 hx h4 h6 h7 h10
  have hq0 := h.2.1.1
  have hr0 := h.2.2.1.1
  have ht0 := h.2.2.2.1.1
  have hc0 := h.2.2.2.2.1
  clear zm hcp hse
  apply hR 60
  simp (maxSteps := 10000000) (disch := omega) only [hS, hn, sm_eqs, hf, ha, sm_b0, Int.reduceToNat, ↓reduceIte, Nat.reduceEqDiff, true_and, and_true, List.length_nil, List.length_cons, Nat.reduceAdd, Nat.reduceLeDiff, Nat.zero_le, false_implies, true_implies, not_true_eq_false, not_false_eq_true, implies_true, Nat.reduceSub, Nat.reduceMul, Nat.reduceDiv, reduceCtorEq, tn_clamp, nI_t, tn_nI, nI_add, pk_mul, rS_gS, rS_gA, rS_gL, rA_gS, rA_gA, rA_gL, rL_gS, rL_gA, rL_gL, and_self, and_false, false_and, if_true, if_false, true_or, or_true, or_false, false_or, sm_in, eqI, sI_s, Int32.toInt_zero, Int.natCast_zero, Int.natCast_one, Int.cast_ofNat_Int, Int.reduceEq, Int.reduceLT, Int.reduceLE, Int.reduceNeg, Int.reduceNe, ne_eq, n_up, g_up, e_cat, fr_A, fr_O, fr_P, fr_L, sp_X10_isOut, sp_X10_stands, hq0, hr0, ht0, hc0, h912]
  clear hn hf ha hS hR
  exact ⟨hx, fun e => h0 (by omega), fun e => h1 (by omega), fun e => h2 (by omega), fun e => h3 (by omega), fun e => h4 (by omega), fun e => h5 (by omega), fun e => h6 (by omega), fun e => h7 (by omega), fun e => h7 (by omega), fun e => h7 (by omega), fun e => h10 (by omega), fun e => h10 (by omega), fun e => h10 (by omega), fun e => h10 (by omega)⟩
theorem ok_X10_count (l : Launch) (c : sm_G) : sm_spok l lay sm_mt 3 224 (sp_X10_count c) := Or.inr (Or.inr (Or.inr ⟨by decide, by decide, by
  rw [mt_224]
  exact sm_method (T := TX10_) v_cok v_lok v_ka v_tok_X10 mok_X10_count rfl (by unfold sm_rk; simp) (wf_X10_count c) (List.forall_mem_cons.mpr ⟨sm_spok_up (Nat.le_of_ble_eq_true rfl : 1 ≤ 2) (ok_X10_isOut l c), List.forall_mem_cons.mpr ⟨sm_spok_up (Nat.le_of_ble_eq_true rfl : 2 ≤ 2) (ok_X10_stands l), fun _ h => absurd h List.not_mem_nil⟩⟩) (b_X10_count c)⟩))
