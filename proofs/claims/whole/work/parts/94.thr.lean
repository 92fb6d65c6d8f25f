/-! The class's methods that throw. -/
set_option maxHeartbeats 4000000 in
set_option maxRecDepth 100000 in
theorem wk_claimed (K : Option Value → sm_G → Prop) (J : Nat → sm_Lo → List Value → sm_G → Prop) (S : Nat → Nat → sm_Lo → List Value → sm_G → Prop) (hW : sm_walk lay NX9_claimed (sm_cl [(28, sp_X2_has), (31, sp_X2_stateOf), (32, sp_X2_reportOf), (33, sp_X2_thingOf)]) none 0 K J S) (hS0 : ∀ pc ls st g, S 0 pc ls st g = J pc ls st g) (g : sm_G) (k w : Int32) (hi : iv g) (h1 : okC g k → 0 ≤ w.toInt ∧ w.toInt ≤ 2 → K (some (.int (clmA g (tn k) w))) g) (h2 : ¬ okC g k → J 11 [some (.ref 0), some (.int k), some (.int w)] [] g) (h3 : okC g k → ¬ (0 ≤ w.toInt ∧ w.toInt ≤ 2) → J 75 [some (.ref 0), some (.int k), some (.int w)] [] g) : J 0 [some (.ref 0), some (.int k), some (.int w)] [] g := by
  have hn := n_X9_claimed
  have hf := fd_all
  have ha := ar_all
  generalize NX9_claimed = N at hn hW
  generalize lay = L at hf ha hW
  obtain ⟨hS, hR⟩ := hW
  obtain ⟨zq, zr, zt, zo, zc⟩ := iv_z hi
  have s48 : okC g k → w.toInt = 0 → J 48 [some (.ref 0), some (.int k), some (.int w)] [] g := by
    intro a b
    have h1 := h1 a ⟨by omega, by omega⟩
    unfold clmA at h1
    simp only [b, if_true, if_false, Int.reduceEq] at h1
    clear h2 h3
    apply hR 10
    simp (maxSteps := 10000000) (disch := omega) only [hS, hn, sm_eqs, hf, ha, sm_b0, Int.reduceToNat, ↓reduceIte, Nat.reduceEqDiff, true_and, and_true, List.length_nil, List.length_cons, Nat.reduceAdd, Nat.reduceLeDiff, Nat.zero_le, false_implies, true_implies, not_true_eq_false, not_false_eq_true, implies_true, Nat.reduceSub, Nat.reduceMul, Nat.reduceDiv, reduceCtorEq, tn_clamp, nI_t, tn_nI, nI_add, pk_mul, rS_gS, rS_gA, rS_gL, rA_gS, rA_gA, rA_gL, rL_gS, rL_gA, rL_gL, and_self, and_false, false_and, if_true, if_false, true_or, or_true, or_false, false_or, sm_in, eqI, sI_s, Int32.toInt_zero, Int.natCast_zero, Int.natCast_one, Int.cast_ofNat_Int, Int.reduceEq, Int.reduceLT, Int.reduceLE, Int.reduceNeg, Int.reduceNe, ne_eq, n_up, g_up, e_cat, fr_A, fr_O, fr_P, fr_L, sp_X2_has, sp_X2_stateOf, sp_X2_reportOf, sp_X2_thingOf, zc, a]
    clear hn hf ha hS hR
    repeat' (first | (refine And.intro ?_ ?_) | (intro _))
    all_goals (first | with_reducible assumption | omega | (exfalso; omega))
  have s57 : okC g k → w.toInt = 1 → J 57 [some (.ref 0), some (.int k), some (.int w)] [] g := by
    intro a b
    have h1 := h1 a ⟨by omega, by omega⟩
    unfold clmA at h1
    simp only [b, if_true, if_false, Int.reduceEq] at h1
    clear h2 h3
    apply hR 10
    simp (maxSteps := 10000000) (disch := omega) only [hS, hn, sm_eqs, hf, ha, sm_b0, Int.reduceToNat, ↓reduceIte, Nat.reduceEqDiff, true_and, and_true, List.length_nil, List.length_cons, Nat.reduceAdd, Nat.reduceLeDiff, Nat.zero_le, false_implies, true_implies, not_true_eq_false, not_false_eq_true, implies_true, Nat.reduceSub, Nat.reduceMul, Nat.reduceDiv, reduceCtorEq, tn_clamp, nI_t, tn_nI, nI_add, pk_mul, rS_gS, rS_gA, rS_gL, rA_gS, rA_gA, rA_gL, rL_gS, rL_gA, rL_gL, and_self, and_false, false_and, if_true, if_false, true_or, or_true, or_false, false_or, sm_in, eqI, sI_s, Int32.toInt_zero, Int.natCast_zero, Int.natCast_one, Int.cast_ofNat_Int, Int.reduceEq, Int.reduceLT, Int.reduceLE, Int.reduceNeg, Int.reduceNe, ne_eq, n_up, g_up, e_cat, fr_A, fr_O, fr_P, fr_L, sp_X2_has, sp_X2_stateOf, sp_X2_reportOf, sp_X2_thingOf, zc, a]
    clear hn hf ha hS hR
    repeat' (first | (refine And.intro ?_ ?_) | (intro _))
    all_goals (first | with_reducible assumption | omega | (exfalso; omega))
  have s66 : okC g k → w.toInt = 2 → J 66 [some (.ref 0), some (.int k), some (.int w)] [] g := by
    intro a b
    have h1 := h1 a ⟨by omega, by omega⟩
    unfold clmA at h1
    simp only [b, if_true, if_false, Int.reduceEq] at h1
    clear h2 h3
    apply hR 10
    simp (maxSteps := 10000000) (disch := omega) only [hS, hn, sm_eqs, hf, ha, sm_b0, Int.reduceToNat, ↓reduceIte, Nat.reduceEqDiff, true_and, and_true, List.length_nil, List.length_cons, Nat.reduceAdd, Nat.reduceLeDiff, Nat.zero_le, false_implies, true_implies, not_true_eq_false, not_false_eq_true, implies_true, Nat.reduceSub, Nat.reduceMul, Nat.reduceDiv, reduceCtorEq, tn_clamp, nI_t, tn_nI, nI_add, pk_mul, rS_gS, rS_gA, rS_gL, rA_gS, rA_gA, rA_gL, rL_gS, rL_gA, rL_gL, and_self, and_false, false_and, if_true, if_false, true_or, or_true, or_false, false_or, sm_in, eqI, sI_s, Int32.toInt_zero, Int.natCast_zero, Int.natCast_one, Int.cast_ofNat_Int, Int.reduceEq, Int.reduceLT, Int.reduceLE, Int.reduceNeg, Int.reduceNe, ne_eq, n_up, g_up, e_cat, fr_A, fr_O, fr_P, fr_L, sp_X2_has, sp_X2_stateOf, sp_X2_reportOf, sp_X2_thingOf, zc, a]
    clear hn hf ha hS hR
    repeat' (first | (refine And.intro ?_ ?_) | (intro _))
    all_goals (first | with_reducible assumption | omega | (exfalso; omega))
  have s22 : okC g k → J 22 [some (.ref 0), some (.int k), some (.int w)] [] g := by
    intro a
    have h3 := h3 a
    have s48 := s48 a
    have s57 := s57 a
    have s66 := s66 a
    clear h1 h2
    apply hR 1
    simp (maxSteps := 10000000) (disch := omega) only [hS, hn, sm_eqs, hf, ha, sm_b0, Int.reduceToNat, ↓reduceIte, Nat.reduceEqDiff, true_and, and_true, List.length_nil, List.length_cons, Nat.reduceAdd, Nat.reduceLeDiff, Nat.zero_le, false_implies, true_implies, not_true_eq_false, not_false_eq_true, implies_true, Nat.reduceSub, Nat.reduceMul, Nat.reduceDiv, reduceCtorEq, tn_clamp, nI_t, tn_nI, nI_add, pk_mul, rS_gS, rS_gA, rS_gL, rA_gS, rA_gA, rA_gL, rL_gS, rL_gA, rL_gL, and_self, and_false, false_and, if_true, if_false, true_or, or_true, or_false, false_or, sm_in, eqI, sI_s, Int32.toInt_zero, Int.natCast_zero, Int.natCast_one, Int.cast_ofNat_Int, Int.reduceEq, Int.reduceLT, Int.reduceLE, Int.reduceNeg, Int.reduceNe, ne_eq, n_up, g_up, e_cat, fr_A, fr_O, fr_P, fr_L, sp_X2_has, sp_X2_stateOf, sp_X2_reportOf, sp_X2_thingOf, hS0]
    clear hn hf ha hS hR
    exact ⟨fun b => h3 (by omega), fun b => s48 b, fun b => s57 (by omega), fun b => s66 (by omega)⟩
  clear s48 s57 s66 h1 h3
  apply hR 4
  simp (maxSteps := 10000000) (disch := omega) only [hS, hn, sm_eqs, hf, ha, sm_b0, Int.reduceToNat, ↓reduceIte, Nat.reduceEqDiff, true_and, and_true, List.length_nil, List.length_cons, Nat.reduceAdd, Nat.reduceLeDiff, Nat.zero_le, false_implies, true_implies, not_true_eq_false, not_false_eq_true, implies_true, Nat.reduceSub, Nat.reduceMul, Nat.reduceDiv, reduceCtorEq, tn_clamp, nI_t, tn_nI, nI_add, pk_mul, rS_gS, rS_gA, rS_gL, rA_gS, rA_gA, rA_gL, rL_gS, rL_gA, rL_gL, and_self, and_false, false_and, if_true, if_false, true_or, or_true, or_false, false_or, sm_in, eqI, sI_s, Int32.toInt_zero, Int.natCast_zero, Int.natCast_one, Int.cast_ofNat_Int, Int.reduceEq, Int.reduceLT, Int.reduceLE, Int.reduceNeg, Int.reduceNe, ne_eq, n_up, g_up, e_cat, fr_A, fr_O, fr_P, fr_L, sp_X2_has, sp_X2_stateOf, sp_X2_reportOf, sp_X2_thingOf, zc, hS0]
  clear hn hf ha hS hR
  exact ⟨s22, h2⟩

set_option maxHeartbeats 4000000 in
set_option maxRecDepth 100000 in
theorem wk_place (K : Option Value → sm_G → Prop) (J : Nat → sm_Lo → List Value → sm_G → Prop) (S : Nat → Nat → sm_Lo → List Value → sm_G → Prop) (hW : sm_walk lay NX9_place (sm_cl [(91, sp_X8_has), (95, sp_X8_whereOf), (99, sp_X8_bagOf), (100, sp_X8_ageOf), (96, sp_X8_kindOf), (97, sp_X8_finderOf), (101, sp_X8_takerOf), (102, sp_X8_outDayOf), (103, sp_X8_whyOf), (108, sp_X8_countInside), (34, sp_X2_standingOn)]) none 0 K J S) (hS0 : ∀ pc ls st g, S 0 pc ls st g = J pc ls st g) (g : sm_G) (k w : Int32) (hi : iv g) (h1 : okT g k → 0 ≤ w.toInt ∧ w.toInt ≤ 9 → K (some (.int (plcA g (tn k) w))) g) (h2 : ¬ okT g k → J 11 [some (.ref 0), some (.int k), some (.int w)] [] g) (h3 : okT g k → ¬ (0 ≤ w.toInt ∧ w.toInt ≤ 9) → J 166 [some (.ref 0), some (.int k), some (.int w)] [] g) : J 0 [some (.ref 0), some (.int k), some (.int w)] [] g := by
  have hn := n_X9_place
  have hf := fd_all
  have ha := ar_all
  generalize NX9_place = N at hn hW
  generalize lay = L at hf ha hW
  obtain ⟨hS, hR⟩ := hW
  obtain ⟨zq, zr, zt, zo, zc⟩ := iv_z hi
  have hk60 := fun a => okT_60 (t := k) zt a
  have hkn : okT g k → k.toInt = (tn k : Int) := fun a => by have := (hk60 a).1; unfold tn; omega
  have hw0 : okT g k → (¬ hereC g k → whC g (tn k) = 2) ∧ (hereC g k → (rA g 19 (tn k)).toInt = -1 → whC g (tn k) = 0) ∧ (hereC g k → ¬ (rA g 19 (tn k)).toInt = -1 → whC g (tn k) = 1) := fun a => by
    obtain ⟨w1, w2, w3, w4⟩ := whC_c g (tn k)
    exact ⟨fun b => w2.mpr (fun e => b ⟨a, e⟩), fun b d => w3.mpr ⟨b.2, d⟩, fun b d => w4.mpr ⟨b.2, d⟩⟩
  have s76 : okT g k → w.toInt = 0 → J 76 [some (.ref 0), some (.int k), some (.int w)] [] g := by
    intro a b
    have h1 := h1 a ⟨by omega, by omega⟩
    unfold plcA at h1
    simp only [b, if_true, if_false, Int.reduceEq] at h1
    have hkn := hkn a
    have hk60 := hk60 a
    obtain ⟨w5, w6, w7⟩ := hw0 a
    clear h2 h3 hw0
    apply hR 10
    simp (maxSteps := 10000000) (disch := omega) only [hS, hn, sm_eqs, hf, ha, sm_b0, Int.reduceToNat, ↓reduceIte, Nat.reduceEqDiff, true_and, and_true, List.length_nil, List.length_cons, Nat.reduceAdd, Nat.reduceLeDiff, Nat.zero_le, false_implies, true_implies, not_true_eq_false, not_false_eq_true, implies_true, Nat.reduceSub, Nat.reduceMul, Nat.reduceDiv, reduceCtorEq, tn_clamp, nI_t, tn_nI, nI_add, pk_mul, rS_gS, rS_gA, rS_gL, rA_gS, rA_gA, rA_gL, rL_gS, rL_gA, rL_gL, and_self, and_false, false_and, if_true, if_false, true_or, or_true, or_false, false_or, sm_in, eqI, sI_s, Int32.toInt_zero, Int.natCast_zero, Int.natCast_one, Int.cast_ofNat_Int, Int.reduceEq, Int.reduceLT, Int.reduceLE, Int.reduceNeg, Int.reduceNe, ne_eq, n_up, g_up, e_cat, fr_A, fr_O, fr_P, fr_L, sp_X8_has, sp_X8_whereOf, sp_X8_bagOf, sp_X8_ageOf, sp_X8_kindOf, sp_X8_finderOf, sp_X8_takerOf, sp_X8_outDayOf, sp_X8_whyOf, sp_X8_countInside, sp_X2_standingOn, zt, zc, a, hkn]
    clear hn hf ha hS hR
    exact ⟨fun b => by rw [w5 b] at h1; exact h1, fun b d => by rw [w6 b d] at h1; exact h1, fun b d => by rw [w7 b d] at h1; exact h1⟩
  have s85 : okT g k → w.toInt = 1 → J 85 [some (.ref 0), some (.int k), some (.int w)] [] g := by
    intro a b
    have h1 := h1 a ⟨by omega, by omega⟩
    unfold plcA at h1
    simp only [b, if_true, if_false, Int.reduceEq] at h1
    have hkn := hkn a
    have hk60 := hk60 a
    obtain ⟨w5, w6, w7⟩ := hw0 a
    clear h2 h3 hw0
    apply hR 10
    simp (maxSteps := 10000000) (disch := omega) only [hS, hn, sm_eqs, hf, ha, sm_b0, Int.reduceToNat, ↓reduceIte, Nat.reduceEqDiff, true_and, and_true, List.length_nil, List.length_cons, Nat.reduceAdd, Nat.reduceLeDiff, Nat.zero_le, false_implies, true_implies, not_true_eq_false, not_false_eq_true, implies_true, Nat.reduceSub, Nat.reduceMul, Nat.reduceDiv, reduceCtorEq, tn_clamp, nI_t, tn_nI, nI_add, pk_mul, rS_gS, rS_gA, rS_gL, rA_gS, rA_gA, rA_gL, rL_gS, rL_gA, rL_gL, and_self, and_false, false_and, if_true, if_false, true_or, or_true, or_false, false_or, sm_in, eqI, sI_s, Int32.toInt_zero, Int.natCast_zero, Int.natCast_one, Int.cast_ofNat_Int, Int.reduceEq, Int.reduceLT, Int.reduceLE, Int.reduceNeg, Int.reduceNe, ne_eq, n_up, g_up, e_cat, fr_A, fr_O, fr_P, fr_L, sp_X8_has, sp_X8_whereOf, sp_X8_bagOf, sp_X8_ageOf, sp_X8_kindOf, sp_X8_finderOf, sp_X8_takerOf, sp_X8_outDayOf, sp_X8_whyOf, sp_X8_countInside, sp_X2_standingOn, zt, zc, a, hkn]
    clear hn hf ha hS hR
    repeat' (first | (refine And.intro ?_ ?_) | (intro _))
    all_goals (first | with_reducible assumption | omega | (exfalso; omega))
  have s94 : okT g k → w.toInt = 2 → J 94 [some (.ref 0), some (.int k), some (.int w)] [] g := by
    intro a b
    have h1 := h1 a ⟨by omega, by omega⟩
    unfold plcA at h1
    simp only [b, if_true, if_false, Int.reduceEq] at h1
    have hkn := hkn a
    have hk60 := hk60 a
    obtain ⟨w5, w6, w7⟩ := hw0 a
    clear h2 h3 hw0
    apply hR 10
    simp (maxSteps := 10000000) (disch := omega) only [hS, hn, sm_eqs, hf, ha, sm_b0, Int.reduceToNat, ↓reduceIte, Nat.reduceEqDiff, true_and, and_true, List.length_nil, List.length_cons, Nat.reduceAdd, Nat.reduceLeDiff, Nat.zero_le, false_implies, true_implies, not_true_eq_false, not_false_eq_true, implies_true, Nat.reduceSub, Nat.reduceMul, Nat.reduceDiv, reduceCtorEq, tn_clamp, nI_t, tn_nI, nI_add, pk_mul, rS_gS, rS_gA, rS_gL, rA_gS, rA_gA, rA_gL, rL_gS, rL_gA, rL_gL, and_self, and_false, false_and, if_true, if_false, true_or, or_true, or_false, false_or, sm_in, eqI, sI_s, Int32.toInt_zero, Int.natCast_zero, Int.natCast_one, Int.cast_ofNat_Int, Int.reduceEq, Int.reduceLT, Int.reduceLE, Int.reduceNeg, Int.reduceNe, ne_eq, n_up, g_up, e_cat, fr_A, fr_O, fr_P, fr_L, sp_X8_has, sp_X8_whereOf, sp_X8_bagOf, sp_X8_ageOf, sp_X8_kindOf, sp_X8_finderOf, sp_X8_takerOf, sp_X8_outDayOf, sp_X8_whyOf, sp_X8_countInside, sp_X2_standingOn, zt, zc, a, hkn]
    clear hn hf ha hS hR
    repeat' (first | (refine And.intro ?_ ?_) | (intro _))
    all_goals (first | with_reducible assumption | omega | (exfalso; omega))
  have s103 : okT g k → w.toInt = 3 → J 103 [some (.ref 0), some (.int k), some (.int w)] [] g := by
    intro a b
    have h1 := h1 a ⟨by omega, by omega⟩
    unfold plcA at h1
    simp only [b, if_true, if_false, Int.reduceEq] at h1
    have hkn := hkn a
    have hk60 := hk60 a
    obtain ⟨w5, w6, w7⟩ := hw0 a
    clear h2 h3 hw0
    apply hR 10
    simp (maxSteps := 10000000) (disch := omega) only [hS, hn, sm_eqs, hf, ha, sm_b0, Int.reduceToNat, ↓reduceIte, Nat.reduceEqDiff, true_and, and_true, List.length_nil, List.length_cons, Nat.reduceAdd, Nat.reduceLeDiff, Nat.zero_le, false_implies, true_implies, not_true_eq_false, not_false_eq_true, implies_true, Nat.reduceSub, Nat.reduceMul, Nat.reduceDiv, reduceCtorEq, tn_clamp, nI_t, tn_nI, nI_add, pk_mul, rS_gS, rS_gA, rS_gL, rA_gS, rA_gA, rA_gL, rL_gS, rL_gA, rL_gL, and_self, and_false, false_and, if_true, if_false, true_or, or_true, or_false, false_or, sm_in, eqI, sI_s, Int32.toInt_zero, Int.natCast_zero, Int.natCast_one, Int.cast_ofNat_Int, Int.reduceEq, Int.reduceLT, Int.reduceLE, Int.reduceNeg, Int.reduceNe, ne_eq, n_up, g_up, e_cat, fr_A, fr_O, fr_P, fr_L, sp_X8_has, sp_X8_whereOf, sp_X8_bagOf, sp_X8_ageOf, sp_X8_kindOf, sp_X8_finderOf, sp_X8_takerOf, sp_X8_outDayOf, sp_X8_whyOf, sp_X8_countInside, sp_X2_standingOn, zt, zc, a, hkn]
    clear hn hf ha hS hR
    repeat' (first | (refine And.intro ?_ ?_) | (intro _))
    all_goals (first | with_reducible assumption | omega | (exfalso; omega))
  have s112 : okT g k → w.toInt = 4 → J 112 [some (.ref 0), some (.int k), some (.int w)] [] g := by
    intro a b
    have h1 := h1 a ⟨by omega, by omega⟩
    unfold plcA at h1
    simp only [b, if_true, if_false, Int.reduceEq] at h1
    have hkn := hkn a
    have hk60 := hk60 a
    obtain ⟨w5, w6, w7⟩ := hw0 a
    clear h2 h3 hw0
    apply hR 10
    simp (maxSteps := 10000000) (disch := omega) only [hS, hn, sm_eqs, hf, ha, sm_b0, Int.reduceToNat, ↓reduceIte, Nat.reduceEqDiff, true_and, and_true, List.length_nil, List.length_cons, Nat.reduceAdd, Nat.reduceLeDiff, Nat.zero_le, false_implies, true_implies, not_true_eq_false, not_false_eq_true, implies_true, Nat.reduceSub, Nat.reduceMul, Nat.reduceDiv, reduceCtorEq, tn_clamp, nI_t, tn_nI, nI_add, pk_mul, rS_gS, rS_gA, rS_gL, rA_gS, rA_gA, rA_gL, rL_gS, rL_gA, rL_gL, and_self, and_false, false_and, if_true, if_false, true_or, or_true, or_false, false_or, sm_in, eqI, sI_s, Int32.toInt_zero, Int.natCast_zero, Int.natCast_one, Int.cast_ofNat_Int, Int.reduceEq, Int.reduceLT, Int.reduceLE, Int.reduceNeg, Int.reduceNe, ne_eq, n_up, g_up, e_cat, fr_A, fr_O, fr_P, fr_L, sp_X8_has, sp_X8_whereOf, sp_X8_bagOf, sp_X8_ageOf, sp_X8_kindOf, sp_X8_finderOf, sp_X8_takerOf, sp_X8_outDayOf, sp_X8_whyOf, sp_X8_countInside, sp_X2_standingOn, zt, zc, a, hkn]
    clear hn hf ha hS hR
    repeat' (first | (refine And.intro ?_ ?_) | (intro _))
    all_goals (first | with_reducible assumption | omega | (exfalso; omega))
  have s121 : okT g k → w.toInt = 5 → J 121 [some (.ref 0), some (.int k), some (.int w)] [] g := by
    intro a b
    have h1 := h1 a ⟨by omega, by omega⟩
    unfold plcA at h1
    simp only [b, if_true, if_false, Int.reduceEq] at h1
    have hkn := hkn a
    have hk60 := hk60 a
    obtain ⟨w5, w6, w7⟩ := hw0 a
    clear h2 h3 hw0
    apply hR 10
    simp (maxSteps := 10000000) (disch := omega) only [hS, hn, sm_eqs, hf, ha, sm_b0, Int.reduceToNat, ↓reduceIte, Nat.reduceEqDiff, true_and, and_true, List.length_nil, List.length_cons, Nat.reduceAdd, Nat.reduceLeDiff, Nat.zero_le, false_implies, true_implies, not_true_eq_false, not_false_eq_true, implies_true, Nat.reduceSub, Nat.reduceMul, Nat.reduceDiv, reduceCtorEq, tn_clamp, nI_t, tn_nI, nI_add, pk_mul, rS_gS, rS_gA, rS_gL, rA_gS, rA_gA, rA_gL, rL_gS, rL_gA, rL_gL, and_self, and_false, false_and, if_true, if_false, true_or, or_true, or_false, false_or, sm_in, eqI, sI_s, Int32.toInt_zero, Int.natCast_zero, Int.natCast_one, Int.cast_ofNat_Int, Int.reduceEq, Int.reduceLT, Int.reduceLE, Int.reduceNeg, Int.reduceNe, ne_eq, n_up, g_up, e_cat, fr_A, fr_O, fr_P, fr_L, sp_X8_has, sp_X8_whereOf, sp_X8_bagOf, sp_X8_ageOf, sp_X8_kindOf, sp_X8_finderOf, sp_X8_takerOf, sp_X8_outDayOf, sp_X8_whyOf, sp_X8_countInside, sp_X2_standingOn, zt, zc, a, hkn]
    clear hn hf ha hS hR
    repeat' (first | (refine And.intro ?_ ?_) | (intro _))
    all_goals (first | with_reducible assumption | omega | (exfalso; omega))
  have s130 : okT g k → w.toInt = 6 → J 130 [some (.ref 0), some (.int k), some (.int w)] [] g := by
    intro a b
    have h1 := h1 a ⟨by omega, by omega⟩
    unfold plcA at h1
    simp only [b, if_true, if_false, Int.reduceEq] at h1
    have hkn := hkn a
    have hk60 := hk60 a
    obtain ⟨w5, w6, w7⟩ := hw0 a
    clear h2 h3 hw0
    apply hR 10
    simp (maxSteps := 10000000) (disch := omega) only [hS, hn, sm_eqs, hf, ha, sm_b0, Int.reduceToNat, ↓reduceIte, Nat.reduceEqDiff, true_and, and_true, List.length_nil, List.length_cons, Nat.reduceAdd, Nat.reduceLeDiff, Nat.zero_le, false_implies, true_implies, not_true_eq_false, not_false_eq_true, implies_true, Nat.reduceSub, Nat.reduceMul, Nat.reduceDiv, reduceCtorEq, tn_clamp, nI_t, tn_nI, nI_add, pk_mul, rS_gS, rS_gA, rS_gL, rA_gS, rA_gA, rA_gL, rL_gS, rL_gA, rL_gL, and_self, and_false, false_and, if_true, if_false, true_or, or_true, or_false, false_or, sm_in, eqI, sI_s, Int32.toInt_zero, Int.natCast_zero, Int.natCast_one, Int.cast_ofNat_Int, Int.reduceEq, Int.reduceLT, Int.reduceLE, Int.reduceNeg, Int.reduceNe, ne_eq, n_up, g_up, e_cat, fr_A, fr_O, fr_P, fr_L, sp_X8_has, sp_X8_whereOf, sp_X8_bagOf, sp_X8_ageOf, sp_X8_kindOf, sp_X8_finderOf, sp_X8_takerOf, sp_X8_outDayOf, sp_X8_whyOf, sp_X8_countInside, sp_X2_standingOn, zt, zc, a, hkn]
    clear hn hf ha hS hR
    repeat' (first | (refine And.intro ?_ ?_) | (intro _))
    all_goals (first | with_reducible assumption | omega | (exfalso; omega))
  have s139 : okT g k → w.toInt = 7 → J 139 [some (.ref 0), some (.int k), some (.int w)] [] g := by
    intro a b
    have h1 := h1 a ⟨by omega, by omega⟩
    unfold plcA at h1
    simp only [b, if_true, if_false, Int.reduceEq] at h1
    have hkn := hkn a
    have hk60 := hk60 a
    obtain ⟨w5, w6, w7⟩ := hw0 a
    clear h2 h3 hw0
    apply hR 10
    simp (maxSteps := 10000000) (disch := omega) only [hS, hn, sm_eqs, hf, ha, sm_b0, Int.reduceToNat, ↓reduceIte, Nat.reduceEqDiff, true_and, and_true, List.length_nil, List.length_cons, Nat.reduceAdd, Nat.reduceLeDiff, Nat.zero_le, false_implies, true_implies, not_true_eq_false, not_false_eq_true, implies_true, Nat.reduceSub, Nat.reduceMul, Nat.reduceDiv, reduceCtorEq, tn_clamp, nI_t, tn_nI, nI_add, pk_mul, rS_gS, rS_gA, rS_gL, rA_gS, rA_gA, rA_gL, rL_gS, rL_gA, rL_gL, and_self, and_false, false_and, if_true, if_false, true_or, or_true, or_false, false_or, sm_in, eqI, sI_s, Int32.toInt_zero, Int.natCast_zero, Int.natCast_one, Int.cast_ofNat_Int, Int.reduceEq, Int.reduceLT, Int.reduceLE, Int.reduceNeg, Int.reduceNe, ne_eq, n_up, g_up, e_cat, fr_A, fr_O, fr_P, fr_L, sp_X8_has, sp_X8_whereOf, sp_X8_bagOf, sp_X8_ageOf, sp_X8_kindOf, sp_X8_finderOf, sp_X8_takerOf, sp_X8_outDayOf, sp_X8_whyOf, sp_X8_countInside, sp_X2_standingOn, zt, zc, a, hkn]
    clear hn hf ha hS hR
    repeat' (first | (refine And.intro ?_ ?_) | (intro _))
    all_goals (first | with_reducible assumption | omega | (exfalso; omega))
  have s148 : okT g k → w.toInt = 8 → J 148 [some (.ref 0), some (.int k), some (.int w)] [] g := by
    intro a b
    have h1 := h1 a ⟨by omega, by omega⟩
    unfold plcA at h1
    simp only [b, if_true, if_false, Int.reduceEq] at h1
    have hkn := hkn a
    have hk60 := hk60 a
    obtain ⟨w5, w6, w7⟩ := hw0 a
    clear h2 h3 hw0
    apply hR 10
    simp (maxSteps := 10000000) (disch := omega) only [hS, hn, sm_eqs, hf, ha, sm_b0, Int.reduceToNat, ↓reduceIte, Nat.reduceEqDiff, true_and, and_true, List.length_nil, List.length_cons, Nat.reduceAdd, Nat.reduceLeDiff, Nat.zero_le, false_implies, true_implies, not_true_eq_false, not_false_eq_true, implies_true, Nat.reduceSub, Nat.reduceMul, Nat.reduceDiv, reduceCtorEq, tn_clamp, nI_t, tn_nI, nI_add, pk_mul, rS_gS, rS_gA, rS_gL, rA_gS, rA_gA, rA_gL, rL_gS, rL_gA, rL_gL, and_self, and_false, false_and, if_true, if_false, true_or, or_true, or_false, false_or, sm_in, eqI, sI_s, Int32.toInt_zero, Int.natCast_zero, Int.natCast_one, Int.cast_ofNat_Int, Int.reduceEq, Int.reduceLT, Int.reduceLE, Int.reduceNeg, Int.reduceNe, ne_eq, n_up, g_up, e_cat, fr_A, fr_O, fr_P, fr_L, sp_X8_has, sp_X8_whereOf, sp_X8_bagOf, sp_X8_ageOf, sp_X8_kindOf, sp_X8_finderOf, sp_X8_takerOf, sp_X8_outDayOf, sp_X8_whyOf, sp_X8_countInside, sp_X2_standingOn, zt, zc, a, hkn]
    clear hn hf ha hS hR
    repeat' (first | (refine And.intro ?_ ?_) | (intro _))
    all_goals (first | with_reducible assumption | omega | (exfalso; omega))
  have s157 : okT g k → w.toInt = 9 → J 157 [some (.ref 0), some (.int k), some (.int w)] [] g := by
    intro a b
    have h1 := h1 a ⟨by omega, by omega⟩
    unfold plcA at h1
    simp only [b, if_true, if_false, Int.reduceEq] at h1
    have hkn := hkn a
    have hk60 := hk60 a
    obtain ⟨w5, w6, w7⟩ := hw0 a
    clear h2 h3 hw0
    apply hR 10
    simp (maxSteps := 10000000) (disch := omega) only [hS, hn, sm_eqs, hf, ha, sm_b0, Int.reduceToNat, ↓reduceIte, Nat.reduceEqDiff, true_and, and_true, List.length_nil, List.length_cons, Nat.reduceAdd, Nat.reduceLeDiff, Nat.zero_le, false_implies, true_implies, not_true_eq_false, not_false_eq_true, implies_true, Nat.reduceSub, Nat.reduceMul, Nat.reduceDiv, reduceCtorEq, tn_clamp, nI_t, tn_nI, nI_add, pk_mul, rS_gS, rS_gA, rS_gL, rA_gS, rA_gA, rA_gL, rL_gS, rL_gA, rL_gL, and_self, and_false, false_and, if_true, if_false, true_or, or_true, or_false, false_or, sm_in, eqI, sI_s, Int32.toInt_zero, Int.natCast_zero, Int.natCast_one, Int.cast_ofNat_Int, Int.reduceEq, Int.reduceLT, Int.reduceLE, Int.reduceNeg, Int.reduceNe, ne_eq, n_up, g_up, e_cat, fr_A, fr_O, fr_P, fr_L, sp_X8_has, sp_X8_whereOf, sp_X8_bagOf, sp_X8_ageOf, sp_X8_kindOf, sp_X8_finderOf, sp_X8_takerOf, sp_X8_outDayOf, sp_X8_whyOf, sp_X8_countInside, sp_X2_standingOn, zt, zc, a, hkn]
    clear hn hf ha hS hR
    repeat' (first | (refine And.intro ?_ ?_) | (intro _))
    all_goals (first | with_reducible assumption | omega | (exfalso; omega))
  have s22 : okT g k → J 22 [some (.ref 0), some (.int k), some (.int w)] [] g := by
    intro a
    have h3 := h3 a
    have s76 := s76 a
    have s85 := s85 a
    have s94 := s94 a
    have s103 := s103 a
    have s112 := s112 a
    have s121 := s121 a
    have s130 := s130 a
    have s139 := s139 a
    have s148 := s148 a
    have s157 := s157 a
    clear h1 h2 hw0 hkn hk60
    apply hR 1
    simp (maxSteps := 10000000) (disch := omega) only [hS, hn, sm_eqs, hf, ha, sm_b0, Int.reduceToNat, ↓reduceIte, Nat.reduceEqDiff, true_and, and_true, List.length_nil, List.length_cons, Nat.reduceAdd, Nat.reduceLeDiff, Nat.zero_le, false_implies, true_implies, not_true_eq_false, not_false_eq_true, implies_true, Nat.reduceSub, Nat.reduceMul, Nat.reduceDiv, reduceCtorEq, tn_clamp, nI_t, tn_nI, nI_add, pk_mul, rS_gS, rS_gA, rS_gL, rA_gS, rA_gA, rA_gL, rL_gS, rL_gA, rL_gL, and_self, and_false, false_and, if_true, if_false, true_or, or_true, or_false, false_or, sm_in, eqI, sI_s, Int32.toInt_zero, Int.natCast_zero, Int.natCast_one, Int.cast_ofNat_Int, Int.reduceEq, Int.reduceLT, Int.reduceLE, Int.reduceNeg, Int.reduceNe, ne_eq, n_up, g_up, e_cat, fr_A, fr_O, fr_P, fr_L, sp_X8_has, sp_X8_whereOf, sp_X8_bagOf, sp_X8_ageOf, sp_X8_kindOf, sp_X8_finderOf, sp_X8_takerOf, sp_X8_outDayOf, sp_X8_whyOf, sp_X8_countInside, sp_X2_standingOn, hS0]
    clear hn hf ha hS hR
    exact ⟨fun b => h3 (by omega), fun b => s76 (by omega), fun b => s85 (by omega), fun b => s94 (by omega), fun b => s103 (by omega), fun b => s112 (by omega), fun b => s121 (by omega), fun b => s130 (by omega), fun b => s139 (by omega), fun b => s148 (by omega), fun b => s157 (by omega)⟩
  clear h1 h3 hw0 hkn hk60 s76 s85 s94 s103 s112 s121 s130 s139 s148 s157
  apply hR 4
  simp (maxSteps := 10000000) (disch := omega) only [hS, hn, sm_eqs, hf, ha, sm_b0, Int.reduceToNat, ↓reduceIte, Nat.reduceEqDiff, true_and, and_true, List.length_nil, List.length_cons, Nat.reduceAdd, Nat.reduceLeDiff, Nat.zero_le, false_implies, true_implies, not_true_eq_false, not_false_eq_true, implies_true, Nat.reduceSub, Nat.reduceMul, Nat.reduceDiv, reduceCtorEq, tn_clamp, nI_t, tn_nI, nI_add, pk_mul, rS_gS, rS_gA, rS_gL, rA_gS, rA_gA, rA_gL, rL_gS, rL_gA, rL_gL, and_self, and_false, false_and, if_true, if_false, true_or, or_true, or_false, false_or, sm_in, eqI, sI_s, Int32.toInt_zero, Int.natCast_zero, Int.natCast_one, Int.cast_ofNat_Int, Int.reduceEq, Int.reduceLT, Int.reduceLE, Int.reduceNeg, Int.reduceNe, ne_eq, n_up, g_up, e_cat, fr_A, fr_O, fr_P, fr_L, sp_X8_has, sp_X8_whereOf, sp_X8_bagOf, sp_X8_ageOf, sp_X8_kindOf, sp_X8_finderOf, sp_X8_takerOf, sp_X8_outDayOf, sp_X8_whyOf, sp_X8_countInside, sp_X2_standingOn, zt, hS0]
  clear hn hf ha hS hR
  exact ⟨s22, h2⟩


