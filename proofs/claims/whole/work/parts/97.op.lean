/-! The law's cases. -/
/-- a spec read loosely: what holds of less -/
def spM (sp : sm_SP) : sm_SP := fun as g K => ∃ K0, sp as g K0 ∧ ∀ v u, K0 v u → K v u
set_option maxHeartbeats 4000000 in
set_option maxRecDepth 100000 in
theorem op_0 (K : Option Value → sm_G → Prop) (J : Nat → sm_Lo → List Value → sm_G → Prop) (S : Nat → Nat → sm_Lo → List Value → sm_G → Prop) (cs : Nat → sm_SP) (Ls : Nat) (xs : Nat → Int32) (hW : sm_walk lay NL_law cs (some (Ls, xs)) 1 K J S) (hS0 : ∀ pc ls st g, S 0 pc ls st g = J pc ls st g)
    (c1 : cs 114 = spM sp_X9_question) (c2 : cs 161 = spM (spE sp_X10_question)) (i : Nat) (hi : i + 5 ≤ Ls) (hL : Ls ≤ 2560) (g : sm_G) (a b : Option Value) (hg : CP g g) (next : ∀ u, CP u u → J 1580 [some (.ref 1000), some (.ref 0), some (.ref 53), some (.ref 85), some (.int (nI i)), a, b] [] u) : J 188 [some (.ref 1000), some (.ref 0), some (.ref 53), some (.ref 85), some (.int (nI i)), a, b] [] g := by
  have hn := n_L_law
  have hf := fd_all
  have ha := ar_all
  generalize NL_law = N at hn hW
  generalize lay = L at hf ha hW
  obtain ⟨hS, hR⟩ := hW
  apply hR 16
  simp (maxSteps := 10000000) (disch := omega) only [hS, hn, sm_eqs, hf, ha, sm_b0, Int.reduceToNat, ↓reduceIte, Nat.reduceEqDiff, true_and, and_true, List.length_nil, List.length_cons, Nat.reduceAdd, Nat.reduceLeDiff, Nat.zero_le, false_implies, true_implies, not_true_eq_false, not_false_eq_true, implies_true, Nat.reduceSub, Nat.reduceMul, reduceCtorEq, tn_clamp, nI_t, tn_nI, nI_add, pk_mul, rS_gS, rS_gA, rS_gL, rA_gS, rA_gA, rA_gL, rL_gS, rL_gA, rL_gL, and_self, and_false, false_and, if_true, if_false, true_or, or_true, or_false, false_or, sm_in, eqI, sI_s, Int32.toInt_zero, Int.natCast_zero, Int.natCast_one, Int.cast_ofNat_Int, Int.reduceEq, Int.reduceLT, Int.reduceLE, Int.reduceNeg, Int.reduceNe, ne_eq, n_up, g_up, e_cat, fr_A, fr_O, fr_P, fr_L, hS0, c1]
  repeat' (with_reducible refine And.intro ?_ ?_)
  all_goals (first | omega | skip)
  refine ⟨_, co_question _ _ _ g hg, fun v u hv => ?_⟩
  obtain ⟨x, rfl, hm⟩ := hv
  show J 210 [some (.ref 1000), some (.ref 0), some (.ref 53), some (.ref 85), some (.int (nI i)), a, b] [.int x] u
  apply hR 16
  simp (maxSteps := 10000000) (disch := omega) only [hS, hn, sm_eqs, hf, ha, sm_b0, Int.reduceToNat, ↓reduceIte, Nat.reduceEqDiff, true_and, and_true, List.length_nil, List.length_cons, Nat.reduceAdd, Nat.reduceLeDiff, Nat.zero_le, false_implies, true_implies, not_true_eq_false, not_false_eq_true, implies_true, Nat.reduceSub, Nat.reduceMul, reduceCtorEq, tn_clamp, nI_t, tn_nI, nI_add, pk_mul, rS_gS, rS_gA, rS_gL, rA_gS, rA_gA, rA_gL, rL_gS, rL_gA, rL_gL, and_self, and_false, false_and, if_true, if_false, true_or, or_true, or_false, false_or, sm_in, eqI, sI_s, Int32.toInt_zero, Int.natCast_zero, Int.natCast_one, Int.cast_ofNat_Int, Int.reduceEq, Int.reduceLT, Int.reduceLE, Int.reduceNeg, Int.reduceNe, ne_eq, n_up, g_up, e_cat, fr_A, fr_O, fr_P, fr_L, hS0, c2]
  repeat' (with_reducible refine And.intro ?_ ?_)
  all_goals (first | omega | skip)
  refine ⟨_, hm, fun v u2 hv => ?_⟩
  obtain ⟨rfl, hc⟩ := hv
  show J 232 [some (.ref 1000), some (.ref 0), some (.ref 53), some (.ref 85), some (.int (nI i)), a, b] [.int x, .int x] u2
  apply hR 0
  simp (maxSteps := 10000000) (disch := omega) only [hS, hn, sm_eqs, hf, ha, sm_b0, Int.reduceToNat, ↓reduceIte, Nat.reduceEqDiff, true_and, and_true, List.length_nil, List.length_cons, Nat.reduceAdd, Nat.reduceLeDiff, Nat.zero_le, false_implies, true_implies, not_true_eq_false, not_false_eq_true, implies_true, Nat.reduceSub, Nat.reduceMul, reduceCtorEq, tn_clamp, nI_t, tn_nI, nI_add, pk_mul, rS_gS, rS_gA, rS_gL, rA_gS, rA_gA, rA_gL, rL_gS, rL_gA, rL_gL, and_self, and_false, false_and, if_true, if_false, true_or, or_true, or_false, false_or, sm_in, eqI, sI_s, Int32.toInt_zero, Int.natCast_zero, Int.natCast_one, Int.cast_ofNat_Int, Int.reduceEq, Int.reduceLT, Int.reduceLE, Int.reduceNeg, Int.reduceNe, ne_eq, n_up, g_up, e_cat, fr_A, fr_O, fr_P, fr_L, hS0]
  exact next u2 hc

set_option maxHeartbeats 4000000 in
set_option maxRecDepth 100000 in
theorem op_1 (K : Option Value → sm_G → Prop) (J : Nat → sm_Lo → List Value → sm_G → Prop) (S : Nat → Nat → sm_Lo → List Value → sm_G → Prop) (cs : Nat → sm_SP) (Ls : Nat) (xs : Nat → Int32) (hW : sm_walk lay NL_law cs (some (Ls, xs)) 1 K J S) (hS0 : ∀ pc ls st g, S 0 pc ls st g = J pc ls st g)
    (c1 : cs 115 = spM sp_X9_may) (c2 : cs 165 = spM (spE sp_X10_may)) (i : Nat) (hi : i + 5 ≤ Ls) (hL : Ls ≤ 2560) (g : sm_G) (a b : Option Value) (hg : CP g g) (next : ∀ u, CP u u → J 1580 [some (.ref 1000), some (.ref 0), some (.ref 53), some (.ref 85), some (.int (nI i)), a, b] [] u) : J 237 [some (.ref 1000), some (.ref 0), some (.ref 53), some (.ref 85), some (.int (nI i)), a, b] [] g := by
  have hn := n_L_law
  have hf := fd_all
  have ha := ar_all
  generalize NL_law = N at hn hW
  generalize lay = L at hf ha hW
  obtain ⟨hS, hR⟩ := hW
  by_cases hb : (xs (i + 4)).toInt = 0
  · apply hR 23
    simp (maxSteps := 10000000) (disch := omega) only [hS, hn, sm_eqs, hf, ha, sm_b0, Int.reduceToNat, ↓reduceIte, Nat.reduceEqDiff, true_and, and_true, List.length_nil, List.length_cons, Nat.reduceAdd, Nat.reduceLeDiff, Nat.zero_le, false_implies, true_implies, not_true_eq_false, not_false_eq_true, implies_true, Nat.reduceSub, Nat.reduceMul, reduceCtorEq, tn_clamp, nI_t, tn_nI, nI_add, pk_mul, rS_gS, rS_gA, rS_gL, rA_gS, rA_gA, rA_gL, rL_gS, rL_gA, rL_gL, and_self, and_false, false_and, if_true, if_false, true_or, or_true, or_false, false_or, sm_in, eqI, sI_s, Int32.toInt_zero, Int.natCast_zero, Int.natCast_one, Int.cast_ofNat_Int, Int.reduceEq, Int.reduceLT, Int.reduceLE, Int.reduceNeg, Int.reduceNe, ne_eq, n_up, g_up, e_cat, fr_A, fr_O, fr_P, fr_L, hS0, c1, hb]
    repeat' (with_reducible refine And.intro ?_ ?_)
    all_goals (first | omega | skip)
    refine ⟨_, co_may _ _ _ _ (by first | exact Or.inl rfl | exact Or.inr rfl) g hg, fun v u hv => ?_⟩
    obtain ⟨x, rfl, hm⟩ := hv
    show J 273 [some (.ref 1000), some (.ref 0), some (.ref 53), some (.ref 85), some (.int (nI i)), a, b] [.int x] u
    apply hR 23
    simp (maxSteps := 10000000) (disch := omega) only [hS, hn, sm_eqs, hf, ha, sm_b0, Int.reduceToNat, ↓reduceIte, Nat.reduceEqDiff, true_and, and_true, List.length_nil, List.length_cons, Nat.reduceAdd, Nat.reduceLeDiff, Nat.zero_le, false_implies, true_implies, not_true_eq_false, not_false_eq_true, implies_true, Nat.reduceSub, Nat.reduceMul, reduceCtorEq, tn_clamp, nI_t, tn_nI, nI_add, pk_mul, rS_gS, rS_gA, rS_gL, rA_gS, rA_gA, rA_gL, rL_gS, rL_gA, rL_gL, and_self, and_false, false_and, if_true, if_false, true_or, or_true, or_false, false_or, sm_in, eqI, sI_s, Int32.toInt_zero, Int.natCast_zero, Int.natCast_one, Int.cast_ofNat_Int, Int.reduceEq, Int.reduceLT, Int.reduceLE, Int.reduceNeg, Int.reduceNe, ne_eq, n_up, g_up, e_cat, fr_A, fr_O, fr_P, fr_L, hS0, c2, hb]
    repeat' (with_reducible refine And.intro ?_ ?_)
    all_goals (first | omega | skip)
    refine ⟨_, hm, fun v u2 hv => ?_⟩
    obtain ⟨rfl, hc⟩ := hv
    show J 309 [some (.ref 1000), some (.ref 0), some (.ref 53), some (.ref 85), some (.int (nI i)), a, b] [.int x, .int x] u2
    apply hR 0
    simp (maxSteps := 10000000) (disch := omega) only [hS, hn, sm_eqs, hf, ha, sm_b0, Int.reduceToNat, ↓reduceIte, Nat.reduceEqDiff, true_and, and_true, List.length_nil, List.length_cons, Nat.reduceAdd, Nat.reduceLeDiff, Nat.zero_le, false_implies, true_implies, not_true_eq_false, not_false_eq_true, implies_true, Nat.reduceSub, Nat.reduceMul, reduceCtorEq, tn_clamp, nI_t, tn_nI, nI_add, pk_mul, rS_gS, rS_gA, rS_gL, rA_gS, rA_gA, rA_gL, rL_gS, rL_gA, rL_gL, and_self, and_false, false_and, if_true, if_false, true_or, or_true, or_false, false_or, sm_in, eqI, sI_s, Int32.toInt_zero, Int.natCast_zero, Int.natCast_one, Int.cast_ofNat_Int, Int.reduceEq, Int.reduceLT, Int.reduceLE, Int.reduceNeg, Int.reduceNe, ne_eq, n_up, g_up, e_cat, fr_A, fr_O, fr_P, fr_L, hS0]
    exact next u2 hc
  · apply hR 24
    simp (maxSteps := 10000000) (disch := omega) only [hS, hn, sm_eqs, hf, ha, sm_b0, Int.reduceToNat, ↓reduceIte, Nat.reduceEqDiff, true_and, and_true, List.length_nil, List.length_cons, Nat.reduceAdd, Nat.reduceLeDiff, Nat.zero_le, false_implies, true_implies, not_true_eq_false, not_false_eq_true, implies_true, Nat.reduceSub, Nat.reduceMul, reduceCtorEq, tn_clamp, nI_t, tn_nI, nI_add, pk_mul, rS_gS, rS_gA, rS_gL, rA_gS, rA_gA, rA_gL, rL_gS, rL_gA, rL_gL, and_self, and_false, false_and, if_true, if_false, true_or, or_true, or_false, false_or, sm_in, eqI, sI_s, Int32.toInt_zero, Int.natCast_zero, Int.natCast_one, Int.cast_ofNat_Int, Int.reduceEq, Int.reduceLT, Int.reduceLE, Int.reduceNeg, Int.reduceNe, ne_eq, n_up, g_up, e_cat, fr_A, fr_O, fr_P, fr_L, hS0, c1, hb]
    repeat' (with_reducible refine And.intro ?_ ?_)
    all_goals (first | omega | skip)
    refine ⟨_, co_may _ _ _ _ (by first | exact Or.inl rfl | exact Or.inr rfl) g hg, fun v u hv => ?_⟩
    obtain ⟨x, rfl, hm⟩ := hv
    show J 273 [some (.ref 1000), some (.ref 0), some (.ref 53), some (.ref 85), some (.int (nI i)), a, b] [.int x] u
    apply hR 24
    simp (maxSteps := 10000000) (disch := omega) only [hS, hn, sm_eqs, hf, ha, sm_b0, Int.reduceToNat, ↓reduceIte, Nat.reduceEqDiff, true_and, and_true, List.length_nil, List.length_cons, Nat.reduceAdd, Nat.reduceLeDiff, Nat.zero_le, false_implies, true_implies, not_true_eq_false, not_false_eq_true, implies_true, Nat.reduceSub, Nat.reduceMul, reduceCtorEq, tn_clamp, nI_t, tn_nI, nI_add, pk_mul, rS_gS, rS_gA, rS_gL, rA_gS, rA_gA, rA_gL, rL_gS, rL_gA, rL_gL, and_self, and_false, false_and, if_true, if_false, true_or, or_true, or_false, false_or, sm_in, eqI, sI_s, Int32.toInt_zero, Int.natCast_zero, Int.natCast_one, Int.cast_ofNat_Int, Int.reduceEq, Int.reduceLT, Int.reduceLE, Int.reduceNeg, Int.reduceNe, ne_eq, n_up, g_up, e_cat, fr_A, fr_O, fr_P, fr_L, hS0, c2, hb]
    repeat' (with_reducible refine And.intro ?_ ?_)
    all_goals (first | omega | skip)
    refine ⟨_, hm, fun v u2 hv => ?_⟩
    obtain ⟨rfl, hc⟩ := hv
    show J 309 [some (.ref 1000), some (.ref 0), some (.ref 53), some (.ref 85), some (.int (nI i)), a, b] [.int x, .int x] u2
    apply hR 0
    simp (maxSteps := 10000000) (disch := omega) only [hS, hn, sm_eqs, hf, ha, sm_b0, Int.reduceToNat, ↓reduceIte, Nat.reduceEqDiff, true_and, and_true, List.length_nil, List.length_cons, Nat.reduceAdd, Nat.reduceLeDiff, Nat.zero_le, false_implies, true_implies, not_true_eq_false, not_false_eq_true, implies_true, Nat.reduceSub, Nat.reduceMul, reduceCtorEq, tn_clamp, nI_t, tn_nI, nI_add, pk_mul, rS_gS, rS_gA, rS_gL, rA_gS, rA_gA, rA_gL, rL_gS, rL_gA, rL_gL, and_self, and_false, false_and, if_true, if_false, true_or, or_true, or_false, false_or, sm_in, eqI, sI_s, Int32.toInt_zero, Int.natCast_zero, Int.natCast_one, Int.cast_ofNat_Int, Int.reduceEq, Int.reduceLT, Int.reduceLE, Int.reduceNeg, Int.reduceNe, ne_eq, n_up, g_up, e_cat, fr_A, fr_O, fr_P, fr_L, hS0]
    exact next u2 hc

set_option maxHeartbeats 4000000 in
set_option maxRecDepth 100000 in
theorem op_2 (K : Option Value → sm_G → Prop) (J : Nat → sm_Lo → List Value → sm_G → Prop) (S : Nat → Nat → sm_Lo → List Value → sm_G → Prop) (cs : Nat → sm_SP) (Ls : Nat) (xs : Nat → Int32) (hW : sm_walk lay NL_law cs (some (Ls, xs)) 1 K J S) (hS0 : ∀ pc ls st g, S 0 pc ls st g = J pc ls st g)
    (c1 : cs 116 = spM sp_X9_mays) (c2 : cs 166 = spM (spE sp_X10_mays)) (i : Nat) (hi : i + 5 ≤ Ls) (hL : Ls ≤ 2560) (g : sm_G) (a b : Option Value) (hg : CP g g) (next : ∀ u, CP u u → J 1580 [some (.ref 1000), some (.ref 0), some (.ref 53), some (.ref 85), some (.int (nI i)), a, b] [] u) : J 314 [some (.ref 1000), some (.ref 0), some (.ref 53), some (.ref 85), some (.int (nI i)), a, b] [] g := by
  have hn := n_L_law
  have hf := fd_all
  have ha := ar_all
  generalize NL_law = N at hn hW
  generalize lay = L at hf ha hW
  obtain ⟨hS, hR⟩ := hW
  apply hR 16
  simp (maxSteps := 10000000) (disch := omega) only [hS, hn, sm_eqs, hf, ha, sm_b0, Int.reduceToNat, ↓reduceIte, Nat.reduceEqDiff, true_and, and_true, List.length_nil, List.length_cons, Nat.reduceAdd, Nat.reduceLeDiff, Nat.zero_le, false_implies, true_implies, not_true_eq_false, not_false_eq_true, implies_true, Nat.reduceSub, Nat.reduceMul, reduceCtorEq, tn_clamp, nI_t, tn_nI, nI_add, pk_mul, rS_gS, rS_gA, rS_gL, rA_gS, rA_gA, rA_gL, rL_gS, rL_gA, rL_gL, and_self, and_false, false_and, if_true, if_false, true_or, or_true, or_false, false_or, sm_in, eqI, sI_s, Int32.toInt_zero, Int.natCast_zero, Int.natCast_one, Int.cast_ofNat_Int, Int.reduceEq, Int.reduceLT, Int.reduceLE, Int.reduceNeg, Int.reduceNe, ne_eq, n_up, g_up, e_cat, fr_A, fr_O, fr_P, fr_L, hS0, c1]
  repeat' (with_reducible refine And.intro ?_ ?_)
  all_goals (first | omega | skip)
  refine ⟨_, co_mays _ _ _ g hg, fun v u hv => ?_⟩
  obtain ⟨x, rfl, hm⟩ := hv
  show J 336 [some (.ref 1000), some (.ref 0), some (.ref 53), some (.ref 85), some (.int (nI i)), a, b] [.int x] u
  apply hR 16
  simp (maxSteps := 10000000) (disch := omega) only [hS, hn, sm_eqs, hf, ha, sm_b0, Int.reduceToNat, ↓reduceIte, Nat.reduceEqDiff, true_and, and_true, List.length_nil, List.length_cons, Nat.reduceAdd, Nat.reduceLeDiff, Nat.zero_le, false_implies, true_implies, not_true_eq_false, not_false_eq_true, implies_true, Nat.reduceSub, Nat.reduceMul, reduceCtorEq, tn_clamp, nI_t, tn_nI, nI_add, pk_mul, rS_gS, rS_gA, rS_gL, rA_gS, rA_gA, rA_gL, rL_gS, rL_gA, rL_gL, and_self, and_false, false_and, if_true, if_false, true_or, or_true, or_false, false_or, sm_in, eqI, sI_s, Int32.toInt_zero, Int.natCast_zero, Int.natCast_one, Int.cast_ofNat_Int, Int.reduceEq, Int.reduceLT, Int.reduceLE, Int.reduceNeg, Int.reduceNe, ne_eq, n_up, g_up, e_cat, fr_A, fr_O, fr_P, fr_L, hS0, c2]
  repeat' (with_reducible refine And.intro ?_ ?_)
  all_goals (first | omega | skip)
  refine ⟨_, hm, fun v u2 hv => ?_⟩
  obtain ⟨rfl, hc⟩ := hv
  show J 358 [some (.ref 1000), some (.ref 0), some (.ref 53), some (.ref 85), some (.int (nI i)), a, b] [.int x, .int x] u2
  apply hR 0
  simp (maxSteps := 10000000) (disch := omega) only [hS, hn, sm_eqs, hf, ha, sm_b0, Int.reduceToNat, ↓reduceIte, Nat.reduceEqDiff, true_and, and_true, List.length_nil, List.length_cons, Nat.reduceAdd, Nat.reduceLeDiff, Nat.zero_le, false_implies, true_implies, not_true_eq_false, not_false_eq_true, implies_true, Nat.reduceSub, Nat.reduceMul, reduceCtorEq, tn_clamp, nI_t, tn_nI, nI_add, pk_mul, rS_gS, rS_gA, rS_gL, rA_gS, rA_gA, rA_gL, rL_gS, rL_gA, rL_gL, and_self, and_false, false_and, if_true, if_false, true_or, or_true, or_false, false_or, sm_in, eqI, sI_s, Int32.toInt_zero, Int.natCast_zero, Int.natCast_one, Int.cast_ofNat_Int, Int.reduceEq, Int.reduceLT, Int.reduceLE, Int.reduceNeg, Int.reduceNe, ne_eq, n_up, g_up, e_cat, fr_A, fr_O, fr_P, fr_L, hS0]
  exact next u2 hc

set_option maxHeartbeats 4000000 in
set_option maxRecDepth 100000 in
theorem op_3 (K : Option Value → sm_G → Prop) (J : Nat → sm_Lo → List Value → sm_G → Prop) (S : Nat → Nat → sm_Lo → List Value → sm_G → Prop) (cs : Nat → sm_SP) (Ls : Nat) (xs : Nat → Int32) (hW : sm_walk lay NL_law cs (some (Ls, xs)) 1 K J S) (hS0 : ∀ pc ls st g, S 0 pc ls st g = J pc ls st g)
    (c1 : cs 117 = spM sp_X9_thing) (c2 : cs 171 = spM (spE sp_X10_thing)) (i : Nat) (hi : i + 5 ≤ Ls) (hL : Ls ≤ 2560) (g : sm_G) (a b : Option Value) (hg : CP g g) (next : ∀ u, CP u u → J 1580 [some (.ref 1000), some (.ref 0), some (.ref 53), some (.ref 85), some (.int (nI i)), a, b] [] u) : J 363 [some (.ref 1000), some (.ref 0), some (.ref 53), some (.ref 85), some (.int (nI i)), a, b] [] g := by
  have hn := n_L_law
  have hf := fd_all
  have ha := ar_all
  generalize NL_law = N at hn hW
  generalize lay = L at hf ha hW
  obtain ⟨hS, hR⟩ := hW
  by_cases hb : (xs (i + 3)).toInt = 0
  · apply hR 23
    simp (maxSteps := 10000000) (disch := omega) only [hS, hn, sm_eqs, hf, ha, sm_b0, Int.reduceToNat, ↓reduceIte, Nat.reduceEqDiff, true_and, and_true, List.length_nil, List.length_cons, Nat.reduceAdd, Nat.reduceLeDiff, Nat.zero_le, false_implies, true_implies, not_true_eq_false, not_false_eq_true, implies_true, Nat.reduceSub, Nat.reduceMul, reduceCtorEq, tn_clamp, nI_t, tn_nI, nI_add, pk_mul, rS_gS, rS_gA, rS_gL, rA_gS, rA_gA, rA_gL, rL_gS, rL_gA, rL_gL, and_self, and_false, false_and, if_true, if_false, true_or, or_true, or_false, false_or, sm_in, eqI, sI_s, Int32.toInt_zero, Int.natCast_zero, Int.natCast_one, Int.cast_ofNat_Int, Int.reduceEq, Int.reduceLT, Int.reduceLE, Int.reduceNeg, Int.reduceNe, ne_eq, n_up, g_up, e_cat, fr_A, fr_O, fr_P, fr_L, hS0, c1, hb]
    repeat' (with_reducible refine And.intro ?_ ?_)
    all_goals (first | omega | skip)
    refine ⟨_, co_thing _ _ _ _ (by first | exact Or.inl rfl | exact Or.inr rfl) g hg, fun v u hv => ?_⟩
    obtain ⟨x, rfl, hm⟩ := hv
    show J 399 [some (.ref 1000), some (.ref 0), some (.ref 53), some (.ref 85), some (.int (nI i)), a, b] [.int x] u
    apply hR 23
    simp (maxSteps := 10000000) (disch := omega) only [hS, hn, sm_eqs, hf, ha, sm_b0, Int.reduceToNat, ↓reduceIte, Nat.reduceEqDiff, true_and, and_true, List.length_nil, List.length_cons, Nat.reduceAdd, Nat.reduceLeDiff, Nat.zero_le, false_implies, true_implies, not_true_eq_false, not_false_eq_true, implies_true, Nat.reduceSub, Nat.reduceMul, reduceCtorEq, tn_clamp, nI_t, tn_nI, nI_add, pk_mul, rS_gS, rS_gA, rS_gL, rA_gS, rA_gA, rA_gL, rL_gS, rL_gA, rL_gL, and_self, and_false, false_and, if_true, if_false, true_or, or_true, or_false, false_or, sm_in, eqI, sI_s, Int32.toInt_zero, Int.natCast_zero, Int.natCast_one, Int.cast_ofNat_Int, Int.reduceEq, Int.reduceLT, Int.reduceLE, Int.reduceNeg, Int.reduceNe, ne_eq, n_up, g_up, e_cat, fr_A, fr_O, fr_P, fr_L, hS0, c2, hb]
    repeat' (with_reducible refine And.intro ?_ ?_)
    all_goals (first | omega | skip)
    refine ⟨_, hm, fun v u2 hv => ?_⟩
    obtain ⟨rfl, hc⟩ := hv
    show J 435 [some (.ref 1000), some (.ref 0), some (.ref 53), some (.ref 85), some (.int (nI i)), a, b] [.int x, .int x] u2
    apply hR 0
    simp (maxSteps := 10000000) (disch := omega) only [hS, hn, sm_eqs, hf, ha, sm_b0, Int.reduceToNat, ↓reduceIte, Nat.reduceEqDiff, true_and, and_true, List.length_nil, List.length_cons, Nat.reduceAdd, Nat.reduceLeDiff, Nat.zero_le, false_implies, true_implies, not_true_eq_false, not_false_eq_true, implies_true, Nat.reduceSub, Nat.reduceMul, reduceCtorEq, tn_clamp, nI_t, tn_nI, nI_add, pk_mul, rS_gS, rS_gA, rS_gL, rA_gS, rA_gA, rA_gL, rL_gS, rL_gA, rL_gL, and_self, and_false, false_and, if_true, if_false, true_or, or_true, or_false, false_or, sm_in, eqI, sI_s, Int32.toInt_zero, Int.natCast_zero, Int.natCast_one, Int.cast_ofNat_Int, Int.reduceEq, Int.reduceLT, Int.reduceLE, Int.reduceNeg, Int.reduceNe, ne_eq, n_up, g_up, e_cat, fr_A, fr_O, fr_P, fr_L, hS0]
    exact next u2 hc
  · apply hR 24
    simp (maxSteps := 10000000) (disch := omega) only [hS, hn, sm_eqs, hf, ha, sm_b0, Int.reduceToNat, ↓reduceIte, Nat.reduceEqDiff, true_and, and_true, List.length_nil, List.length_cons, Nat.reduceAdd, Nat.reduceLeDiff, Nat.zero_le, false_implies, true_implies, not_true_eq_false, not_false_eq_true, implies_true, Nat.reduceSub, Nat.reduceMul, reduceCtorEq, tn_clamp, nI_t, tn_nI, nI_add, pk_mul, rS_gS, rS_gA, rS_gL, rA_gS, rA_gA, rA_gL, rL_gS, rL_gA, rL_gL, and_self, and_false, false_and, if_true, if_false, true_or, or_true, or_false, false_or, sm_in, eqI, sI_s, Int32.toInt_zero, Int.natCast_zero, Int.natCast_one, Int.cast_ofNat_Int, Int.reduceEq, Int.reduceLT, Int.reduceLE, Int.reduceNeg, Int.reduceNe, ne_eq, n_up, g_up, e_cat, fr_A, fr_O, fr_P, fr_L, hS0, c1, hb]
    repeat' (with_reducible refine And.intro ?_ ?_)
    all_goals (first | omega | skip)
    refine ⟨_, co_thing _ _ _ _ (by first | exact Or.inl rfl | exact Or.inr rfl) g hg, fun v u hv => ?_⟩
    obtain ⟨x, rfl, hm⟩ := hv
    show J 399 [some (.ref 1000), some (.ref 0), some (.ref 53), some (.ref 85), some (.int (nI i)), a, b] [.int x] u
    apply hR 24
    simp (maxSteps := 10000000) (disch := omega) only [hS, hn, sm_eqs, hf, ha, sm_b0, Int.reduceToNat, ↓reduceIte, Nat.reduceEqDiff, true_and, and_true, List.length_nil, List.length_cons, Nat.reduceAdd, Nat.reduceLeDiff, Nat.zero_le, false_implies, true_implies, not_true_eq_false, not_false_eq_true, implies_true, Nat.reduceSub, Nat.reduceMul, reduceCtorEq, tn_clamp, nI_t, tn_nI, nI_add, pk_mul, rS_gS, rS_gA, rS_gL, rA_gS, rA_gA, rA_gL, rL_gS, rL_gA, rL_gL, and_self, and_false, false_and, if_true, if_false, true_or, or_true, or_false, false_or, sm_in, eqI, sI_s, Int32.toInt_zero, Int.natCast_zero, Int.natCast_one, Int.cast_ofNat_Int, Int.reduceEq, Int.reduceLT, Int.reduceLE, Int.reduceNeg, Int.reduceNe, ne_eq, n_up, g_up, e_cat, fr_A, fr_O, fr_P, fr_L, hS0, c2, hb]
    repeat' (with_reducible refine And.intro ?_ ?_)
    all_goals (first | omega | skip)
    refine ⟨_, hm, fun v u2 hv => ?_⟩
    obtain ⟨rfl, hc⟩ := hv
    show J 435 [some (.ref 1000), some (.ref 0), some (.ref 53), some (.ref 85), some (.int (nI i)), a, b] [.int x, .int x] u2
    apply hR 0
    simp (maxSteps := 10000000) (disch := omega) only [hS, hn, sm_eqs, hf, ha, sm_b0, Int.reduceToNat, ↓reduceIte, Nat.reduceEqDiff, true_and, and_true, List.length_nil, List.length_cons, Nat.reduceAdd, Nat.reduceLeDiff, Nat.zero_le, false_implies, true_implies, not_true_eq_false, not_false_eq_true, implies_true, Nat.reduceSub, Nat.reduceMul, reduceCtorEq, tn_clamp, nI_t, tn_nI, nI_add, pk_mul, rS_gS, rS_gA, rS_gL, rA_gS, rA_gA, rA_gL, rL_gS, rL_gA, rL_gL, and_self, and_false, false_and, if_true, if_false, true_or, or_true, or_false, false_or, sm_in, eqI, sI_s, Int32.toInt_zero, Int.natCast_zero, Int.natCast_one, Int.cast_ofNat_Int, Int.reduceEq, Int.reduceLT, Int.reduceLE, Int.reduceNeg, Int.reduceNe, ne_eq, n_up, g_up, e_cat, fr_A, fr_O, fr_P, fr_L, hS0]
    exact next u2 hc

set_option maxHeartbeats 4000000 in
set_option maxRecDepth 100000 in
theorem op_4 (K : Option Value → sm_G → Prop) (J : Nat → sm_Lo → List Value → sm_G → Prop) (S : Nat → Nat → sm_Lo → List Value → sm_G → Prop) (cs : Nat → sm_SP) (Ls : Nat) (xs : Nat → Int32) (hW : sm_walk lay NL_law cs (some (Ls, xs)) 1 K J S) (hS0 : ∀ pc ls st g, S 0 pc ls st g = J pc ls st g)
    (c1 : cs 118 = spM sp_X9_report) (c2 : cs 172 = spM (spE sp_X10_report)) (i : Nat) (hi : i + 5 ≤ Ls) (hL : Ls ≤ 2560) (g : sm_G) (a b : Option Value) (hg : CP g g) (next : ∀ u, CP u u → J 1580 [some (.ref 1000), some (.ref 0), some (.ref 53), some (.ref 85), some (.int (nI i)), a, b] [] u) : J 440 [some (.ref 1000), some (.ref 0), some (.ref 53), some (.ref 85), some (.int (nI i)), a, b] [] g := by
  have hn := n_L_law
  have hf := fd_all
  have ha := ar_all
  generalize NL_law = N at hn hW
  generalize lay = L at hf ha hW
  obtain ⟨hS, hR⟩ := hW
  apply hR 6
  simp (maxSteps := 10000000) (disch := omega) only [hS, hn, sm_eqs, hf, ha, sm_b0, Int.reduceToNat, ↓reduceIte, Nat.reduceEqDiff, true_and, and_true, List.length_nil, List.length_cons, Nat.reduceAdd, Nat.reduceLeDiff, Nat.zero_le, false_implies, true_implies, not_true_eq_false, not_false_eq_true, implies_true, Nat.reduceSub, Nat.reduceMul, reduceCtorEq, tn_clamp, nI_t, tn_nI, nI_add, pk_mul, rS_gS, rS_gA, rS_gL, rA_gS, rA_gA, rA_gL, rL_gS, rL_gA, rL_gL, and_self, and_false, false_and, if_true, if_false, true_or, or_true, or_false, false_or, sm_in, eqI, sI_s, Int32.toInt_zero, Int.natCast_zero, Int.natCast_one, Int.cast_ofNat_Int, Int.reduceEq, Int.reduceLT, Int.reduceLE, Int.reduceNeg, Int.reduceNe, ne_eq, n_up, g_up, e_cat, fr_A, fr_O, fr_P, fr_L, hS0, c1]
  repeat' (with_reducible refine And.intro ?_ ?_)
  all_goals (first | omega | skip)
  refine ⟨_, co_report _ g hg, fun v u hv => ?_⟩
  obtain ⟨x, rfl, hm⟩ := hv
  show J 450 [some (.ref 1000), some (.ref 0), some (.ref 53), some (.ref 85), some (.int (nI i)), a, b] [.int x] u
  apply hR 6
  simp (maxSteps := 10000000) (disch := omega) only [hS, hn, sm_eqs, hf, ha, sm_b0, Int.reduceToNat, ↓reduceIte, Nat.reduceEqDiff, true_and, and_true, List.length_nil, List.length_cons, Nat.reduceAdd, Nat.reduceLeDiff, Nat.zero_le, false_implies, true_implies, not_true_eq_false, not_false_eq_true, implies_true, Nat.reduceSub, Nat.reduceMul, reduceCtorEq, tn_clamp, nI_t, tn_nI, nI_add, pk_mul, rS_gS, rS_gA, rS_gL, rA_gS, rA_gA, rA_gL, rL_gS, rL_gA, rL_gL, and_self, and_false, false_and, if_true, if_false, true_or, or_true, or_false, false_or, sm_in, eqI, sI_s, Int32.toInt_zero, Int.natCast_zero, Int.natCast_one, Int.cast_ofNat_Int, Int.reduceEq, Int.reduceLT, Int.reduceLE, Int.reduceNeg, Int.reduceNe, ne_eq, n_up, g_up, e_cat, fr_A, fr_O, fr_P, fr_L, hS0, c2]
  repeat' (with_reducible refine And.intro ?_ ?_)
  all_goals (first | omega | skip)
  refine ⟨_, hm, fun v u2 hv => ?_⟩
  obtain ⟨rfl, hc⟩ := hv
  show J 460 [some (.ref 1000), some (.ref 0), some (.ref 53), some (.ref 85), some (.int (nI i)), a, b] [.int x, .int x] u2
  apply hR 0
  simp (maxSteps := 10000000) (disch := omega) only [hS, hn, sm_eqs, hf, ha, sm_b0, Int.reduceToNat, ↓reduceIte, Nat.reduceEqDiff, true_and, and_true, List.length_nil, List.length_cons, Nat.reduceAdd, Nat.reduceLeDiff, Nat.zero_le, false_implies, true_implies, not_true_eq_false, not_false_eq_true, implies_true, Nat.reduceSub, Nat.reduceMul, reduceCtorEq, tn_clamp, nI_t, tn_nI, nI_add, pk_mul, rS_gS, rS_gA, rS_gL, rA_gS, rA_gA, rA_gL, rL_gS, rL_gA, rL_gL, and_self, and_false, false_and, if_true, if_false, true_or, or_true, or_false, false_or, sm_in, eqI, sI_s, Int32.toInt_zero, Int.natCast_zero, Int.natCast_one, Int.cast_ofNat_Int, Int.reduceEq, Int.reduceLT, Int.reduceLE, Int.reduceNeg, Int.reduceNe, ne_eq, n_up, g_up, e_cat, fr_A, fr_O, fr_P, fr_L, hS0]
  exact next u2 hc

set_option maxHeartbeats 4000000 in
set_option maxRecDepth 100000 in
theorem op_5 (K : Option Value → sm_G → Prop) (J : Nat → sm_Lo → List Value → sm_G → Prop) (S : Nat → Nat → sm_Lo → List Value → sm_G → Prop) (cs : Nat → sm_SP) (Ls : Nat) (xs : Nat → Int32) (hW : sm_walk lay NL_law cs (some (Ls, xs)) 1 K J S) (hS0 : ∀ pc ls st g, S 0 pc ls st g = J pc ls st g)
    (c1 : cs 119 = spM sp_X9_mark) (c2 : cs 174 = spM (spE sp_X10_mark)) (i : Nat) (hi : i + 5 ≤ Ls) (hL : Ls ≤ 2560) (g : sm_G) (a b : Option Value) (hg : CP g g) (next : ∀ u, CP u u → J 1580 [some (.ref 1000), some (.ref 0), some (.ref 53), some (.ref 85), some (.int (nI i)), a, b] [] u) : J 465 [some (.ref 1000), some (.ref 0), some (.ref 53), some (.ref 85), some (.int (nI i)), a, b] [] g := by
  have hn := n_L_law
  have hf := fd_all
  have ha := ar_all
  generalize NL_law = N at hn hW
  generalize lay = L at hf ha hW
  obtain ⟨hS, hR⟩ := hW
  by_cases hb : (xs (i + 1)).toInt = 0
  · apply hR 23
    simp (maxSteps := 10000000) (disch := omega) only [hS, hn, sm_eqs, hf, ha, sm_b0, Int.reduceToNat, ↓reduceIte, Nat.reduceEqDiff, true_and, and_true, List.length_nil, List.length_cons, Nat.reduceAdd, Nat.reduceLeDiff, Nat.zero_le, false_implies, true_implies, not_true_eq_false, not_false_eq_true, implies_true, Nat.reduceSub, Nat.reduceMul, reduceCtorEq, tn_clamp, nI_t, tn_nI, nI_add, pk_mul, rS_gS, rS_gA, rS_gL, rA_gS, rA_gA, rA_gL, rL_gS, rL_gA, rL_gL, and_self, and_false, false_and, if_true, if_false, true_or, or_true, or_false, false_or, sm_in, eqI, sI_s, Int32.toInt_zero, Int.natCast_zero, Int.natCast_one, Int.cast_ofNat_Int, Int.reduceEq, Int.reduceLT, Int.reduceLE, Int.reduceNeg, Int.reduceNe, ne_eq, n_up, g_up, e_cat, fr_A, fr_O, fr_P, fr_L, hS0, c1, hb]
    repeat' (with_reducible refine And.intro ?_ ?_)
    all_goals (first | omega | skip)
    refine ⟨_, co_mark _ _ _ _ g hg, fun v u hv => ?_⟩
    obtain ⟨x, rfl, hm⟩ := hv
    show J 501 [some (.ref 1000), some (.ref 0), some (.ref 53), some (.ref 85), some (.int (nI i)), a, b] [.int x] u
    apply hR 23
    simp (maxSteps := 10000000) (disch := omega) only [hS, hn, sm_eqs, hf, ha, sm_b0, Int.reduceToNat, ↓reduceIte, Nat.reduceEqDiff, true_and, and_true, List.length_nil, List.length_cons, Nat.reduceAdd, Nat.reduceLeDiff, Nat.zero_le, false_implies, true_implies, not_true_eq_false, not_false_eq_true, implies_true, Nat.reduceSub, Nat.reduceMul, reduceCtorEq, tn_clamp, nI_t, tn_nI, nI_add, pk_mul, rS_gS, rS_gA, rS_gL, rA_gS, rA_gA, rA_gL, rL_gS, rL_gA, rL_gL, and_self, and_false, false_and, if_true, if_false, true_or, or_true, or_false, false_or, sm_in, eqI, sI_s, Int32.toInt_zero, Int.natCast_zero, Int.natCast_one, Int.cast_ofNat_Int, Int.reduceEq, Int.reduceLT, Int.reduceLE, Int.reduceNeg, Int.reduceNe, ne_eq, n_up, g_up, e_cat, fr_A, fr_O, fr_P, fr_L, hS0, c2, hb]
    repeat' (with_reducible refine And.intro ?_ ?_)
    all_goals (first | omega | skip)
    refine ⟨_, hm, fun v u2 hv => ?_⟩
    obtain ⟨rfl, hc⟩ := hv
    show J 537 [some (.ref 1000), some (.ref 0), some (.ref 53), some (.ref 85), some (.int (nI i)), a, b] [.int x, .int x] u2
    apply hR 0
    simp (maxSteps := 10000000) (disch := omega) only [hS, hn, sm_eqs, hf, ha, sm_b0, Int.reduceToNat, ↓reduceIte, Nat.reduceEqDiff, true_and, and_true, List.length_nil, List.length_cons, Nat.reduceAdd, Nat.reduceLeDiff, Nat.zero_le, false_implies, true_implies, not_true_eq_false, not_false_eq_true, implies_true, Nat.reduceSub, Nat.reduceMul, reduceCtorEq, tn_clamp, nI_t, tn_nI, nI_add, pk_mul, rS_gS, rS_gA, rS_gL, rA_gS, rA_gA, rA_gL, rL_gS, rL_gA, rL_gL, and_self, and_false, false_and, if_true, if_false, true_or, or_true, or_false, false_or, sm_in, eqI, sI_s, Int32.toInt_zero, Int.natCast_zero, Int.natCast_one, Int.cast_ofNat_Int, Int.reduceEq, Int.reduceLT, Int.reduceLE, Int.reduceNeg, Int.reduceNe, ne_eq, n_up, g_up, e_cat, fr_A, fr_O, fr_P, fr_L, hS0]
    exact next u2 hc
  · apply hR 24
    simp (maxSteps := 10000000) (disch := omega) only [hS, hn, sm_eqs, hf, ha, sm_b0, Int.reduceToNat, ↓reduceIte, Nat.reduceEqDiff, true_and, and_true, List.length_nil, List.length_cons, Nat.reduceAdd, Nat.reduceLeDiff, Nat.zero_le, false_implies, true_implies, not_true_eq_false, not_false_eq_true, implies_true, Nat.reduceSub, Nat.reduceMul, reduceCtorEq, tn_clamp, nI_t, tn_nI, nI_add, pk_mul, rS_gS, rS_gA, rS_gL, rA_gS, rA_gA, rA_gL, rL_gS, rL_gA, rL_gL, and_self, and_false, false_and, if_true, if_false, true_or, or_true, or_false, false_or, sm_in, eqI, sI_s, Int32.toInt_zero, Int.natCast_zero, Int.natCast_one, Int.cast_ofNat_Int, Int.reduceEq, Int.reduceLT, Int.reduceLE, Int.reduceNeg, Int.reduceNe, ne_eq, n_up, g_up, e_cat, fr_A, fr_O, fr_P, fr_L, hS0, c1, hb]
    repeat' (with_reducible refine And.intro ?_ ?_)
    all_goals (first | omega | skip)
    refine ⟨_, co_mark _ _ _ _ g hg, fun v u hv => ?_⟩
    obtain ⟨x, rfl, hm⟩ := hv
    show J 501 [some (.ref 1000), some (.ref 0), some (.ref 53), some (.ref 85), some (.int (nI i)), a, b] [.int x] u
    apply hR 24
    simp (maxSteps := 10000000) (disch := omega) only [hS, hn, sm_eqs, hf, ha, sm_b0, Int.reduceToNat, ↓reduceIte, Nat.reduceEqDiff, true_and, and_true, List.length_nil, List.length_cons, Nat.reduceAdd, Nat.reduceLeDiff, Nat.zero_le, false_implies, true_implies, not_true_eq_false, not_false_eq_true, implies_true, Nat.reduceSub, Nat.reduceMul, reduceCtorEq, tn_clamp, nI_t, tn_nI, nI_add, pk_mul, rS_gS, rS_gA, rS_gL, rA_gS, rA_gA, rA_gL, rL_gS, rL_gA, rL_gL, and_self, and_false, false_and, if_true, if_false, true_or, or_true, or_false, false_or, sm_in, eqI, sI_s, Int32.toInt_zero, Int.natCast_zero, Int.natCast_one, Int.cast_ofNat_Int, Int.reduceEq, Int.reduceLT, Int.reduceLE, Int.reduceNeg, Int.reduceNe, ne_eq, n_up, g_up, e_cat, fr_A, fr_O, fr_P, fr_L, hS0, c2, hb]
    repeat' (with_reducible refine And.intro ?_ ?_)
    all_goals (first | omega | skip)
    refine ⟨_, hm, fun v u2 hv => ?_⟩
    obtain ⟨rfl, hc⟩ := hv
    show J 537 [some (.ref 1000), some (.ref 0), some (.ref 53), some (.ref 85), some (.int (nI i)), a, b] [.int x, .int x] u2
    apply hR 0
    simp (maxSteps := 10000000) (disch := omega) only [hS, hn, sm_eqs, hf, ha, sm_b0, Int.reduceToNat, ↓reduceIte, Nat.reduceEqDiff, true_and, and_true, List.length_nil, List.length_cons, Nat.reduceAdd, Nat.reduceLeDiff, Nat.zero_le, false_implies, true_implies, not_true_eq_false, not_false_eq_true, implies_true, Nat.reduceSub, Nat.reduceMul, reduceCtorEq, tn_clamp, nI_t, tn_nI, nI_add, pk_mul, rS_gS, rS_gA, rS_gL, rA_gS, rA_gA, rA_gL, rL_gS, rL_gA, rL_gL, and_self, and_false, false_and, if_true, if_false, true_or, or_true, or_false, false_or, sm_in, eqI, sI_s, Int32.toInt_zero, Int.natCast_zero, Int.natCast_one, Int.cast_ofNat_Int, Int.reduceEq, Int.reduceLT, Int.reduceLE, Int.reduceNeg, Int.reduceNe, ne_eq, n_up, g_up, e_cat, fr_A, fr_O, fr_P, fr_L, hS0]
    exact next u2 hc

set_option maxHeartbeats 4000000 in
set_option maxRecDepth 100000 in
theorem op_6 (K : Option Value → sm_G → Prop) (J : Nat → sm_Lo → List Value → sm_G → Prop) (S : Nat → Nat → sm_Lo → List Value → sm_G → Prop) (cs : Nat → sm_SP) (Ls : Nat) (xs : Nat → Int32) (hW : sm_walk lay NL_law cs (some (Ls, xs)) 1 K J S) (hS0 : ∀ pc ls st g, S 0 pc ls st g = J pc ls st g)
    (c1 : cs 120 = spM sp_X9_tear) (c2 : cs 175 = spM (spE sp_X10_tear)) (i : Nat) (hi : i + 5 ≤ Ls) (hL : Ls ≤ 2560) (g : sm_G) (a b : Option Value) (hg : CP g g) (next : ∀ u, CP u u → J 1580 [some (.ref 1000), some (.ref 0), some (.ref 53), some (.ref 85), some (.int (nI i)), a, b] [] u) : J 542 [some (.ref 1000), some (.ref 0), some (.ref 53), some (.ref 85), some (.int (nI i)), a, b] [] g := by
  have hn := n_L_law
  have hf := fd_all
  have ha := ar_all
  generalize NL_law = N at hn hW
  generalize lay = L at hf ha hW
  obtain ⟨hS, hR⟩ := hW
  by_cases hb : (xs (i + 1)).toInt = 0
  · apply hR 18
    simp (maxSteps := 10000000) (disch := omega) only [hS, hn, sm_eqs, hf, ha, sm_b0, Int.reduceToNat, ↓reduceIte, Nat.reduceEqDiff, true_and, and_true, List.length_nil, List.length_cons, Nat.reduceAdd, Nat.reduceLeDiff, Nat.zero_le, false_implies, true_implies, not_true_eq_false, not_false_eq_true, implies_true, Nat.reduceSub, Nat.reduceMul, reduceCtorEq, tn_clamp, nI_t, tn_nI, nI_add, pk_mul, rS_gS, rS_gA, rS_gL, rA_gS, rA_gA, rA_gL, rL_gS, rL_gA, rL_gL, and_self, and_false, false_and, if_true, if_false, true_or, or_true, or_false, false_or, sm_in, eqI, sI_s, Int32.toInt_zero, Int.natCast_zero, Int.natCast_one, Int.cast_ofNat_Int, Int.reduceEq, Int.reduceLT, Int.reduceLE, Int.reduceNeg, Int.reduceNe, ne_eq, n_up, g_up, e_cat, fr_A, fr_O, fr_P, fr_L, hS0, c1, hb]
    repeat' (with_reducible refine And.intro ?_ ?_)
    all_goals (first | omega | skip)
    refine ⟨_, co_tear _ _ _ g hg, fun v u hv => ?_⟩
    obtain ⟨x, rfl, hm⟩ := hv
    show J 572 [some (.ref 1000), some (.ref 0), some (.ref 53), some (.ref 85), some (.int (nI i)), a, b] [.int x] u
    apply hR 18
    simp (maxSteps := 10000000) (disch := omega) only [hS, hn, sm_eqs, hf, ha, sm_b0, Int.reduceToNat, ↓reduceIte, Nat.reduceEqDiff, true_and, and_true, List.length_nil, List.length_cons, Nat.reduceAdd, Nat.reduceLeDiff, Nat.zero_le, false_implies, true_implies, not_true_eq_false, not_false_eq_true, implies_true, Nat.reduceSub, Nat.reduceMul, reduceCtorEq, tn_clamp, nI_t, tn_nI, nI_add, pk_mul, rS_gS, rS_gA, rS_gL, rA_gS, rA_gA, rA_gL, rL_gS, rL_gA, rL_gL, and_self, and_false, false_and, if_true, if_false, true_or, or_true, or_false, false_or, sm_in, eqI, sI_s, Int32.toInt_zero, Int.natCast_zero, Int.natCast_one, Int.cast_ofNat_Int, Int.reduceEq, Int.reduceLT, Int.reduceLE, Int.reduceNeg, Int.reduceNe, ne_eq, n_up, g_up, e_cat, fr_A, fr_O, fr_P, fr_L, hS0, c2, hb]
    repeat' (with_reducible refine And.intro ?_ ?_)
    all_goals (first | omega | skip)
    refine ⟨_, hm, fun v u2 hv => ?_⟩
    obtain ⟨rfl, hc⟩ := hv
    show J 602 [some (.ref 1000), some (.ref 0), some (.ref 53), some (.ref 85), some (.int (nI i)), a, b] [.int x, .int x] u2
    apply hR 0
    simp (maxSteps := 10000000) (disch := omega) only [hS, hn, sm_eqs, hf, ha, sm_b0, Int.reduceToNat, ↓reduceIte, Nat.reduceEqDiff, true_and, and_true, List.length_nil, List.length_cons, Nat.reduceAdd, Nat.reduceLeDiff, Nat.zero_le, false_implies, true_implies, not_true_eq_false, not_false_eq_true, implies_true, Nat.reduceSub, Nat.reduceMul, reduceCtorEq, tn_clamp, nI_t, tn_nI, nI_add, pk_mul, rS_gS, rS_gA, rS_gL, rA_gS, rA_gA, rA_gL, rL_gS, rL_gA, rL_gL, and_self, and_false, false_and, if_true, if_false, true_or, or_true, or_false, false_or, sm_in, eqI, sI_s, Int32.toInt_zero, Int.natCast_zero, Int.natCast_one, Int.cast_ofNat_Int, Int.reduceEq, Int.reduceLT, Int.reduceLE, Int.reduceNeg, Int.reduceNe, ne_eq, n_up, g_up, e_cat, fr_A, fr_O, fr_P, fr_L, hS0]
    exact next u2 hc
  · apply hR 19
    simp (maxSteps := 10000000) (disch := omega) only [hS, hn, sm_eqs, hf, ha, sm_b0, Int.reduceToNat, ↓reduceIte, Nat.reduceEqDiff, true_and, and_true, List.length_nil, List.length_cons, Nat.reduceAdd, Nat.reduceLeDiff, Nat.zero_le, false_implies, true_implies, not_true_eq_false, not_false_eq_true, implies_true, Nat.reduceSub, Nat.reduceMul, reduceCtorEq, tn_clamp, nI_t, tn_nI, nI_add, pk_mul, rS_gS, rS_gA, rS_gL, rA_gS, rA_gA, rA_gL, rL_gS, rL_gA, rL_gL, and_self, and_false, false_and, if_true, if_false, true_or, or_true, or_false, false_or, sm_in, eqI, sI_s, Int32.toInt_zero, Int.natCast_zero, Int.natCast_one, Int.cast_ofNat_Int, Int.reduceEq, Int.reduceLT, Int.reduceLE, Int.reduceNeg, Int.reduceNe, ne_eq, n_up, g_up, e_cat, fr_A, fr_O, fr_P, fr_L, hS0, c1, hb]
    repeat' (with_reducible refine And.intro ?_ ?_)
    all_goals (first | omega | skip)
    refine ⟨_, co_tear _ _ _ g hg, fun v u hv => ?_⟩
    obtain ⟨x, rfl, hm⟩ := hv
    show J 572 [some (.ref 1000), some (.ref 0), some (.ref 53), some (.ref 85), some (.int (nI i)), a, b] [.int x] u
    apply hR 19
    simp (maxSteps := 10000000) (disch := omega) only [hS, hn, sm_eqs, hf, ha, sm_b0, Int.reduceToNat, ↓reduceIte, Nat.reduceEqDiff, true_and, and_true, List.length_nil, List.length_cons, Nat.reduceAdd, Nat.reduceLeDiff, Nat.zero_le, false_implies, true_implies, not_true_eq_false, not_false_eq_true, implies_true, Nat.reduceSub, Nat.reduceMul, reduceCtorEq, tn_clamp, nI_t, tn_nI, nI_add, pk_mul, rS_gS, rS_gA, rS_gL, rA_gS, rA_gA, rA_gL, rL_gS, rL_gA, rL_gL, and_self, and_false, false_and, if_true, if_false, true_or, or_true, or_false, false_or, sm_in, eqI, sI_s, Int32.toInt_zero, Int.natCast_zero, Int.natCast_one, Int.cast_ofNat_Int, Int.reduceEq, Int.reduceLT, Int.reduceLE, Int.reduceNeg, Int.reduceNe, ne_eq, n_up, g_up, e_cat, fr_A, fr_O, fr_P, fr_L, hS0, c2, hb]
    repeat' (with_reducible refine And.intro ?_ ?_)
    all_goals (first | omega | skip)
    refine ⟨_, hm, fun v u2 hv => ?_⟩
    obtain ⟨rfl, hc⟩ := hv
    show J 602 [some (.ref 1000), some (.ref 0), some (.ref 53), some (.ref 85), some (.int (nI i)), a, b] [.int x, .int x] u2
    apply hR 0
    simp (maxSteps := 10000000) (disch := omega) only [hS, hn, sm_eqs, hf, ha, sm_b0, Int.reduceToNat, ↓reduceIte, Nat.reduceEqDiff, true_and, and_true, List.length_nil, List.length_cons, Nat.reduceAdd, Nat.reduceLeDiff, Nat.zero_le, false_implies, true_implies, not_true_eq_false, not_false_eq_true, implies_true, Nat.reduceSub, Nat.reduceMul, reduceCtorEq, tn_clamp, nI_t, tn_nI, nI_add, pk_mul, rS_gS, rS_gA, rS_gL, rA_gS, rA_gA, rA_gL, rL_gS, rL_gA, rL_gL, and_self, and_false, false_and, if_true, if_false, true_or, or_true, or_false, false_or, sm_in, eqI, sI_s, Int32.toInt_zero, Int.natCast_zero, Int.natCast_one, Int.cast_ofNat_Int, Int.reduceEq, Int.reduceLT, Int.reduceLE, Int.reduceNeg, Int.reduceNe, ne_eq, n_up, g_up, e_cat, fr_A, fr_O, fr_P, fr_L, hS0]
    exact next u2 hc

set_option maxHeartbeats 4000000 in
set_option maxRecDepth 100000 in
theorem op_7 (K : Option Value → sm_G → Prop) (J : Nat → sm_Lo → List Value → sm_G → Prop) (S : Nat → Nat → sm_Lo → List Value → sm_G → Prop) (cs : Nat → sm_SP) (Ls : Nat) (xs : Nat → Int32) (hW : sm_walk lay NL_law cs (some (Ls, xs)) 1 K J S) (hS0 : ∀ pc ls st g, S 0 pc ls st g = J pc ls st g)
    (c1 : cs 121 = spM sp_X9_known) (c2 : cs 177 = spM (spE sp_X10_known)) (i : Nat) (hi : i + 5 ≤ Ls) (hL : Ls ≤ 2560) (g : sm_G) (a b : Option Value) (hg : CP g g) (next : ∀ u, CP u u → J 1580 [some (.ref 1000), some (.ref 0), some (.ref 53), some (.ref 85), some (.int (nI i)), a, b] [] u) : J 607 [some (.ref 1000), some (.ref 0), some (.ref 53), some (.ref 85), some (.int (nI i)), a, b] [] g := by
  have hn := n_L_law
  have hf := fd_all
  have ha := ar_all
  generalize NL_law = N at hn hW
  generalize lay = L at hf ha hW
  obtain ⟨hS, hR⟩ := hW
  by_cases hb : (xs (i + 1)).toInt = 0
  · apply hR 18
    simp (maxSteps := 10000000) (disch := omega) only [hS, hn, sm_eqs, hf, ha, sm_b0, Int.reduceToNat, ↓reduceIte, Nat.reduceEqDiff, true_and, and_true, List.length_nil, List.length_cons, Nat.reduceAdd, Nat.reduceLeDiff, Nat.zero_le, false_implies, true_implies, not_true_eq_false, not_false_eq_true, implies_true, Nat.reduceSub, Nat.reduceMul, reduceCtorEq, tn_clamp, nI_t, tn_nI, nI_add, pk_mul, rS_gS, rS_gA, rS_gL, rA_gS, rA_gA, rA_gL, rL_gS, rL_gA, rL_gL, and_self, and_false, false_and, if_true, if_false, true_or, or_true, or_false, false_or, sm_in, eqI, sI_s, Int32.toInt_zero, Int.natCast_zero, Int.natCast_one, Int.cast_ofNat_Int, Int.reduceEq, Int.reduceLT, Int.reduceLE, Int.reduceNeg, Int.reduceNe, ne_eq, n_up, g_up, e_cat, fr_A, fr_O, fr_P, fr_L, hS0, c1, hb]
    repeat' (with_reducible refine And.intro ?_ ?_)
    all_goals (first | omega | skip)
    refine ⟨_, co_known _ _ _ g hg, fun v u hv => ?_⟩
    obtain ⟨x, rfl, hm⟩ := hv
    show J 637 [some (.ref 1000), some (.ref 0), some (.ref 53), some (.ref 85), some (.int (nI i)), a, b] [.int x] u
    apply hR 18
    simp (maxSteps := 10000000) (disch := omega) only [hS, hn, sm_eqs, hf, ha, sm_b0, Int.reduceToNat, ↓reduceIte, Nat.reduceEqDiff, true_and, and_true, List.length_nil, List.length_cons, Nat.reduceAdd, Nat.reduceLeDiff, Nat.zero_le, false_implies, true_implies, not_true_eq_false, not_false_eq_true, implies_true, Nat.reduceSub, Nat.reduceMul, reduceCtorEq, tn_clamp, nI_t, tn_nI, nI_add, pk_mul, rS_gS, rS_gA, rS_gL, rA_gS, rA_gA, rA_gL, rL_gS, rL_gA, rL_gL, and_self, and_false, false_and, if_true, if_false, true_or, or_true, or_false, false_or, sm_in, eqI, sI_s, Int32.toInt_zero, Int.natCast_zero, Int.natCast_one, Int.cast_ofNat_Int, Int.reduceEq, Int.reduceLT, Int.reduceLE, Int.reduceNeg, Int.reduceNe, ne_eq, n_up, g_up, e_cat, fr_A, fr_O, fr_P, fr_L, hS0, c2, hb]
    repeat' (with_reducible refine And.intro ?_ ?_)
    all_goals (first | omega | skip)
    refine ⟨_, hm, fun v u2 hv => ?_⟩
    obtain ⟨rfl, hc⟩ := hv
    show J 667 [some (.ref 1000), some (.ref 0), some (.ref 53), some (.ref 85), some (.int (nI i)), a, b] [.int x, .int x] u2
    apply hR 0
    simp (maxSteps := 10000000) (disch := omega) only [hS, hn, sm_eqs, hf, ha, sm_b0, Int.reduceToNat, ↓reduceIte, Nat.reduceEqDiff, true_and, and_true, List.length_nil, List.length_cons, Nat.reduceAdd, Nat.reduceLeDiff, Nat.zero_le, false_implies, true_implies, not_true_eq_false, not_false_eq_true, implies_true, Nat.reduceSub, Nat.reduceMul, reduceCtorEq, tn_clamp, nI_t, tn_nI, nI_add, pk_mul, rS_gS, rS_gA, rS_gL, rA_gS, rA_gA, rA_gL, rL_gS, rL_gA, rL_gL, and_self, and_false, false_and, if_true, if_false, true_or, or_true, or_false, false_or, sm_in, eqI, sI_s, Int32.toInt_zero, Int.natCast_zero, Int.natCast_one, Int.cast_ofNat_Int, Int.reduceEq, Int.reduceLT, Int.reduceLE, Int.reduceNeg, Int.reduceNe, ne_eq, n_up, g_up, e_cat, fr_A, fr_O, fr_P, fr_L, hS0]
    exact next u2 hc
  · apply hR 19
    simp (maxSteps := 10000000) (disch := omega) only [hS, hn, sm_eqs, hf, ha, sm_b0, Int.reduceToNat, ↓reduceIte, Nat.reduceEqDiff, true_and, and_true, List.length_nil, List.length_cons, Nat.reduceAdd, Nat.reduceLeDiff, Nat.zero_le, false_implies, true_implies, not_true_eq_false, not_false_eq_true, implies_true, Nat.reduceSub, Nat.reduceMul, reduceCtorEq, tn_clamp, nI_t, tn_nI, nI_add, pk_mul, rS_gS, rS_gA, rS_gL, rA_gS, rA_gA, rA_gL, rL_gS, rL_gA, rL_gL, and_self, and_false, false_and, if_true, if_false, true_or, or_true, or_false, false_or, sm_in, eqI, sI_s, Int32.toInt_zero, Int.natCast_zero, Int.natCast_one, Int.cast_ofNat_Int, Int.reduceEq, Int.reduceLT, Int.reduceLE, Int.reduceNeg, Int.reduceNe, ne_eq, n_up, g_up, e_cat, fr_A, fr_O, fr_P, fr_L, hS0, c1, hb]
    repeat' (with_reducible refine And.intro ?_ ?_)
    all_goals (first | omega | skip)
    refine ⟨_, co_known _ _ _ g hg, fun v u hv => ?_⟩
    obtain ⟨x, rfl, hm⟩ := hv
    show J 637 [some (.ref 1000), some (.ref 0), some (.ref 53), some (.ref 85), some (.int (nI i)), a, b] [.int x] u
    apply hR 19
    simp (maxSteps := 10000000) (disch := omega) only [hS, hn, sm_eqs, hf, ha, sm_b0, Int.reduceToNat, ↓reduceIte, Nat.reduceEqDiff, true_and, and_true, List.length_nil, List.length_cons, Nat.reduceAdd, Nat.reduceLeDiff, Nat.zero_le, false_implies, true_implies, not_true_eq_false, not_false_eq_true, implies_true, Nat.reduceSub, Nat.reduceMul, reduceCtorEq, tn_clamp, nI_t, tn_nI, nI_add, pk_mul, rS_gS, rS_gA, rS_gL, rA_gS, rA_gA, rA_gL, rL_gS, rL_gA, rL_gL, and_self, and_false, false_and, if_true, if_false, true_or, or_true, or_false, false_or, sm_in, eqI, sI_s, Int32.toInt_zero, Int.natCast_zero, Int.natCast_one, Int.cast_ofNat_Int, Int.reduceEq, Int.reduceLT, Int.reduceLE, Int.reduceNeg, Int.reduceNe, ne_eq, n_up, g_up, e_cat, fr_A, fr_O, fr_P, fr_L, hS0, c2, hb]
    repeat' (with_reducible refine And.intro ?_ ?_)
    all_goals (first | omega | skip)
    refine ⟨_, hm, fun v u2 hv => ?_⟩
    obtain ⟨rfl, hc⟩ := hv
    show J 667 [some (.ref 1000), some (.ref 0), some (.ref 53), some (.ref 85), some (.int (nI i)), a, b] [.int x, .int x] u2
    apply hR 0
    simp (maxSteps := 10000000) (disch := omega) only [hS, hn, sm_eqs, hf, ha, sm_b0, Int.reduceToNat, ↓reduceIte, Nat.reduceEqDiff, true_and, and_true, List.length_nil, List.length_cons, Nat.reduceAdd, Nat.reduceLeDiff, Nat.zero_le, false_implies, true_implies, not_true_eq_false, not_false_eq_true, implies_true, Nat.reduceSub, Nat.reduceMul, reduceCtorEq, tn_clamp, nI_t, tn_nI, nI_add, pk_mul, rS_gS, rS_gA, rS_gL, rA_gS, rA_gA, rA_gL, rL_gS, rL_gA, rL_gL, and_self, and_false, false_and, if_true, if_false, true_or, or_true, or_false, false_or, sm_in, eqI, sI_s, Int32.toInt_zero, Int.natCast_zero, Int.natCast_one, Int.cast_ofNat_Int, Int.reduceEq, Int.reduceLT, Int.reduceLE, Int.reduceNeg, Int.reduceNe, ne_eq, n_up, g_up, e_cat, fr_A, fr_O, fr_P, fr_L, hS0]
    exact next u2 hc

set_option maxHeartbeats 4000000 in
set_option maxRecDepth 100000 in
theorem op_8 (K : Option Value → sm_G → Prop) (J : Nat → sm_Lo → List Value → sm_G → Prop) (S : Nat → Nat → sm_Lo → List Value → sm_G → Prop) (cs : Nat → sm_SP) (Ls : Nat) (xs : Nat → Int32) (hW : sm_walk lay NL_law cs (some (Ls, xs)) 1 K J S) (hS0 : ∀ pc ls st g, S 0 pc ls st g = J pc ls st g)
    (c1 : cs 122 = spM sp_X9_length) (c2 : cs 178 = spM (spE sp_X10_length)) (i : Nat) (hi : i + 5 ≤ Ls) (hL : Ls ≤ 2560) (g : sm_G) (a b : Option Value) (hg : CP g g) (next : ∀ u, CP u u → J 1580 [some (.ref 1000), some (.ref 0), some (.ref 53), some (.ref 85), some (.int (nI i)), a, b] [] u) : J 672 [some (.ref 1000), some (.ref 0), some (.ref 53), some (.ref 85), some (.int (nI i)), a, b] [] g := by
  have hn := n_L_law
  have hf := fd_all
  have ha := ar_all
  generalize NL_law = N at hn hW
  generalize lay = L at hf ha hW
  obtain ⟨hS, hR⟩ := hW
  by_cases hb : (xs (i + 1)).toInt = 0
  · apply hR 13
    simp (maxSteps := 10000000) (disch := omega) only [hS, hn, sm_eqs, hf, ha, sm_b0, Int.reduceToNat, ↓reduceIte, Nat.reduceEqDiff, true_and, and_true, List.length_nil, List.length_cons, Nat.reduceAdd, Nat.reduceLeDiff, Nat.zero_le, false_implies, true_implies, not_true_eq_false, not_false_eq_true, implies_true, Nat.reduceSub, Nat.reduceMul, reduceCtorEq, tn_clamp, nI_t, tn_nI, nI_add, pk_mul, rS_gS, rS_gA, rS_gL, rA_gS, rA_gA, rA_gL, rL_gS, rL_gA, rL_gL, and_self, and_false, false_and, if_true, if_false, true_or, or_true, or_false, false_or, sm_in, eqI, sI_s, Int32.toInt_zero, Int.natCast_zero, Int.natCast_one, Int.cast_ofNat_Int, Int.reduceEq, Int.reduceLT, Int.reduceLE, Int.reduceNeg, Int.reduceNe, ne_eq, n_up, g_up, e_cat, fr_A, fr_O, fr_P, fr_L, hS0, c1, hb]
    repeat' (with_reducible refine And.intro ?_ ?_)
    all_goals (first | omega | skip)
    refine ⟨_, co_length _ _ g hg, fun v u hv => ?_⟩
    obtain ⟨x, rfl, hm⟩ := hv
    show J 696 [some (.ref 1000), some (.ref 0), some (.ref 53), some (.ref 85), some (.int (nI i)), a, b] [.int x] u
    apply hR 13
    simp (maxSteps := 10000000) (disch := omega) only [hS, hn, sm_eqs, hf, ha, sm_b0, Int.reduceToNat, ↓reduceIte, Nat.reduceEqDiff, true_and, and_true, List.length_nil, List.length_cons, Nat.reduceAdd, Nat.reduceLeDiff, Nat.zero_le, false_implies, true_implies, not_true_eq_false, not_false_eq_true, implies_true, Nat.reduceSub, Nat.reduceMul, reduceCtorEq, tn_clamp, nI_t, tn_nI, nI_add, pk_mul, rS_gS, rS_gA, rS_gL, rA_gS, rA_gA, rA_gL, rL_gS, rL_gA, rL_gL, and_self, and_false, false_and, if_true, if_false, true_or, or_true, or_false, false_or, sm_in, eqI, sI_s, Int32.toInt_zero, Int.natCast_zero, Int.natCast_one, Int.cast_ofNat_Int, Int.reduceEq, Int.reduceLT, Int.reduceLE, Int.reduceNeg, Int.reduceNe, ne_eq, n_up, g_up, e_cat, fr_A, fr_O, fr_P, fr_L, hS0, c2, hb]
    repeat' (with_reducible refine And.intro ?_ ?_)
    all_goals (first | omega | skip)
    refine ⟨_, hm, fun v u2 hv => ?_⟩
    obtain ⟨rfl, hc⟩ := hv
    show J 720 [some (.ref 1000), some (.ref 0), some (.ref 53), some (.ref 85), some (.int (nI i)), a, b] [.int x, .int x] u2
    apply hR 0
    simp (maxSteps := 10000000) (disch := omega) only [hS, hn, sm_eqs, hf, ha, sm_b0, Int.reduceToNat, ↓reduceIte, Nat.reduceEqDiff, true_and, and_true, List.length_nil, List.length_cons, Nat.reduceAdd, Nat.reduceLeDiff, Nat.zero_le, false_implies, true_implies, not_true_eq_false, not_false_eq_true, implies_true, Nat.reduceSub, Nat.reduceMul, reduceCtorEq, tn_clamp, nI_t, tn_nI, nI_add, pk_mul, rS_gS, rS_gA, rS_gL, rA_gS, rA_gA, rA_gL, rL_gS, rL_gA, rL_gL, and_self, and_false, false_and, if_true, if_false, true_or, or_true, or_false, false_or, sm_in, eqI, sI_s, Int32.toInt_zero, Int.natCast_zero, Int.natCast_one, Int.cast_ofNat_Int, Int.reduceEq, Int.reduceLT, Int.reduceLE, Int.reduceNeg, Int.reduceNe, ne_eq, n_up, g_up, e_cat, fr_A, fr_O, fr_P, fr_L, hS0]
    exact next u2 hc
  · apply hR 14
    simp (maxSteps := 10000000) (disch := omega) only [hS, hn, sm_eqs, hf, ha, sm_b0, Int.reduceToNat, ↓reduceIte, Nat.reduceEqDiff, true_and, and_true, List.length_nil, List.length_cons, Nat.reduceAdd, Nat.reduceLeDiff, Nat.zero_le, false_implies, true_implies, not_true_eq_false, not_false_eq_true, implies_true, Nat.reduceSub, Nat.reduceMul, reduceCtorEq, tn_clamp, nI_t, tn_nI, nI_add, pk_mul, rS_gS, rS_gA, rS_gL, rA_gS, rA_gA, rA_gL, rL_gS, rL_gA, rL_gL, and_self, and_false, false_and, if_true, if_false, true_or, or_true, or_false, false_or, sm_in, eqI, sI_s, Int32.toInt_zero, Int.natCast_zero, Int.natCast_one, Int.cast_ofNat_Int, Int.reduceEq, Int.reduceLT, Int.reduceLE, Int.reduceNeg, Int.reduceNe, ne_eq, n_up, g_up, e_cat, fr_A, fr_O, fr_P, fr_L, hS0, c1, hb]
    repeat' (with_reducible refine And.intro ?_ ?_)
    all_goals (first | omega | skip)
    refine ⟨_, co_length _ _ g hg, fun v u hv => ?_⟩
    obtain ⟨x, rfl, hm⟩ := hv
    show J 696 [some (.ref 1000), some (.ref 0), some (.ref 53), some (.ref 85), some (.int (nI i)), a, b] [.int x] u
    apply hR 14
    simp (maxSteps := 10000000) (disch := omega) only [hS, hn, sm_eqs, hf, ha, sm_b0, Int.reduceToNat, ↓reduceIte, Nat.reduceEqDiff, true_and, and_true, List.length_nil, List.length_cons, Nat.reduceAdd, Nat.reduceLeDiff, Nat.zero_le, false_implies, true_implies, not_true_eq_false, not_false_eq_true, implies_true, Nat.reduceSub, Nat.reduceMul, reduceCtorEq, tn_clamp, nI_t, tn_nI, nI_add, pk_mul, rS_gS, rS_gA, rS_gL, rA_gS, rA_gA, rA_gL, rL_gS, rL_gA, rL_gL, and_self, and_false, false_and, if_true, if_false, true_or, or_true, or_false, false_or, sm_in, eqI, sI_s, Int32.toInt_zero, Int.natCast_zero, Int.natCast_one, Int.cast_ofNat_Int, Int.reduceEq, Int.reduceLT, Int.reduceLE, Int.reduceNeg, Int.reduceNe, ne_eq, n_up, g_up, e_cat, fr_A, fr_O, fr_P, fr_L, hS0, c2, hb]
    repeat' (with_reducible refine And.intro ?_ ?_)
    all_goals (first | omega | skip)
    refine ⟨_, hm, fun v u2 hv => ?_⟩
    obtain ⟨rfl, hc⟩ := hv
    show J 720 [some (.ref 1000), some (.ref 0), some (.ref 53), some (.ref 85), some (.int (nI i)), a, b] [.int x, .int x] u2
    apply hR 0
    simp (maxSteps := 10000000) (disch := omega) only [hS, hn, sm_eqs, hf, ha, sm_b0, Int.reduceToNat, ↓reduceIte, Nat.reduceEqDiff, true_and, and_true, List.length_nil, List.length_cons, Nat.reduceAdd, Nat.reduceLeDiff, Nat.zero_le, false_implies, true_implies, not_true_eq_false, not_false_eq_true, implies_true, Nat.reduceSub, Nat.reduceMul, reduceCtorEq, tn_clamp, nI_t, tn_nI, nI_add, pk_mul, rS_gS, rS_gA, rS_gL, rA_gS, rA_gA, rA_gL, rL_gS, rL_gA, rL_gL, and_self, and_false, false_and, if_true, if_false, true_or, or_true, or_false, false_or, sm_in, eqI, sI_s, Int32.toInt_zero, Int.natCast_zero, Int.natCast_one, Int.cast_ofNat_Int, Int.reduceEq, Int.reduceLT, Int.reduceLE, Int.reduceNeg, Int.reduceNe, ne_eq, n_up, g_up, e_cat, fr_A, fr_O, fr_P, fr_L, hS0]
    exact next u2 hc

set_option maxHeartbeats 4000000 in
set_option maxRecDepth 100000 in
theorem op_9 (K : Option Value → sm_G → Prop) (J : Nat → sm_Lo → List Value → sm_G → Prop) (S : Nat → Nat → sm_Lo → List Value → sm_G → Prop) (cs : Nat → sm_SP) (Ls : Nat) (xs : Nat → Int32) (hW : sm_walk lay NL_law cs (some (Ls, xs)) 1 K J S) (hS0 : ∀ pc ls st g, S 0 pc ls st g = J pc ls st g)
    (c1 : cs 125 = spM sp_X9_fits) (c2 : cs 182 = spM (spE sp_X10_fits)) (i : Nat) (hi : i + 5 ≤ Ls) (hL : Ls ≤ 2560) (g : sm_G) (a b : Option Value) (hg : CP g g) (next : ∀ u, CP u u → J 1580 [some (.ref 1000), some (.ref 0), some (.ref 53), some (.ref 85), some (.int (nI i)), a, b] [] u) : J 725 [some (.ref 1000), some (.ref 0), some (.ref 53), some (.ref 85), some (.int (nI i)), a, b] [] g := by
  have hn := n_L_law
  have hf := fd_all
  have ha := ar_all
  generalize NL_law = N at hn hW
  generalize lay = L at hf ha hW
  obtain ⟨hS, hR⟩ := hW
  apply hR 11
  simp (maxSteps := 10000000) (disch := omega) only [hS, hn, sm_eqs, hf, ha, sm_b0, Int.reduceToNat, ↓reduceIte, Nat.reduceEqDiff, true_and, and_true, List.length_nil, List.length_cons, Nat.reduceAdd, Nat.reduceLeDiff, Nat.zero_le, false_implies, true_implies, not_true_eq_false, not_false_eq_true, implies_true, Nat.reduceSub, Nat.reduceMul, reduceCtorEq, tn_clamp, nI_t, tn_nI, nI_add, pk_mul, rS_gS, rS_gA, rS_gL, rA_gS, rA_gA, rA_gL, rL_gS, rL_gA, rL_gL, and_self, and_false, false_and, if_true, if_false, true_or, or_true, or_false, false_or, sm_in, eqI, sI_s, Int32.toInt_zero, Int.natCast_zero, Int.natCast_one, Int.cast_ofNat_Int, Int.reduceEq, Int.reduceLT, Int.reduceLE, Int.reduceNeg, Int.reduceNe, ne_eq, n_up, g_up, e_cat, fr_A, fr_O, fr_P, fr_L, hS0, c1]
  repeat' (with_reducible refine And.intro ?_ ?_)
  all_goals (first | omega | skip)
  refine ⟨_, co_fits _ _ g hg, fun v u hv => ?_⟩
  obtain ⟨x, rfl, hm⟩ := hv
  show J 741 [some (.ref 1000), some (.ref 0), some (.ref 53), some (.ref 85), some (.int (nI i)), a, b] [.int x] u
  apply hR 11
  simp (maxSteps := 10000000) (disch := omega) only [hS, hn, sm_eqs, hf, ha, sm_b0, Int.reduceToNat, ↓reduceIte, Nat.reduceEqDiff, true_and, and_true, List.length_nil, List.length_cons, Nat.reduceAdd, Nat.reduceLeDiff, Nat.zero_le, false_implies, true_implies, not_true_eq_false, not_false_eq_true, implies_true, Nat.reduceSub, Nat.reduceMul, reduceCtorEq, tn_clamp, nI_t, tn_nI, nI_add, pk_mul, rS_gS, rS_gA, rS_gL, rA_gS, rA_gA, rA_gL, rL_gS, rL_gA, rL_gL, and_self, and_false, false_and, if_true, if_false, true_or, or_true, or_false, false_or, sm_in, eqI, sI_s, Int32.toInt_zero, Int.natCast_zero, Int.natCast_one, Int.cast_ofNat_Int, Int.reduceEq, Int.reduceLT, Int.reduceLE, Int.reduceNeg, Int.reduceNe, ne_eq, n_up, g_up, e_cat, fr_A, fr_O, fr_P, fr_L, hS0, c2]
  repeat' (with_reducible refine And.intro ?_ ?_)
  all_goals (first | omega | skip)
  refine ⟨_, hm, fun v u2 hv => ?_⟩
  obtain ⟨rfl, hc⟩ := hv
  show J 757 [some (.ref 1000), some (.ref 0), some (.ref 53), some (.ref 85), some (.int (nI i)), a, b] [.int x, .int x] u2
  apply hR 0
  simp (maxSteps := 10000000) (disch := omega) only [hS, hn, sm_eqs, hf, ha, sm_b0, Int.reduceToNat, ↓reduceIte, Nat.reduceEqDiff, true_and, and_true, List.length_nil, List.length_cons, Nat.reduceAdd, Nat.reduceLeDiff, Nat.zero_le, false_implies, true_implies, not_true_eq_false, not_false_eq_true, implies_true, Nat.reduceSub, Nat.reduceMul, reduceCtorEq, tn_clamp, nI_t, tn_nI, nI_add, pk_mul, rS_gS, rS_gA, rS_gL, rA_gS, rA_gA, rA_gL, rL_gS, rL_gA, rL_gL, and_self, and_false, false_and, if_true, if_false, true_or, or_true, or_false, false_or, sm_in, eqI, sI_s, Int32.toInt_zero, Int.natCast_zero, Int.natCast_one, Int.cast_ofNat_Int, Int.reduceEq, Int.reduceLT, Int.reduceLE, Int.reduceNeg, Int.reduceNe, ne_eq, n_up, g_up, e_cat, fr_A, fr_O, fr_P, fr_L, hS0]
  exact next u2 hc

set_option maxHeartbeats 4000000 in
set_option maxRecDepth 100000 in
theorem op_10 (K : Option Value → sm_G → Prop) (J : Nat → sm_Lo → List Value → sm_G → Prop) (S : Nat → Nat → sm_Lo → List Value → sm_G → Prop) (cs : Nat → sm_SP) (Ls : Nat) (xs : Nat → Int32) (hW : sm_walk lay NL_law cs (some (Ls, xs)) 1 K J S) (hS0 : ∀ pc ls st g, S 0 pc ls st g = J pc ls st g)
    (c1 : cs 126 = spM sp_X9_tells) (c2 : cs 183 = spM (spE sp_X10_tells)) (i : Nat) (hi : i + 5 ≤ Ls) (hL : Ls ≤ 2560) (g : sm_G) (a b : Option Value) (hg : CP g g) (next : ∀ u, CP u u → J 1580 [some (.ref 1000), some (.ref 0), some (.ref 53), some (.ref 85), some (.int (nI i)), a, b] [] u) : J 762 [some (.ref 1000), some (.ref 0), some (.ref 53), some (.ref 85), some (.int (nI i)), a, b] [] g := by
  have hn := n_L_law
  have hf := fd_all
  have ha := ar_all
  generalize NL_law = N at hn hW
  generalize lay = L at hf ha hW
  obtain ⟨hS, hR⟩ := hW
  apply hR 11
  simp (maxSteps := 10000000) (disch := omega) only [hS, hn, sm_eqs, hf, ha, sm_b0, Int.reduceToNat, ↓reduceIte, Nat.reduceEqDiff, true_and, and_true, List.length_nil, List.length_cons, Nat.reduceAdd, Nat.reduceLeDiff, Nat.zero_le, false_implies, true_implies, not_true_eq_false, not_false_eq_true, implies_true, Nat.reduceSub, Nat.reduceMul, reduceCtorEq, tn_clamp, nI_t, tn_nI, nI_add, pk_mul, rS_gS, rS_gA, rS_gL, rA_gS, rA_gA, rA_gL, rL_gS, rL_gA, rL_gL, and_self, and_false, false_and, if_true, if_false, true_or, or_true, or_false, false_or, sm_in, eqI, sI_s, Int32.toInt_zero, Int.natCast_zero, Int.natCast_one, Int.cast_ofNat_Int, Int.reduceEq, Int.reduceLT, Int.reduceLE, Int.reduceNeg, Int.reduceNe, ne_eq, n_up, g_up, e_cat, fr_A, fr_O, fr_P, fr_L, hS0, c1]
  repeat' (with_reducible refine And.intro ?_ ?_)
  all_goals (first | omega | skip)
  refine ⟨_, co_tells _ _ g hg, fun v u hv => ?_⟩
  obtain ⟨x, rfl, hm⟩ := hv
  show J 778 [some (.ref 1000), some (.ref 0), some (.ref 53), some (.ref 85), some (.int (nI i)), a, b] [.int x] u
  apply hR 11
  simp (maxSteps := 10000000) (disch := omega) only [hS, hn, sm_eqs, hf, ha, sm_b0, Int.reduceToNat, ↓reduceIte, Nat.reduceEqDiff, true_and, and_true, List.length_nil, List.length_cons, Nat.reduceAdd, Nat.reduceLeDiff, Nat.zero_le, false_implies, true_implies, not_true_eq_false, not_false_eq_true, implies_true, Nat.reduceSub, Nat.reduceMul, reduceCtorEq, tn_clamp, nI_t, tn_nI, nI_add, pk_mul, rS_gS, rS_gA, rS_gL, rA_gS, rA_gA, rA_gL, rL_gS, rL_gA, rL_gL, and_self, and_false, false_and, if_true, if_false, true_or, or_true, or_false, false_or, sm_in, eqI, sI_s, Int32.toInt_zero, Int.natCast_zero, Int.natCast_one, Int.cast_ofNat_Int, Int.reduceEq, Int.reduceLT, Int.reduceLE, Int.reduceNeg, Int.reduceNe, ne_eq, n_up, g_up, e_cat, fr_A, fr_O, fr_P, fr_L, hS0, c2]
  repeat' (with_reducible refine And.intro ?_ ?_)
  all_goals (first | omega | skip)
  refine ⟨_, hm, fun v u2 hv => ?_⟩
  obtain ⟨rfl, hc⟩ := hv
  show J 794 [some (.ref 1000), some (.ref 0), some (.ref 53), some (.ref 85), some (.int (nI i)), a, b] [.int x, .int x] u2
  apply hR 0
  simp (maxSteps := 10000000) (disch := omega) only [hS, hn, sm_eqs, hf, ha, sm_b0, Int.reduceToNat, ↓reduceIte, Nat.reduceEqDiff, true_and, and_true, List.length_nil, List.length_cons, Nat.reduceAdd, Nat.reduceLeDiff, Nat.zero_le, false_implies, true_implies, not_true_eq_false, not_false_eq_true, implies_true, Nat.reduceSub, Nat.reduceMul, reduceCtorEq, tn_clamp, nI_t, tn_nI, nI_add, pk_mul, rS_gS, rS_gA, rS_gL, rA_gS, rA_gA, rA_gL, rL_gS, rL_gA, rL_gL, and_self, and_false, false_and, if_true, if_false, true_or, or_true, or_false, false_or, sm_in, eqI, sI_s, Int32.toInt_zero, Int.natCast_zero, Int.natCast_one, Int.cast_ofNat_Int, Int.reduceEq, Int.reduceLT, Int.reduceLE, Int.reduceNeg, Int.reduceNe, ne_eq, n_up, g_up, e_cat, fr_A, fr_O, fr_P, fr_L, hS0]
  exact next u2 hc

set_option maxHeartbeats 4000000 in
set_option maxRecDepth 100000 in
theorem op_11 (K : Option Value → sm_G → Prop) (J : Nat → sm_Lo → List Value → sm_G → Prop) (S : Nat → Nat → sm_Lo → List Value → sm_G → Prop) (cs : Nat → sm_SP) (Ls : Nat) (xs : Nat → Int32) (hW : sm_walk lay NL_law cs (some (Ls, xs)) 1 K J S) (hS0 : ∀ pc ls st g, S 0 pc ls st g = J pc ls st g)
    (c1 : cs 127 = spM sp_X9_strength) (c2 : cs 185 = spM (spE sp_X10_strength)) (i : Nat) (hi : i + 5 ≤ Ls) (hL : Ls ≤ 2560) (g : sm_G) (a b : Option Value) (hg : CP g g) (next : ∀ u, CP u u → J 1580 [some (.ref 1000), some (.ref 0), some (.ref 53), some (.ref 85), some (.int (nI i)), a, b] [] u) : J 799 [some (.ref 1000), some (.ref 0), some (.ref 53), some (.ref 85), some (.int (nI i)), a, b] [] g := by
  have hn := n_L_law
  have hf := fd_all
  have ha := ar_all
  generalize NL_law = N at hn hW
  generalize lay = L at hf ha hW
  obtain ⟨hS, hR⟩ := hW
  apply hR 11
  simp (maxSteps := 10000000) (disch := omega) only [hS, hn, sm_eqs, hf, ha, sm_b0, Int.reduceToNat, ↓reduceIte, Nat.reduceEqDiff, true_and, and_true, List.length_nil, List.length_cons, Nat.reduceAdd, Nat.reduceLeDiff, Nat.zero_le, false_implies, true_implies, not_true_eq_false, not_false_eq_true, implies_true, Nat.reduceSub, Nat.reduceMul, reduceCtorEq, tn_clamp, nI_t, tn_nI, nI_add, pk_mul, rS_gS, rS_gA, rS_gL, rA_gS, rA_gA, rA_gL, rL_gS, rL_gA, rL_gL, and_self, and_false, false_and, if_true, if_false, true_or, or_true, or_false, false_or, sm_in, eqI, sI_s, Int32.toInt_zero, Int.natCast_zero, Int.natCast_one, Int.cast_ofNat_Int, Int.reduceEq, Int.reduceLT, Int.reduceLE, Int.reduceNeg, Int.reduceNe, ne_eq, n_up, g_up, e_cat, fr_A, fr_O, fr_P, fr_L, hS0, c1]
  repeat' (with_reducible refine And.intro ?_ ?_)
  all_goals (first | omega | skip)
  refine ⟨_, co_strength _ _ g hg, fun v u hv => ?_⟩
  obtain ⟨x, rfl, hm⟩ := hv
  show J 815 [some (.ref 1000), some (.ref 0), some (.ref 53), some (.ref 85), some (.int (nI i)), a, b] [.int x] u
  apply hR 11
  simp (maxSteps := 10000000) (disch := omega) only [hS, hn, sm_eqs, hf, ha, sm_b0, Int.reduceToNat, ↓reduceIte, Nat.reduceEqDiff, true_and, and_true, List.length_nil, List.length_cons, Nat.reduceAdd, Nat.reduceLeDiff, Nat.zero_le, false_implies, true_implies, not_true_eq_false, not_false_eq_true, implies_true, Nat.reduceSub, Nat.reduceMul, reduceCtorEq, tn_clamp, nI_t, tn_nI, nI_add, pk_mul, rS_gS, rS_gA, rS_gL, rA_gS, rA_gA, rA_gL, rL_gS, rL_gA, rL_gL, and_self, and_false, false_and, if_true, if_false, true_or, or_true, or_false, false_or, sm_in, eqI, sI_s, Int32.toInt_zero, Int.natCast_zero, Int.natCast_one, Int.cast_ofNat_Int, Int.reduceEq, Int.reduceLT, Int.reduceLE, Int.reduceNeg, Int.reduceNe, ne_eq, n_up, g_up, e_cat, fr_A, fr_O, fr_P, fr_L, hS0, c2]
  repeat' (with_reducible refine And.intro ?_ ?_)
  all_goals (first | omega | skip)
  refine ⟨_, hm, fun v u2 hv => ?_⟩
  obtain ⟨rfl, hc⟩ := hv
  show J 831 [some (.ref 1000), some (.ref 0), some (.ref 53), some (.ref 85), some (.int (nI i)), a, b] [.int x, .int x] u2
  apply hR 0
  simp (maxSteps := 10000000) (disch := omega) only [hS, hn, sm_eqs, hf, ha, sm_b0, Int.reduceToNat, ↓reduceIte, Nat.reduceEqDiff, true_and, and_true, List.length_nil, List.length_cons, Nat.reduceAdd, Nat.reduceLeDiff, Nat.zero_le, false_implies, true_implies, not_true_eq_false, not_false_eq_true, implies_true, Nat.reduceSub, Nat.reduceMul, reduceCtorEq, tn_clamp, nI_t, tn_nI, nI_add, pk_mul, rS_gS, rS_gA, rS_gL, rA_gS, rA_gA, rA_gL, rL_gS, rL_gA, rL_gL, and_self, and_false, false_and, if_true, if_false, true_or, or_true, or_false, false_or, sm_in, eqI, sI_s, Int32.toInt_zero, Int.natCast_zero, Int.natCast_one, Int.cast_ofNat_Int, Int.reduceEq, Int.reduceLT, Int.reduceLE, Int.reduceNeg, Int.reduceNe, ne_eq, n_up, g_up, e_cat, fr_A, fr_O, fr_P, fr_L, hS0]
  exact next u2 hc

set_option maxHeartbeats 4000000 in
set_option maxRecDepth 100000 in
theorem op_12 (K : Option Value → sm_G → Prop) (J : Nat → sm_Lo → List Value → sm_G → Prop) (S : Nat → Nat → sm_Lo → List Value → sm_G → Prop) (cs : Nat → sm_SP) (Ls : Nat) (xs : Nat → Int32) (hW : sm_walk lay NL_law cs (some (Ls, xs)) 1 K J S) (hS0 : ∀ pc ls st g, S 0 pc ls st g = J pc ls st g)
    (c1 : cs 129 = spM sp_X9_fitting) (c2 : cs 187 = spM (spE sp_X10_fitting)) (i : Nat) (hi : i + 5 ≤ Ls) (hL : Ls ≤ 2560) (g : sm_G) (a b : Option Value) (hg : CP g g) (next : ∀ u, CP u u → J 1580 [some (.ref 1000), some (.ref 0), some (.ref 53), some (.ref 85), some (.int (nI i)), a, b] [] u) : J 836 [some (.ref 1000), some (.ref 0), some (.ref 53), some (.ref 85), some (.int (nI i)), a, b] [] g := by
  have hn := n_L_law
  have hf := fd_all
  have ha := ar_all
  generalize NL_law = N at hn hW
  generalize lay = L at hf ha hW
  obtain ⟨hS, hR⟩ := hW
  apply hR 6
  simp (maxSteps := 10000000) (disch := omega) only [hS, hn, sm_eqs, hf, ha, sm_b0, Int.reduceToNat, ↓reduceIte, Nat.reduceEqDiff, true_and, and_true, List.length_nil, List.length_cons, Nat.reduceAdd, Nat.reduceLeDiff, Nat.zero_le, false_implies, true_implies, not_true_eq_false, not_false_eq_true, implies_true, Nat.reduceSub, Nat.reduceMul, reduceCtorEq, tn_clamp, nI_t, tn_nI, nI_add, pk_mul, rS_gS, rS_gA, rS_gL, rA_gS, rA_gA, rA_gL, rL_gS, rL_gA, rL_gL, and_self, and_false, false_and, if_true, if_false, true_or, or_true, or_false, false_or, sm_in, eqI, sI_s, Int32.toInt_zero, Int.natCast_zero, Int.natCast_one, Int.cast_ofNat_Int, Int.reduceEq, Int.reduceLT, Int.reduceLE, Int.reduceNeg, Int.reduceNe, ne_eq, n_up, g_up, e_cat, fr_A, fr_O, fr_P, fr_L, hS0, c1]
  repeat' (with_reducible refine And.intro ?_ ?_)
  all_goals (first | omega | skip)
  refine ⟨_, co_fitting _ g hg, fun v u hv => ?_⟩
  obtain ⟨x, rfl, hm⟩ := hv
  show J 846 [some (.ref 1000), some (.ref 0), some (.ref 53), some (.ref 85), some (.int (nI i)), a, b] [.int x] u
  apply hR 6
  simp (maxSteps := 10000000) (disch := omega) only [hS, hn, sm_eqs, hf, ha, sm_b0, Int.reduceToNat, ↓reduceIte, Nat.reduceEqDiff, true_and, and_true, List.length_nil, List.length_cons, Nat.reduceAdd, Nat.reduceLeDiff, Nat.zero_le, false_implies, true_implies, not_true_eq_false, not_false_eq_true, implies_true, Nat.reduceSub, Nat.reduceMul, reduceCtorEq, tn_clamp, nI_t, tn_nI, nI_add, pk_mul, rS_gS, rS_gA, rS_gL, rA_gS, rA_gA, rA_gL, rL_gS, rL_gA, rL_gL, and_self, and_false, false_and, if_true, if_false, true_or, or_true, or_false, false_or, sm_in, eqI, sI_s, Int32.toInt_zero, Int.natCast_zero, Int.natCast_one, Int.cast_ofNat_Int, Int.reduceEq, Int.reduceLT, Int.reduceLE, Int.reduceNeg, Int.reduceNe, ne_eq, n_up, g_up, e_cat, fr_A, fr_O, fr_P, fr_L, hS0, c2]
  repeat' (with_reducible refine And.intro ?_ ?_)
  all_goals (first | omega | skip)
  refine ⟨_, hm, fun v u2 hv => ?_⟩
  obtain ⟨rfl, hc⟩ := hv
  show J 856 [some (.ref 1000), some (.ref 0), some (.ref 53), some (.ref 85), some (.int (nI i)), a, b] [.int x, .int x] u2
  apply hR 0
  simp (maxSteps := 10000000) (disch := omega) only [hS, hn, sm_eqs, hf, ha, sm_b0, Int.reduceToNat, ↓reduceIte, Nat.reduceEqDiff, true_and, and_true, List.length_nil, List.length_cons, Nat.reduceAdd, Nat.reduceLeDiff, Nat.zero_le, false_implies, true_implies, not_true_eq_false, not_false_eq_true, implies_true, Nat.reduceSub, Nat.reduceMul, reduceCtorEq, tn_clamp, nI_t, tn_nI, nI_add, pk_mul, rS_gS, rS_gA, rS_gL, rA_gS, rA_gA, rA_gL, rL_gS, rL_gA, rL_gL, and_self, and_false, false_and, if_true, if_false, true_or, or_true, or_false, false_or, sm_in, eqI, sI_s, Int32.toInt_zero, Int.natCast_zero, Int.natCast_one, Int.cast_ofNat_Int, Int.reduceEq, Int.reduceLT, Int.reduceLE, Int.reduceNeg, Int.reduceNe, ne_eq, n_up, g_up, e_cat, fr_A, fr_O, fr_P, fr_L, hS0]
  exact next u2 hc

set_option maxHeartbeats 4000000 in
set_option maxRecDepth 100000 in
theorem op_13 (K : Option Value → sm_G → Prop) (J : Nat → sm_Lo → List Value → sm_G → Prop) (S : Nat → Nat → sm_Lo → List Value → sm_G → Prop) (cs : Nat → sm_SP) (Ls : Nat) (xs : Nat → Int32) (hW : sm_walk lay NL_law cs (some (Ls, xs)) 1 K J S) (hS0 : ∀ pc ls st g, S 0 pc ls st g = J pc ls st g)
    (c1 : cs 130 = spM sp_X9_fit) (c2 : cs 188 = spM (spE sp_X10_fit)) (i : Nat) (hi : i + 5 ≤ Ls) (hL : Ls ≤ 2560) (g : sm_G) (a b : Option Value) (hg : CP g g) (next : ∀ u, CP u u → J 1580 [some (.ref 1000), some (.ref 0), some (.ref 53), some (.ref 85), some (.int (nI i)), a, b] [] u) : J 861 [some (.ref 1000), some (.ref 0), some (.ref 53), some (.ref 85), some (.int (nI i)), a, b] [] g := by
  have hn := n_L_law
  have hf := fd_all
  have ha := ar_all
  generalize NL_law = N at hn hW
  generalize lay = L at hf ha hW
  obtain ⟨hS, hR⟩ := hW
  apply hR 11
  simp (maxSteps := 10000000) (disch := omega) only [hS, hn, sm_eqs, hf, ha, sm_b0, Int.reduceToNat, ↓reduceIte, Nat.reduceEqDiff, true_and, and_true, List.length_nil, List.length_cons, Nat.reduceAdd, Nat.reduceLeDiff, Nat.zero_le, false_implies, true_implies, not_true_eq_false, not_false_eq_true, implies_true, Nat.reduceSub, Nat.reduceMul, reduceCtorEq, tn_clamp, nI_t, tn_nI, nI_add, pk_mul, rS_gS, rS_gA, rS_gL, rA_gS, rA_gA, rA_gL, rL_gS, rL_gA, rL_gL, and_self, and_false, false_and, if_true, if_false, true_or, or_true, or_false, false_or, sm_in, eqI, sI_s, Int32.toInt_zero, Int.natCast_zero, Int.natCast_one, Int.cast_ofNat_Int, Int.reduceEq, Int.reduceLT, Int.reduceLE, Int.reduceNeg, Int.reduceNe, ne_eq, n_up, g_up, e_cat, fr_A, fr_O, fr_P, fr_L, hS0, c1]
  repeat' (with_reducible refine And.intro ?_ ?_)
  all_goals (first | omega | skip)
  refine ⟨_, co_fit _ _ g hg, fun v u hv => ?_⟩
  obtain ⟨x, rfl, hm⟩ := hv
  show J 877 [some (.ref 1000), some (.ref 0), some (.ref 53), some (.ref 85), some (.int (nI i)), a, b] [.int x] u
  apply hR 11
  simp (maxSteps := 10000000) (disch := omega) only [hS, hn, sm_eqs, hf, ha, sm_b0, Int.reduceToNat, ↓reduceIte, Nat.reduceEqDiff, true_and, and_true, List.length_nil, List.length_cons, Nat.reduceAdd, Nat.reduceLeDiff, Nat.zero_le, false_implies, true_implies, not_true_eq_false, not_false_eq_true, implies_true, Nat.reduceSub, Nat.reduceMul, reduceCtorEq, tn_clamp, nI_t, tn_nI, nI_add, pk_mul, rS_gS, rS_gA, rS_gL, rA_gS, rA_gA, rA_gL, rL_gS, rL_gA, rL_gL, and_self, and_false, false_and, if_true, if_false, true_or, or_true, or_false, false_or, sm_in, eqI, sI_s, Int32.toInt_zero, Int.natCast_zero, Int.natCast_one, Int.cast_ofNat_Int, Int.reduceEq, Int.reduceLT, Int.reduceLE, Int.reduceNeg, Int.reduceNe, ne_eq, n_up, g_up, e_cat, fr_A, fr_O, fr_P, fr_L, hS0, c2]
  repeat' (with_reducible refine And.intro ?_ ?_)
  all_goals (first | omega | skip)
  refine ⟨_, hm, fun v u2 hv => ?_⟩
  obtain ⟨rfl, hc⟩ := hv
  show J 893 [some (.ref 1000), some (.ref 0), some (.ref 53), some (.ref 85), some (.int (nI i)), a, b] [.int x, .int x] u2
  apply hR 0
  simp (maxSteps := 10000000) (disch := omega) only [hS, hn, sm_eqs, hf, ha, sm_b0, Int.reduceToNat, ↓reduceIte, Nat.reduceEqDiff, true_and, and_true, List.length_nil, List.length_cons, Nat.reduceAdd, Nat.reduceLeDiff, Nat.zero_le, false_implies, true_implies, not_true_eq_false, not_false_eq_true, implies_true, Nat.reduceSub, Nat.reduceMul, reduceCtorEq, tn_clamp, nI_t, tn_nI, nI_add, pk_mul, rS_gS, rS_gA, rS_gL, rA_gS, rA_gA, rA_gL, rL_gS, rL_gA, rL_gL, and_self, and_false, false_and, if_true, if_false, true_or, or_true, or_false, false_or, sm_in, eqI, sI_s, Int32.toInt_zero, Int.natCast_zero, Int.natCast_one, Int.cast_ofNat_Int, Int.reduceEq, Int.reduceLT, Int.reduceLE, Int.reduceNeg, Int.reduceNe, ne_eq, n_up, g_up, e_cat, fr_A, fr_O, fr_P, fr_L, hS0]
  exact next u2 hc

set_option maxHeartbeats 4000000 in
set_option maxRecDepth 100000 in
theorem op_14 (K : Option Value → sm_G → Prop) (J : Nat → sm_Lo → List Value → sm_G → Prop) (S : Nat → Nat → sm_Lo → List Value → sm_G → Prop) (cs : Nat → sm_SP) (Ls : Nat) (xs : Nat → Int32) (hW : sm_walk lay NL_law cs (some (Ls, xs)) 1 K J S) (hS0 : ∀ pc ls st g, S 0 pc ls st g = J pc ls st g)
    (c1 : cs 132 = spM sp_X9_best) (c2 : cs 195 = spM (spE sp_X10_best)) (i : Nat) (hi : i + 5 ≤ Ls) (hL : Ls ≤ 2560) (g : sm_G) (a b : Option Value) (hg : CP g g) (next : ∀ u, CP u u → J 1580 [some (.ref 1000), some (.ref 0), some (.ref 53), some (.ref 85), some (.int (nI i)), a, b] [] u) : J 898 [some (.ref 1000), some (.ref 0), some (.ref 53), some (.ref 85), some (.int (nI i)), a, b] [] g := by
  have hn := n_L_law
  have hf := fd_all
  have ha := ar_all
  generalize NL_law = N at hn hW
  generalize lay = L at hf ha hW
  obtain ⟨hS, hR⟩ := hW
  apply hR 6
  simp (maxSteps := 10000000) (disch := omega) only [hS, hn, sm_eqs, hf, ha, sm_b0, Int.reduceToNat, ↓reduceIte, Nat.reduceEqDiff, true_and, and_true, List.length_nil, List.length_cons, Nat.reduceAdd, Nat.reduceLeDiff, Nat.zero_le, false_implies, true_implies, not_true_eq_false, not_false_eq_true, implies_true, Nat.reduceSub, Nat.reduceMul, reduceCtorEq, tn_clamp, nI_t, tn_nI, nI_add, pk_mul, rS_gS, rS_gA, rS_gL, rA_gS, rA_gA, rA_gL, rL_gS, rL_gA, rL_gL, and_self, and_false, false_and, if_true, if_false, true_or, or_true, or_false, false_or, sm_in, eqI, sI_s, Int32.toInt_zero, Int.natCast_zero, Int.natCast_one, Int.cast_ofNat_Int, Int.reduceEq, Int.reduceLT, Int.reduceLE, Int.reduceNeg, Int.reduceNe, ne_eq, n_up, g_up, e_cat, fr_A, fr_O, fr_P, fr_L, hS0, c1]
  repeat' (with_reducible refine And.intro ?_ ?_)
  all_goals (first | omega | skip)
  refine ⟨_, co_best _ g hg, fun v u hv => ?_⟩
  obtain ⟨x, rfl, hm⟩ := hv
  show J 908 [some (.ref 1000), some (.ref 0), some (.ref 53), some (.ref 85), some (.int (nI i)), a, b] [.int x] u
  apply hR 6
  simp (maxSteps := 10000000) (disch := omega) only [hS, hn, sm_eqs, hf, ha, sm_b0, Int.reduceToNat, ↓reduceIte, Nat.reduceEqDiff, true_and, and_true, List.length_nil, List.length_cons, Nat.reduceAdd, Nat.reduceLeDiff, Nat.zero_le, false_implies, true_implies, not_true_eq_false, not_false_eq_true, implies_true, Nat.reduceSub, Nat.reduceMul, reduceCtorEq, tn_clamp, nI_t, tn_nI, nI_add, pk_mul, rS_gS, rS_gA, rS_gL, rA_gS, rA_gA, rA_gL, rL_gS, rL_gA, rL_gL, and_self, and_false, false_and, if_true, if_false, true_or, or_true, or_false, false_or, sm_in, eqI, sI_s, Int32.toInt_zero, Int.natCast_zero, Int.natCast_one, Int.cast_ofNat_Int, Int.reduceEq, Int.reduceLT, Int.reduceLE, Int.reduceNeg, Int.reduceNe, ne_eq, n_up, g_up, e_cat, fr_A, fr_O, fr_P, fr_L, hS0, c2]
  repeat' (with_reducible refine And.intro ?_ ?_)
  all_goals (first | omega | skip)
  refine ⟨_, hm, fun v u2 hv => ?_⟩
  obtain ⟨rfl, hc⟩ := hv
  show J 918 [some (.ref 1000), some (.ref 0), some (.ref 53), some (.ref 85), some (.int (nI i)), a, b] [.int x, .int x] u2
  apply hR 0
  simp (maxSteps := 10000000) (disch := omega) only [hS, hn, sm_eqs, hf, ha, sm_b0, Int.reduceToNat, ↓reduceIte, Nat.reduceEqDiff, true_and, and_true, List.length_nil, List.length_cons, Nat.reduceAdd, Nat.reduceLeDiff, Nat.zero_le, false_implies, true_implies, not_true_eq_false, not_false_eq_true, implies_true, Nat.reduceSub, Nat.reduceMul, reduceCtorEq, tn_clamp, nI_t, tn_nI, nI_add, pk_mul, rS_gS, rS_gA, rS_gL, rA_gS, rA_gA, rA_gL, rL_gS, rL_gA, rL_gL, and_self, and_false, false_and, if_true, if_false, true_or, or_true, or_false, false_or, sm_in, eqI, sI_s, Int32.toInt_zero, Int.natCast_zero, Int.natCast_one, Int.cast_ofNat_Int, Int.reduceEq, Int.reduceLT, Int.reduceLE, Int.reduceNeg, Int.reduceNe, ne_eq, n_up, g_up, e_cat, fr_A, fr_O, fr_P, fr_L, hS0]
  exact next u2 hc

set_option maxHeartbeats 4000000 in
set_option maxRecDepth 100000 in
theorem op_15 (K : Option Value → sm_G → Prop) (J : Nat → sm_Lo → List Value → sm_G → Prop) (S : Nat → Nat → sm_Lo → List Value → sm_G → Prop) (cs : Nat → sm_SP) (Ls : Nat) (xs : Nat → Int32) (hW : sm_walk lay NL_law cs (some (Ls, xs)) 1 K J S) (hS0 : ∀ pc ls st g, S 0 pc ls st g = J pc ls st g)
    (c1 : cs 133 = spM sp_X9_sum) (c2 : cs 196 = spM (spE sp_X10_sum)) (i : Nat) (hi : i + 5 ≤ Ls) (hL : Ls ≤ 2560) (g : sm_G) (a b : Option Value) (hg : CP g g) (next : ∀ u, CP u u → J 1580 [some (.ref 1000), some (.ref 0), some (.ref 53), some (.ref 85), some (.int (nI i)), a, b] [] u) : J 923 [some (.ref 1000), some (.ref 0), some (.ref 53), some (.ref 85), some (.int (nI i)), a, b] [] g := by
  have hn := n_L_law
  have hf := fd_all
  have ha := ar_all
  generalize NL_law = N at hn hW
  generalize lay = L at hf ha hW
  obtain ⟨hS, hR⟩ := hW
  apply hR 6
  simp (maxSteps := 10000000) (disch := omega) only [hS, hn, sm_eqs, hf, ha, sm_b0, Int.reduceToNat, ↓reduceIte, Nat.reduceEqDiff, true_and, and_true, List.length_nil, List.length_cons, Nat.reduceAdd, Nat.reduceLeDiff, Nat.zero_le, false_implies, true_implies, not_true_eq_false, not_false_eq_true, implies_true, Nat.reduceSub, Nat.reduceMul, reduceCtorEq, tn_clamp, nI_t, tn_nI, nI_add, pk_mul, rS_gS, rS_gA, rS_gL, rA_gS, rA_gA, rA_gL, rL_gS, rL_gA, rL_gL, and_self, and_false, false_and, if_true, if_false, true_or, or_true, or_false, false_or, sm_in, eqI, sI_s, Int32.toInt_zero, Int.natCast_zero, Int.natCast_one, Int.cast_ofNat_Int, Int.reduceEq, Int.reduceLT, Int.reduceLE, Int.reduceNeg, Int.reduceNe, ne_eq, n_up, g_up, e_cat, fr_A, fr_O, fr_P, fr_L, hS0, c1]
  repeat' (with_reducible refine And.intro ?_ ?_)
  all_goals (first | omega | skip)
  refine ⟨_, co_sum _ g hg, fun v u hv => ?_⟩
  obtain ⟨x, rfl, hm⟩ := hv
  show J 933 [some (.ref 1000), some (.ref 0), some (.ref 53), some (.ref 85), some (.int (nI i)), a, b] [.int x] u
  apply hR 6
  simp (maxSteps := 10000000) (disch := omega) only [hS, hn, sm_eqs, hf, ha, sm_b0, Int.reduceToNat, ↓reduceIte, Nat.reduceEqDiff, true_and, and_true, List.length_nil, List.length_cons, Nat.reduceAdd, Nat.reduceLeDiff, Nat.zero_le, false_implies, true_implies, not_true_eq_false, not_false_eq_true, implies_true, Nat.reduceSub, Nat.reduceMul, reduceCtorEq, tn_clamp, nI_t, tn_nI, nI_add, pk_mul, rS_gS, rS_gA, rS_gL, rA_gS, rA_gA, rA_gL, rL_gS, rL_gA, rL_gL, and_self, and_false, false_and, if_true, if_false, true_or, or_true, or_false, false_or, sm_in, eqI, sI_s, Int32.toInt_zero, Int.natCast_zero, Int.natCast_one, Int.cast_ofNat_Int, Int.reduceEq, Int.reduceLT, Int.reduceLE, Int.reduceNeg, Int.reduceNe, ne_eq, n_up, g_up, e_cat, fr_A, fr_O, fr_P, fr_L, hS0, c2]
  repeat' (with_reducible refine And.intro ?_ ?_)
  all_goals (first | omega | skip)
  refine ⟨_, hm, fun v u2 hv => ?_⟩
  obtain ⟨rfl, hc⟩ := hv
  show J 943 [some (.ref 1000), some (.ref 0), some (.ref 53), some (.ref 85), some (.int (nI i)), a, b] [.int x, .int x] u2
  apply hR 0
  simp (maxSteps := 10000000) (disch := omega) only [hS, hn, sm_eqs, hf, ha, sm_b0, Int.reduceToNat, ↓reduceIte, Nat.reduceEqDiff, true_and, and_true, List.length_nil, List.length_cons, Nat.reduceAdd, Nat.reduceLeDiff, Nat.zero_le, false_implies, true_implies, not_true_eq_false, not_false_eq_true, implies_true, Nat.reduceSub, Nat.reduceMul, reduceCtorEq, tn_clamp, nI_t, tn_nI, nI_add, pk_mul, rS_gS, rS_gA, rS_gL, rA_gS, rA_gA, rA_gL, rL_gS, rL_gA, rL_gL, and_self, and_false, false_and, if_true, if_false, true_or, or_true, or_false, false_or, sm_in, eqI, sI_s, Int32.toInt_zero, Int.natCast_zero, Int.natCast_one, Int.cast_ofNat_Int, Int.reduceEq, Int.reduceLT, Int.reduceLE, Int.reduceNeg, Int.reduceNe, ne_eq, n_up, g_up, e_cat, fr_A, fr_O, fr_P, fr_L, hS0]
  exact next u2 hc

set_option maxHeartbeats 4000000 in
set_option maxRecDepth 100000 in
theorem op_16 (K : Option Value → sm_G → Prop) (J : Nat → sm_Lo → List Value → sm_G → Prop) (S : Nat → Nat → sm_Lo → List Value → sm_G → Prop) (cs : Nat → sm_SP) (Ls : Nat) (xs : Nat → Int32) (hW : sm_walk lay NL_law cs (some (Ls, xs)) 1 K J S) (hS0 : ∀ pc ls st g, S 0 pc ls st g = J pc ls st g)
    (c1 : cs 134 = spM sp_X9_also) (c2 : cs 197 = spM (spE sp_X10_also)) (i : Nat) (hi : i + 5 ≤ Ls) (hL : Ls ≤ 2560) (g : sm_G) (a b : Option Value) (hg : CP g g) (next : ∀ u, CP u u → J 1580 [some (.ref 1000), some (.ref 0), some (.ref 53), some (.ref 85), some (.int (nI i)), a, b] [] u) : J 948 [some (.ref 1000), some (.ref 0), some (.ref 53), some (.ref 85), some (.int (nI i)), a, b] [] g := by
  have hn := n_L_law
  have hf := fd_all
  have ha := ar_all
  generalize NL_law = N at hn hW
  generalize lay = L at hf ha hW
  obtain ⟨hS, hR⟩ := hW
  apply hR 6
  simp (maxSteps := 10000000) (disch := omega) only [hS, hn, sm_eqs, hf, ha, sm_b0, Int.reduceToNat, ↓reduceIte, Nat.reduceEqDiff, true_and, and_true, List.length_nil, List.length_cons, Nat.reduceAdd, Nat.reduceLeDiff, Nat.zero_le, false_implies, true_implies, not_true_eq_false, not_false_eq_true, implies_true, Nat.reduceSub, Nat.reduceMul, reduceCtorEq, tn_clamp, nI_t, tn_nI, nI_add, pk_mul, rS_gS, rS_gA, rS_gL, rA_gS, rA_gA, rA_gL, rL_gS, rL_gA, rL_gL, and_self, and_false, false_and, if_true, if_false, true_or, or_true, or_false, false_or, sm_in, eqI, sI_s, Int32.toInt_zero, Int.natCast_zero, Int.natCast_one, Int.cast_ofNat_Int, Int.reduceEq, Int.reduceLT, Int.reduceLE, Int.reduceNeg, Int.reduceNe, ne_eq, n_up, g_up, e_cat, fr_A, fr_O, fr_P, fr_L, hS0, c1]
  repeat' (with_reducible refine And.intro ?_ ?_)
  all_goals (first | omega | skip)
  refine ⟨_, co_also _ g hg, fun v u hv => ?_⟩
  obtain ⟨x, rfl, hm⟩ := hv
  show J 958 [some (.ref 1000), some (.ref 0), some (.ref 53), some (.ref 85), some (.int (nI i)), a, b] [.int x] u
  apply hR 6
  simp (maxSteps := 10000000) (disch := omega) only [hS, hn, sm_eqs, hf, ha, sm_b0, Int.reduceToNat, ↓reduceIte, Nat.reduceEqDiff, true_and, and_true, List.length_nil, List.length_cons, Nat.reduceAdd, Nat.reduceLeDiff, Nat.zero_le, false_implies, true_implies, not_true_eq_false, not_false_eq_true, implies_true, Nat.reduceSub, Nat.reduceMul, reduceCtorEq, tn_clamp, nI_t, tn_nI, nI_add, pk_mul, rS_gS, rS_gA, rS_gL, rA_gS, rA_gA, rA_gL, rL_gS, rL_gA, rL_gL, and_self, and_false, false_and, if_true, if_false, true_or, or_true, or_false, false_or, sm_in, eqI, sI_s, Int32.toInt_zero, Int.natCast_zero, Int.natCast_one, Int.cast_ofNat_Int, Int.reduceEq, Int.reduceLT, Int.reduceLE, Int.reduceNeg, Int.reduceNe, ne_eq, n_up, g_up, e_cat, fr_A, fr_O, fr_P, fr_L, hS0, c2]
  repeat' (with_reducible refine And.intro ?_ ?_)
  all_goals (first | omega | skip)
  refine ⟨_, hm, fun v u2 hv => ?_⟩
  obtain ⟨rfl, hc⟩ := hv
  show J 968 [some (.ref 1000), some (.ref 0), some (.ref 53), some (.ref 85), some (.int (nI i)), a, b] [.int x, .int x] u2
  apply hR 0
  simp (maxSteps := 10000000) (disch := omega) only [hS, hn, sm_eqs, hf, ha, sm_b0, Int.reduceToNat, ↓reduceIte, Nat.reduceEqDiff, true_and, and_true, List.length_nil, List.length_cons, Nat.reduceAdd, Nat.reduceLeDiff, Nat.zero_le, false_implies, true_implies, not_true_eq_false, not_false_eq_true, implies_true, Nat.reduceSub, Nat.reduceMul, reduceCtorEq, tn_clamp, nI_t, tn_nI, nI_add, pk_mul, rS_gS, rS_gA, rS_gL, rA_gS, rA_gA, rA_gL, rL_gS, rL_gA, rL_gL, and_self, and_false, false_and, if_true, if_false, true_or, or_true, or_false, false_or, sm_in, eqI, sI_s, Int32.toInt_zero, Int.natCast_zero, Int.natCast_one, Int.cast_ofNat_Int, Int.reduceEq, Int.reduceLT, Int.reduceLE, Int.reduceNeg, Int.reduceNe, ne_eq, n_up, g_up, e_cat, fr_A, fr_O, fr_P, fr_L, hS0]
  exact next u2 hc

set_option maxHeartbeats 4000000 in
set_option maxRecDepth 100000 in
theorem op_17 (K : Option Value → sm_G → Prop) (J : Nat → sm_Lo → List Value → sm_G → Prop) (S : Nat → Nat → sm_Lo → List Value → sm_G → Prop) (cs : Nat → sm_SP) (Ls : Nat) (xs : Nat → Int32) (hW : sm_walk lay NL_law cs (some (Ls, xs)) 1 K J S) (hS0 : ∀ pc ls st g, S 0 pc ls st g = J pc ls st g)
    (c1 : cs 136 = spM sp_X9_group) (c2 : cs 198 = spM (spE sp_X10_group)) (i : Nat) (hi : i + 5 ≤ Ls) (hL : Ls ≤ 2560) (g : sm_G) (a b : Option Value) (hg : CP g g) (next : ∀ u, CP u u → J 1580 [some (.ref 1000), some (.ref 0), some (.ref 53), some (.ref 85), some (.int (nI i)), a, b] [] u) : J 973 [some (.ref 1000), some (.ref 0), some (.ref 53), some (.ref 85), some (.int (nI i)), a, b] [] g := by
  have hn := n_L_law
  have hf := fd_all
  have ha := ar_all
  generalize NL_law = N at hn hW
  generalize lay = L at hf ha hW
  obtain ⟨hS, hR⟩ := hW
  apply hR 11
  simp (maxSteps := 10000000) (disch := omega) only [hS, hn, sm_eqs, hf, ha, sm_b0, Int.reduceToNat, ↓reduceIte, Nat.reduceEqDiff, true_and, and_true, List.length_nil, List.length_cons, Nat.reduceAdd, Nat.reduceLeDiff, Nat.zero_le, false_implies, true_implies, not_true_eq_false, not_false_eq_true, implies_true, Nat.reduceSub, Nat.reduceMul, reduceCtorEq, tn_clamp, nI_t, tn_nI, nI_add, pk_mul, rS_gS, rS_gA, rS_gL, rA_gS, rA_gA, rA_gL, rL_gS, rL_gA, rL_gL, and_self, and_false, false_and, if_true, if_false, true_or, or_true, or_false, false_or, sm_in, eqI, sI_s, Int32.toInt_zero, Int.natCast_zero, Int.natCast_one, Int.cast_ofNat_Int, Int.reduceEq, Int.reduceLT, Int.reduceLE, Int.reduceNeg, Int.reduceNe, ne_eq, n_up, g_up, e_cat, fr_A, fr_O, fr_P, fr_L, hS0, c1]
  repeat' (with_reducible refine And.intro ?_ ?_)
  all_goals (first | omega | skip)
  refine ⟨_, co_group _ _ g hg, fun v u hv => ?_⟩
  obtain ⟨x, rfl, hm⟩ := hv
  show J 989 [some (.ref 1000), some (.ref 0), some (.ref 53), some (.ref 85), some (.int (nI i)), a, b] [.int x] u
  apply hR 11
  simp (maxSteps := 10000000) (disch := omega) only [hS, hn, sm_eqs, hf, ha, sm_b0, Int.reduceToNat, ↓reduceIte, Nat.reduceEqDiff, true_and, and_true, List.length_nil, List.length_cons, Nat.reduceAdd, Nat.reduceLeDiff, Nat.zero_le, false_implies, true_implies, not_true_eq_false, not_false_eq_true, implies_true, Nat.reduceSub, Nat.reduceMul, reduceCtorEq, tn_clamp, nI_t, tn_nI, nI_add, pk_mul, rS_gS, rS_gA, rS_gL, rA_gS, rA_gA, rA_gL, rL_gS, rL_gA, rL_gL, and_self, and_false, false_and, if_true, if_false, true_or, or_true, or_false, false_or, sm_in, eqI, sI_s, Int32.toInt_zero, Int.natCast_zero, Int.natCast_one, Int.cast_ofNat_Int, Int.reduceEq, Int.reduceLT, Int.reduceLE, Int.reduceNeg, Int.reduceNe, ne_eq, n_up, g_up, e_cat, fr_A, fr_O, fr_P, fr_L, hS0, c2]
  repeat' (with_reducible refine And.intro ?_ ?_)
  all_goals (first | omega | skip)
  refine ⟨_, hm, fun v u2 hv => ?_⟩
  obtain ⟨rfl, hc⟩ := hv
  show J 1005 [some (.ref 1000), some (.ref 0), some (.ref 53), some (.ref 85), some (.int (nI i)), a, b] [.int x, .int x] u2
  apply hR 0
  simp (maxSteps := 10000000) (disch := omega) only [hS, hn, sm_eqs, hf, ha, sm_b0, Int.reduceToNat, ↓reduceIte, Nat.reduceEqDiff, true_and, and_true, List.length_nil, List.length_cons, Nat.reduceAdd, Nat.reduceLeDiff, Nat.zero_le, false_implies, true_implies, not_true_eq_false, not_false_eq_true, implies_true, Nat.reduceSub, Nat.reduceMul, reduceCtorEq, tn_clamp, nI_t, tn_nI, nI_add, pk_mul, rS_gS, rS_gA, rS_gL, rA_gS, rA_gA, rA_gL, rL_gS, rL_gA, rL_gL, and_self, and_false, false_and, if_true, if_false, true_or, or_true, or_false, false_or, sm_in, eqI, sI_s, Int32.toInt_zero, Int.natCast_zero, Int.natCast_one, Int.cast_ofNat_Int, Int.reduceEq, Int.reduceLT, Int.reduceLE, Int.reduceNeg, Int.reduceNe, ne_eq, n_up, g_up, e_cat, fr_A, fr_O, fr_P, fr_L, hS0]
  exact next u2 hc

set_option maxHeartbeats 4000000 in
set_option maxRecDepth 100000 in
theorem op_18 (K : Option Value → sm_G → Prop) (J : Nat → sm_Lo → List Value → sm_G → Prop) (S : Nat → Nat → sm_Lo → List Value → sm_G → Prop) (cs : Nat → sm_SP) (Ls : Nat) (xs : Nat → Int32) (hW : sm_walk lay NL_law cs (some (Ls, xs)) 1 K J S) (hS0 : ∀ pc ls st g, S 0 pc ls st g = J pc ls st g)
    (c1 : cs 137 = spM sp_X9_like) (c2 : cs 199 = spM (spE sp_X10_like)) (i : Nat) (hi : i + 5 ≤ Ls) (hL : Ls ≤ 2560) (g : sm_G) (a b : Option Value) (hg : CP g g) (next : ∀ u, CP u u → J 1580 [some (.ref 1000), some (.ref 0), some (.ref 53), some (.ref 85), some (.int (nI i)), a, b] [] u) : J 1010 [some (.ref 1000), some (.ref 0), some (.ref 53), some (.ref 85), some (.int (nI i)), a, b] [] g := by
  have hn := n_L_law
  have hf := fd_all
  have ha := ar_all
  generalize NL_law = N at hn hW
  generalize lay = L at hf ha hW
  obtain ⟨hS, hR⟩ := hW
  apply hR 11
  simp (maxSteps := 10000000) (disch := omega) only [hS, hn, sm_eqs, hf, ha, sm_b0, Int.reduceToNat, ↓reduceIte, Nat.reduceEqDiff, true_and, and_true, List.length_nil, List.length_cons, Nat.reduceAdd, Nat.reduceLeDiff, Nat.zero_le, false_implies, true_implies, not_true_eq_false, not_false_eq_true, implies_true, Nat.reduceSub, Nat.reduceMul, reduceCtorEq, tn_clamp, nI_t, tn_nI, nI_add, pk_mul, rS_gS, rS_gA, rS_gL, rA_gS, rA_gA, rA_gL, rL_gS, rL_gA, rL_gL, and_self, and_false, false_and, if_true, if_false, true_or, or_true, or_false, false_or, sm_in, eqI, sI_s, Int32.toInt_zero, Int.natCast_zero, Int.natCast_one, Int.cast_ofNat_Int, Int.reduceEq, Int.reduceLT, Int.reduceLE, Int.reduceNeg, Int.reduceNe, ne_eq, n_up, g_up, e_cat, fr_A, fr_O, fr_P, fr_L, hS0, c1]
  repeat' (with_reducible refine And.intro ?_ ?_)
  all_goals (first | omega | skip)
  refine ⟨_, co_like _ _ g hg, fun v u hv => ?_⟩
  obtain ⟨x, rfl, hm⟩ := hv
  show J 1026 [some (.ref 1000), some (.ref 0), some (.ref 53), some (.ref 85), some (.int (nI i)), a, b] [.int x] u
  apply hR 11
  simp (maxSteps := 10000000) (disch := omega) only [hS, hn, sm_eqs, hf, ha, sm_b0, Int.reduceToNat, ↓reduceIte, Nat.reduceEqDiff, true_and, and_true, List.length_nil, List.length_cons, Nat.reduceAdd, Nat.reduceLeDiff, Nat.zero_le, false_implies, true_implies, not_true_eq_false, not_false_eq_true, implies_true, Nat.reduceSub, Nat.reduceMul, reduceCtorEq, tn_clamp, nI_t, tn_nI, nI_add, pk_mul, rS_gS, rS_gA, rS_gL, rA_gS, rA_gA, rA_gL, rL_gS, rL_gA, rL_gL, and_self, and_false, false_and, if_true, if_false, true_or, or_true, or_false, false_or, sm_in, eqI, sI_s, Int32.toInt_zero, Int.natCast_zero, Int.natCast_one, Int.cast_ofNat_Int, Int.reduceEq, Int.reduceLT, Int.reduceLE, Int.reduceNeg, Int.reduceNe, ne_eq, n_up, g_up, e_cat, fr_A, fr_O, fr_P, fr_L, hS0, c2]
  repeat' (with_reducible refine And.intro ?_ ?_)
  all_goals (first | omega | skip)
  refine ⟨_, hm, fun v u2 hv => ?_⟩
  obtain ⟨rfl, hc⟩ := hv
  show J 1042 [some (.ref 1000), some (.ref 0), some (.ref 53), some (.ref 85), some (.int (nI i)), a, b] [.int x, .int x] u2
  apply hR 0
  simp (maxSteps := 10000000) (disch := omega) only [hS, hn, sm_eqs, hf, ha, sm_b0, Int.reduceToNat, ↓reduceIte, Nat.reduceEqDiff, true_and, and_true, List.length_nil, List.length_cons, Nat.reduceAdd, Nat.reduceLeDiff, Nat.zero_le, false_implies, true_implies, not_true_eq_false, not_false_eq_true, implies_true, Nat.reduceSub, Nat.reduceMul, reduceCtorEq, tn_clamp, nI_t, tn_nI, nI_add, pk_mul, rS_gS, rS_gA, rS_gL, rA_gS, rA_gA, rA_gL, rL_gS, rL_gA, rL_gL, and_self, and_false, false_and, if_true, if_false, true_or, or_true, or_false, false_or, sm_in, eqI, sI_s, Int32.toInt_zero, Int.natCast_zero, Int.natCast_one, Int.cast_ofNat_Int, Int.reduceEq, Int.reduceLT, Int.reduceLE, Int.reduceNeg, Int.reduceNe, ne_eq, n_up, g_up, e_cat, fr_A, fr_O, fr_P, fr_L, hS0]
  exact next u2 hc

set_option maxHeartbeats 4000000 in
set_option maxRecDepth 100000 in
theorem op_19 (K : Option Value → sm_G → Prop) (J : Nat → sm_Lo → List Value → sm_G → Prop) (S : Nat → Nat → sm_Lo → List Value → sm_G → Prop) (cs : Nat → sm_SP) (Ls : Nat) (xs : Nat → Int32) (hW : sm_walk lay NL_law cs (some (Ls, xs)) 1 K J S) (hS0 : ∀ pc ls st g, S 0 pc ls st g = J pc ls st g)
    (c1 : cs 138 = spM sp_X9_parts) (c2 : cs 202 = spM (spE sp_X10_parts)) (i : Nat) (hi : i + 5 ≤ Ls) (hL : Ls ≤ 2560) (g : sm_G) (a b : Option Value) (hg : CP g g) (next : ∀ u, CP u u → J 1580 [some (.ref 1000), some (.ref 0), some (.ref 53), some (.ref 85), some (.int (nI i)), a, b] [] u) : J 1047 [some (.ref 1000), some (.ref 0), some (.ref 53), some (.ref 85), some (.int (nI i)), a, b] [] g := by
  have hn := n_L_law
  have hf := fd_all
  have ha := ar_all
  generalize NL_law = N at hn hW
  generalize lay = L at hf ha hW
  obtain ⟨hS, hR⟩ := hW
  apply hR 11
  simp (maxSteps := 10000000) (disch := omega) only [hS, hn, sm_eqs, hf, ha, sm_b0, Int.reduceToNat, ↓reduceIte, Nat.reduceEqDiff, true_and, and_true, List.length_nil, List.length_cons, Nat.reduceAdd, Nat.reduceLeDiff, Nat.zero_le, false_implies, true_implies, not_true_eq_false, not_false_eq_true, implies_true, Nat.reduceSub, Nat.reduceMul, reduceCtorEq, tn_clamp, nI_t, tn_nI, nI_add, pk_mul, rS_gS, rS_gA, rS_gL, rA_gS, rA_gA, rA_gL, rL_gS, rL_gA, rL_gL, and_self, and_false, false_and, if_true, if_false, true_or, or_true, or_false, false_or, sm_in, eqI, sI_s, Int32.toInt_zero, Int.natCast_zero, Int.natCast_one, Int.cast_ofNat_Int, Int.reduceEq, Int.reduceLT, Int.reduceLE, Int.reduceNeg, Int.reduceNe, ne_eq, n_up, g_up, e_cat, fr_A, fr_O, fr_P, fr_L, hS0, c1]
  repeat' (with_reducible refine And.intro ?_ ?_)
  all_goals (first | omega | skip)
  refine ⟨_, co_parts _ _ g hg, fun v u hv => ?_⟩
  obtain ⟨x, rfl, hm⟩ := hv
  show J 1063 [some (.ref 1000), some (.ref 0), some (.ref 53), some (.ref 85), some (.int (nI i)), a, b] [.int x] u
  apply hR 11
  simp (maxSteps := 10000000) (disch := omega) only [hS, hn, sm_eqs, hf, ha, sm_b0, Int.reduceToNat, ↓reduceIte, Nat.reduceEqDiff, true_and, and_true, List.length_nil, List.length_cons, Nat.reduceAdd, Nat.reduceLeDiff, Nat.zero_le, false_implies, true_implies, not_true_eq_false, not_false_eq_true, implies_true, Nat.reduceSub, Nat.reduceMul, reduceCtorEq, tn_clamp, nI_t, tn_nI, nI_add, pk_mul, rS_gS, rS_gA, rS_gL, rA_gS, rA_gA, rA_gL, rL_gS, rL_gA, rL_gL, and_self, and_false, false_and, if_true, if_false, true_or, or_true, or_false, false_or, sm_in, eqI, sI_s, Int32.toInt_zero, Int.natCast_zero, Int.natCast_one, Int.cast_ofNat_Int, Int.reduceEq, Int.reduceLT, Int.reduceLE, Int.reduceNeg, Int.reduceNe, ne_eq, n_up, g_up, e_cat, fr_A, fr_O, fr_P, fr_L, hS0, c2]
  repeat' (with_reducible refine And.intro ?_ ?_)
  all_goals (first | omega | skip)
  refine ⟨_, hm, fun v u2 hv => ?_⟩
  obtain ⟨rfl, hc⟩ := hv
  show J 1079 [some (.ref 1000), some (.ref 0), some (.ref 53), some (.ref 85), some (.int (nI i)), a, b] [.int x, .int x] u2
  apply hR 0
  simp (maxSteps := 10000000) (disch := omega) only [hS, hn, sm_eqs, hf, ha, sm_b0, Int.reduceToNat, ↓reduceIte, Nat.reduceEqDiff, true_and, and_true, List.length_nil, List.length_cons, Nat.reduceAdd, Nat.reduceLeDiff, Nat.zero_le, false_implies, true_implies, not_true_eq_false, not_false_eq_true, implies_true, Nat.reduceSub, Nat.reduceMul, reduceCtorEq, tn_clamp, nI_t, tn_nI, nI_add, pk_mul, rS_gS, rS_gA, rS_gL, rA_gS, rA_gA, rA_gL, rL_gS, rL_gA, rL_gL, and_self, and_false, false_and, if_true, if_false, true_or, or_true, or_false, false_or, sm_in, eqI, sI_s, Int32.toInt_zero, Int.natCast_zero, Int.natCast_one, Int.cast_ofNat_Int, Int.reduceEq, Int.reduceLT, Int.reduceLE, Int.reduceNeg, Int.reduceNe, ne_eq, n_up, g_up, e_cat, fr_A, fr_O, fr_P, fr_L, hS0]
  exact next u2 hc

set_option maxHeartbeats 4000000 in
set_option maxRecDepth 100000 in
theorem op_20 (K : Option Value → sm_G → Prop) (J : Nat → sm_Lo → List Value → sm_G → Prop) (S : Nat → Nat → sm_Lo → List Value → sm_G → Prop) (cs : Nat → sm_SP) (Ls : Nat) (xs : Nat → Int32) (hW : sm_walk lay NL_law cs (some (Ls, xs)) 1 K J S) (hS0 : ∀ pc ls st g, S 0 pc ls st g = J pc ls st g)
    (c1 : cs 139 = spM sp_X9_ask) (c2 : cs 203 = spM (spE sp_X10_ask)) (i : Nat) (hi : i + 5 ≤ Ls) (hL : Ls ≤ 2560) (g : sm_G) (a b : Option Value) (hg : CP g g) (next : ∀ u, CP u u → J 1580 [some (.ref 1000), some (.ref 0), some (.ref 53), some (.ref 85), some (.int (nI i)), a, b] [] u) : J 1084 [some (.ref 1000), some (.ref 0), some (.ref 53), some (.ref 85), some (.int (nI i)), a, b] [] g := by
  have hn := n_L_law
  have hf := fd_all
  have ha := ar_all
  generalize NL_law = N at hn hW
  generalize lay = L at hf ha hW
  obtain ⟨hS, hR⟩ := hW
  apply hR 6
  simp (maxSteps := 10000000) (disch := omega) only [hS, hn, sm_eqs, hf, ha, sm_b0, Int.reduceToNat, ↓reduceIte, Nat.reduceEqDiff, true_and, and_true, List.length_nil, List.length_cons, Nat.reduceAdd, Nat.reduceLeDiff, Nat.zero_le, false_implies, true_implies, not_true_eq_false, not_false_eq_true, implies_true, Nat.reduceSub, Nat.reduceMul, reduceCtorEq, tn_clamp, nI_t, tn_nI, nI_add, pk_mul, rS_gS, rS_gA, rS_gL, rA_gS, rA_gA, rA_gL, rL_gS, rL_gA, rL_gL, and_self, and_false, false_and, if_true, if_false, true_or, or_true, or_false, false_or, sm_in, eqI, sI_s, Int32.toInt_zero, Int.natCast_zero, Int.natCast_one, Int.cast_ofNat_Int, Int.reduceEq, Int.reduceLT, Int.reduceLE, Int.reduceNeg, Int.reduceNe, ne_eq, n_up, g_up, e_cat, fr_A, fr_O, fr_P, fr_L, hS0, c1]
  repeat' (with_reducible refine And.intro ?_ ?_)
  all_goals (first | omega | skip)
  refine ⟨_, co_ask _ g hg, fun v u hv => ?_⟩
  obtain ⟨x, rfl, hm⟩ := hv
  show J 1094 [some (.ref 1000), some (.ref 0), some (.ref 53), some (.ref 85), some (.int (nI i)), a, b] [.int x] u
  apply hR 6
  simp (maxSteps := 10000000) (disch := omega) only [hS, hn, sm_eqs, hf, ha, sm_b0, Int.reduceToNat, ↓reduceIte, Nat.reduceEqDiff, true_and, and_true, List.length_nil, List.length_cons, Nat.reduceAdd, Nat.reduceLeDiff, Nat.zero_le, false_implies, true_implies, not_true_eq_false, not_false_eq_true, implies_true, Nat.reduceSub, Nat.reduceMul, reduceCtorEq, tn_clamp, nI_t, tn_nI, nI_add, pk_mul, rS_gS, rS_gA, rS_gL, rA_gS, rA_gA, rA_gL, rL_gS, rL_gA, rL_gL, and_self, and_false, false_and, if_true, if_false, true_or, or_true, or_false, false_or, sm_in, eqI, sI_s, Int32.toInt_zero, Int.natCast_zero, Int.natCast_one, Int.cast_ofNat_Int, Int.reduceEq, Int.reduceLT, Int.reduceLE, Int.reduceNeg, Int.reduceNe, ne_eq, n_up, g_up, e_cat, fr_A, fr_O, fr_P, fr_L, hS0, c2]
  repeat' (with_reducible refine And.intro ?_ ?_)
  all_goals (first | omega | skip)
  refine ⟨_, hm, fun v u2 hv => ?_⟩
  obtain ⟨rfl, hc⟩ := hv
  show J 1104 [some (.ref 1000), some (.ref 0), some (.ref 53), some (.ref 85), some (.int (nI i)), a, b] [.int x, .int x] u2
  apply hR 0
  simp (maxSteps := 10000000) (disch := omega) only [hS, hn, sm_eqs, hf, ha, sm_b0, Int.reduceToNat, ↓reduceIte, Nat.reduceEqDiff, true_and, and_true, List.length_nil, List.length_cons, Nat.reduceAdd, Nat.reduceLeDiff, Nat.zero_le, false_implies, true_implies, not_true_eq_false, not_false_eq_true, implies_true, Nat.reduceSub, Nat.reduceMul, reduceCtorEq, tn_clamp, nI_t, tn_nI, nI_add, pk_mul, rS_gS, rS_gA, rS_gL, rA_gS, rA_gA, rA_gL, rL_gS, rL_gA, rL_gL, and_self, and_false, false_and, if_true, if_false, true_or, or_true, or_false, false_or, sm_in, eqI, sI_s, Int32.toInt_zero, Int.natCast_zero, Int.natCast_one, Int.cast_ofNat_Int, Int.reduceEq, Int.reduceLT, Int.reduceLE, Int.reduceNeg, Int.reduceNe, ne_eq, n_up, g_up, e_cat, fr_A, fr_O, fr_P, fr_L, hS0]
  exact next u2 hc

set_option maxHeartbeats 4000000 in
set_option maxRecDepth 100000 in
theorem op_21 (K : Option Value → sm_G → Prop) (J : Nat → sm_Lo → List Value → sm_G → Prop) (S : Nat → Nat → sm_Lo → List Value → sm_G → Prop) (cs : Nat → sm_SP) (Ls : Nat) (xs : Nat → Int32) (hW : sm_walk lay NL_law cs (some (Ls, xs)) 1 K J S) (hS0 : ∀ pc ls st g, S 0 pc ls st g = J pc ls st g)
    (c1 : cs 140 = spM sp_X9_fewest) (c2 : cs 206 = spM (spE sp_X10_fewest)) (i : Nat) (hi : i + 5 ≤ Ls) (hL : Ls ≤ 2560) (g : sm_G) (a b : Option Value) (hg : CP g g) (next : ∀ u, CP u u → J 1580 [some (.ref 1000), some (.ref 0), some (.ref 53), some (.ref 85), some (.int (nI i)), a, b] [] u) : J 1109 [some (.ref 1000), some (.ref 0), some (.ref 53), some (.ref 85), some (.int (nI i)), a, b] [] g := by
  have hn := n_L_law
  have hf := fd_all
  have ha := ar_all
  generalize NL_law = N at hn hW
  generalize lay = L at hf ha hW
  obtain ⟨hS, hR⟩ := hW
  apply hR 6
  simp (maxSteps := 10000000) (disch := omega) only [hS, hn, sm_eqs, hf, ha, sm_b0, Int.reduceToNat, ↓reduceIte, Nat.reduceEqDiff, true_and, and_true, List.length_nil, List.length_cons, Nat.reduceAdd, Nat.reduceLeDiff, Nat.zero_le, false_implies, true_implies, not_true_eq_false, not_false_eq_true, implies_true, Nat.reduceSub, Nat.reduceMul, reduceCtorEq, tn_clamp, nI_t, tn_nI, nI_add, pk_mul, rS_gS, rS_gA, rS_gL, rA_gS, rA_gA, rA_gL, rL_gS, rL_gA, rL_gL, and_self, and_false, false_and, if_true, if_false, true_or, or_true, or_false, false_or, sm_in, eqI, sI_s, Int32.toInt_zero, Int.natCast_zero, Int.natCast_one, Int.cast_ofNat_Int, Int.reduceEq, Int.reduceLT, Int.reduceLE, Int.reduceNeg, Int.reduceNe, ne_eq, n_up, g_up, e_cat, fr_A, fr_O, fr_P, fr_L, hS0, c1]
  repeat' (with_reducible refine And.intro ?_ ?_)
  all_goals (first | omega | skip)
  refine ⟨_, co_fewest _ g hg, fun v u hv => ?_⟩
  obtain ⟨x, rfl, hm⟩ := hv
  show J 1119 [some (.ref 1000), some (.ref 0), some (.ref 53), some (.ref 85), some (.int (nI i)), a, b] [.int x] u
  apply hR 6
  simp (maxSteps := 10000000) (disch := omega) only [hS, hn, sm_eqs, hf, ha, sm_b0, Int.reduceToNat, ↓reduceIte, Nat.reduceEqDiff, true_and, and_true, List.length_nil, List.length_cons, Nat.reduceAdd, Nat.reduceLeDiff, Nat.zero_le, false_implies, true_implies, not_true_eq_false, not_false_eq_true, implies_true, Nat.reduceSub, Nat.reduceMul, reduceCtorEq, tn_clamp, nI_t, tn_nI, nI_add, pk_mul, rS_gS, rS_gA, rS_gL, rA_gS, rA_gA, rA_gL, rL_gS, rL_gA, rL_gL, and_self, and_false, false_and, if_true, if_false, true_or, or_true, or_false, false_or, sm_in, eqI, sI_s, Int32.toInt_zero, Int.natCast_zero, Int.natCast_one, Int.cast_ofNat_Int, Int.reduceEq, Int.reduceLT, Int.reduceLE, Int.reduceNeg, Int.reduceNe, ne_eq, n_up, g_up, e_cat, fr_A, fr_O, fr_P, fr_L, hS0, c2]
  repeat' (with_reducible refine And.intro ?_ ?_)
  all_goals (first | omega | skip)
  refine ⟨_, hm, fun v u2 hv => ?_⟩
  obtain ⟨rfl, hc⟩ := hv
  show J 1129 [some (.ref 1000), some (.ref 0), some (.ref 53), some (.ref 85), some (.int (nI i)), a, b] [.int x, .int x] u2
  apply hR 0
  simp (maxSteps := 10000000) (disch := omega) only [hS, hn, sm_eqs, hf, ha, sm_b0, Int.reduceToNat, ↓reduceIte, Nat.reduceEqDiff, true_and, and_true, List.length_nil, List.length_cons, Nat.reduceAdd, Nat.reduceLeDiff, Nat.zero_le, false_implies, true_implies, not_true_eq_false, not_false_eq_true, implies_true, Nat.reduceSub, Nat.reduceMul, reduceCtorEq, tn_clamp, nI_t, tn_nI, nI_add, pk_mul, rS_gS, rS_gA, rS_gL, rA_gS, rA_gA, rA_gL, rL_gS, rL_gA, rL_gL, and_self, and_false, false_and, if_true, if_false, true_or, or_true, or_false, false_or, sm_in, eqI, sI_s, Int32.toInt_zero, Int.natCast_zero, Int.natCast_one, Int.cast_ofNat_Int, Int.reduceEq, Int.reduceLT, Int.reduceLE, Int.reduceNeg, Int.reduceNe, ne_eq, n_up, g_up, e_cat, fr_A, fr_O, fr_P, fr_L, hS0]
  exact next u2 hc

set_option maxHeartbeats 4000000 in
set_option maxRecDepth 100000 in
theorem op_22 (K : Option Value → sm_G → Prop) (J : Nat → sm_Lo → List Value → sm_G → Prop) (S : Nat → Nat → sm_Lo → List Value → sm_G → Prop) (cs : Nat → sm_SP) (Ls : Nat) (xs : Nat → Int32) (hW : sm_walk lay NL_law cs (some (Ls, xs)) 1 K J S) (hS0 : ∀ pc ls st g, S 0 pc ls st g = J pc ls st g)
    (c1 : cs 141 = spM sp_X9_claim) (c2 : cs 209 = spM (spE sp_X10_claim)) (i : Nat) (hi : i + 5 ≤ Ls) (hL : Ls ≤ 2560) (g : sm_G) (a b : Option Value) (hg : CP g g) (next : ∀ u, CP u u → J 1580 [some (.ref 1000), some (.ref 0), some (.ref 53), some (.ref 85), some (.int (nI i)), a, b] [] u) : J 1134 [some (.ref 1000), some (.ref 0), some (.ref 53), some (.ref 85), some (.int (nI i)), a, b] [] g := by
  have hn := n_L_law
  have hf := fd_all
  have ha := ar_all
  generalize NL_law = N at hn hW
  generalize lay = L at hf ha hW
  obtain ⟨hS, hR⟩ := hW
  apply hR 11
  simp (maxSteps := 10000000) (disch := omega) only [hS, hn, sm_eqs, hf, ha, sm_b0, Int.reduceToNat, ↓reduceIte, Nat.reduceEqDiff, true_and, and_true, List.length_nil, List.length_cons, Nat.reduceAdd, Nat.reduceLeDiff, Nat.zero_le, false_implies, true_implies, not_true_eq_false, not_false_eq_true, implies_true, Nat.reduceSub, Nat.reduceMul, reduceCtorEq, tn_clamp, nI_t, tn_nI, nI_add, pk_mul, rS_gS, rS_gA, rS_gL, rA_gS, rA_gA, rA_gL, rL_gS, rL_gA, rL_gL, and_self, and_false, false_and, if_true, if_false, true_or, or_true, or_false, false_or, sm_in, eqI, sI_s, Int32.toInt_zero, Int.natCast_zero, Int.natCast_one, Int.cast_ofNat_Int, Int.reduceEq, Int.reduceLT, Int.reduceLE, Int.reduceNeg, Int.reduceNe, ne_eq, n_up, g_up, e_cat, fr_A, fr_O, fr_P, fr_L, hS0, c1]
  repeat' (with_reducible refine And.intro ?_ ?_)
  all_goals (first | omega | skip)
  refine ⟨_, co_claim _ _ g hg, fun v u hv => ?_⟩
  obtain ⟨x, rfl, hm⟩ := hv
  show J 1150 [some (.ref 1000), some (.ref 0), some (.ref 53), some (.ref 85), some (.int (nI i)), a, b] [.int x] u
  apply hR 11
  simp (maxSteps := 10000000) (disch := omega) only [hS, hn, sm_eqs, hf, ha, sm_b0, Int.reduceToNat, ↓reduceIte, Nat.reduceEqDiff, true_and, and_true, List.length_nil, List.length_cons, Nat.reduceAdd, Nat.reduceLeDiff, Nat.zero_le, false_implies, true_implies, not_true_eq_false, not_false_eq_true, implies_true, Nat.reduceSub, Nat.reduceMul, reduceCtorEq, tn_clamp, nI_t, tn_nI, nI_add, pk_mul, rS_gS, rS_gA, rS_gL, rA_gS, rA_gA, rA_gL, rL_gS, rL_gA, rL_gL, and_self, and_false, false_and, if_true, if_false, true_or, or_true, or_false, false_or, sm_in, eqI, sI_s, Int32.toInt_zero, Int.natCast_zero, Int.natCast_one, Int.cast_ofNat_Int, Int.reduceEq, Int.reduceLT, Int.reduceLE, Int.reduceNeg, Int.reduceNe, ne_eq, n_up, g_up, e_cat, fr_A, fr_O, fr_P, fr_L, hS0, c2]
  repeat' (with_reducible refine And.intro ?_ ?_)
  all_goals (first | omega | skip)
  refine ⟨_, hm, fun v u2 hv => ?_⟩
  obtain ⟨rfl, hc⟩ := hv
  show J 1166 [some (.ref 1000), some (.ref 0), some (.ref 53), some (.ref 85), some (.int (nI i)), a, b] [.int x, .int x] u2
  apply hR 0
  simp (maxSteps := 10000000) (disch := omega) only [hS, hn, sm_eqs, hf, ha, sm_b0, Int.reduceToNat, ↓reduceIte, Nat.reduceEqDiff, true_and, and_true, List.length_nil, List.length_cons, Nat.reduceAdd, Nat.reduceLeDiff, Nat.zero_le, false_implies, true_implies, not_true_eq_false, not_false_eq_true, implies_true, Nat.reduceSub, Nat.reduceMul, reduceCtorEq, tn_clamp, nI_t, tn_nI, nI_add, pk_mul, rS_gS, rS_gA, rS_gL, rA_gS, rA_gA, rA_gL, rL_gS, rL_gA, rL_gL, and_self, and_false, false_and, if_true, if_false, true_or, or_true, or_false, false_or, sm_in, eqI, sI_s, Int32.toInt_zero, Int.natCast_zero, Int.natCast_one, Int.cast_ofNat_Int, Int.reduceEq, Int.reduceLT, Int.reduceLE, Int.reduceNeg, Int.reduceNe, ne_eq, n_up, g_up, e_cat, fr_A, fr_O, fr_P, fr_L, hS0]
  exact next u2 hc

set_option maxHeartbeats 4000000 in
set_option maxRecDepth 100000 in
theorem op_23 (K : Option Value → sm_G → Prop) (J : Nat → sm_Lo → List Value → sm_G → Prop) (S : Nat → Nat → sm_Lo → List Value → sm_G → Prop) (cs : Nat → sm_SP) (Ls : Nat) (xs : Nat → Int32) (hW : sm_walk lay NL_law cs (some (Ls, xs)) 1 K J S) (hS0 : ∀ pc ls st g, S 0 pc ls st g = J pc ls st g)
    (c1 : cs 142 = spM sp_X9_prove) (c2 : cs 210 = spM (spE sp_X10_prove)) (i : Nat) (hi : i + 5 ≤ Ls) (hL : Ls ≤ 2560) (g : sm_G) (a b : Option Value) (hg : CP g g) (next : ∀ u, CP u u → J 1580 [some (.ref 1000), some (.ref 0), some (.ref 53), some (.ref 85), some (.int (nI i)), a, b] [] u) : J 1171 [some (.ref 1000), some (.ref 0), some (.ref 53), some (.ref 85), some (.int (nI i)), a, b] [] g := by
  have hn := n_L_law
  have hf := fd_all
  have ha := ar_all
  generalize NL_law = N at hn hW
  generalize lay = L at hf ha hW
  obtain ⟨hS, hR⟩ := hW
  apply hR 16
  simp (maxSteps := 10000000) (disch := omega) only [hS, hn, sm_eqs, hf, ha, sm_b0, Int.reduceToNat, ↓reduceIte, Nat.reduceEqDiff, true_and, and_true, List.length_nil, List.length_cons, Nat.reduceAdd, Nat.reduceLeDiff, Nat.zero_le, false_implies, true_implies, not_true_eq_false, not_false_eq_true, implies_true, Nat.reduceSub, Nat.reduceMul, reduceCtorEq, tn_clamp, nI_t, tn_nI, nI_add, pk_mul, rS_gS, rS_gA, rS_gL, rA_gS, rA_gA, rA_gL, rL_gS, rL_gA, rL_gL, and_self, and_false, false_and, if_true, if_false, true_or, or_true, or_false, false_or, sm_in, eqI, sI_s, Int32.toInt_zero, Int.natCast_zero, Int.natCast_one, Int.cast_ofNat_Int, Int.reduceEq, Int.reduceLT, Int.reduceLE, Int.reduceNeg, Int.reduceNe, ne_eq, n_up, g_up, e_cat, fr_A, fr_O, fr_P, fr_L, hS0, c1]
  repeat' (with_reducible refine And.intro ?_ ?_)
  all_goals (first | omega | skip)
  refine ⟨_, co_prove _ _ _ g hg, fun v u hv => ?_⟩
  obtain ⟨x, rfl, hm⟩ := hv
  show J 1193 [some (.ref 1000), some (.ref 0), some (.ref 53), some (.ref 85), some (.int (nI i)), a, b] [.int x] u
  apply hR 16
  simp (maxSteps := 10000000) (disch := omega) only [hS, hn, sm_eqs, hf, ha, sm_b0, Int.reduceToNat, ↓reduceIte, Nat.reduceEqDiff, true_and, and_true, List.length_nil, List.length_cons, Nat.reduceAdd, Nat.reduceLeDiff, Nat.zero_le, false_implies, true_implies, not_true_eq_false, not_false_eq_true, implies_true, Nat.reduceSub, Nat.reduceMul, reduceCtorEq, tn_clamp, nI_t, tn_nI, nI_add, pk_mul, rS_gS, rS_gA, rS_gL, rA_gS, rA_gA, rA_gL, rL_gS, rL_gA, rL_gL, and_self, and_false, false_and, if_true, if_false, true_or, or_true, or_false, false_or, sm_in, eqI, sI_s, Int32.toInt_zero, Int.natCast_zero, Int.natCast_one, Int.cast_ofNat_Int, Int.reduceEq, Int.reduceLT, Int.reduceLE, Int.reduceNeg, Int.reduceNe, ne_eq, n_up, g_up, e_cat, fr_A, fr_O, fr_P, fr_L, hS0, c2]
  repeat' (with_reducible refine And.intro ?_ ?_)
  all_goals (first | omega | skip)
  refine ⟨_, hm, fun v u2 hv => ?_⟩
  obtain ⟨rfl, hc⟩ := hv
  show J 1215 [some (.ref 1000), some (.ref 0), some (.ref 53), some (.ref 85), some (.int (nI i)), a, b] [.int x, .int x] u2
  apply hR 0
  simp (maxSteps := 10000000) (disch := omega) only [hS, hn, sm_eqs, hf, ha, sm_b0, Int.reduceToNat, ↓reduceIte, Nat.reduceEqDiff, true_and, and_true, List.length_nil, List.length_cons, Nat.reduceAdd, Nat.reduceLeDiff, Nat.zero_le, false_implies, true_implies, not_true_eq_false, not_false_eq_true, implies_true, Nat.reduceSub, Nat.reduceMul, reduceCtorEq, tn_clamp, nI_t, tn_nI, nI_add, pk_mul, rS_gS, rS_gA, rS_gL, rA_gS, rA_gA, rA_gL, rL_gS, rL_gA, rL_gL, and_self, and_false, false_and, if_true, if_false, true_or, or_true, or_false, false_or, sm_in, eqI, sI_s, Int32.toInt_zero, Int.natCast_zero, Int.natCast_one, Int.cast_ofNat_Int, Int.reduceEq, Int.reduceLT, Int.reduceLE, Int.reduceNeg, Int.reduceNe, ne_eq, n_up, g_up, e_cat, fr_A, fr_O, fr_P, fr_L, hS0]
  exact next u2 hc

set_option maxHeartbeats 4000000 in
set_option maxRecDepth 100000 in
theorem op_24 (K : Option Value → sm_G → Prop) (J : Nat → sm_Lo → List Value → sm_G → Prop) (S : Nat → Nat → sm_Lo → List Value → sm_G → Prop) (cs : Nat → sm_SP) (Ls : Nat) (xs : Nat → Int32) (hW : sm_walk lay NL_law cs (some (Ls, xs)) 1 K J S) (hS0 : ∀ pc ls st g, S 0 pc ls st g = J pc ls st g)
    (c1 : cs 143 = spM sp_X9_give) (c2 : cs 213 = spM (spE sp_X10_give)) (i : Nat) (hi : i + 5 ≤ Ls) (hL : Ls ≤ 2560) (g : sm_G) (a b : Option Value) (hg : CP g g) (next : ∀ u, CP u u → J 1580 [some (.ref 1000), some (.ref 0), some (.ref 53), some (.ref 85), some (.int (nI i)), a, b] [] u) : J 1220 [some (.ref 1000), some (.ref 0), some (.ref 53), some (.ref 85), some (.int (nI i)), a, b] [] g := by
  have hn := n_L_law
  have hf := fd_all
  have ha := ar_all
  generalize NL_law = N at hn hW
  generalize lay = L at hf ha hW
  obtain ⟨hS, hR⟩ := hW
  apply hR 6
  simp (maxSteps := 10000000) (disch := omega) only [hS, hn, sm_eqs, hf, ha, sm_b0, Int.reduceToNat, ↓reduceIte, Nat.reduceEqDiff, true_and, and_true, List.length_nil, List.length_cons, Nat.reduceAdd, Nat.reduceLeDiff, Nat.zero_le, false_implies, true_implies, not_true_eq_false, not_false_eq_true, implies_true, Nat.reduceSub, Nat.reduceMul, reduceCtorEq, tn_clamp, nI_t, tn_nI, nI_add, pk_mul, rS_gS, rS_gA, rS_gL, rA_gS, rA_gA, rA_gL, rL_gS, rL_gA, rL_gL, and_self, and_false, false_and, if_true, if_false, true_or, or_true, or_false, false_or, sm_in, eqI, sI_s, Int32.toInt_zero, Int.natCast_zero, Int.natCast_one, Int.cast_ofNat_Int, Int.reduceEq, Int.reduceLT, Int.reduceLE, Int.reduceNeg, Int.reduceNe, ne_eq, n_up, g_up, e_cat, fr_A, fr_O, fr_P, fr_L, hS0, c1]
  repeat' (with_reducible refine And.intro ?_ ?_)
  all_goals (first | omega | skip)
  refine ⟨_, co_give _ g hg, fun v u hv => ?_⟩
  obtain ⟨x, rfl, hm⟩ := hv
  show J 1230 [some (.ref 1000), some (.ref 0), some (.ref 53), some (.ref 85), some (.int (nI i)), a, b] [.int x] u
  apply hR 6
  simp (maxSteps := 10000000) (disch := omega) only [hS, hn, sm_eqs, hf, ha, sm_b0, Int.reduceToNat, ↓reduceIte, Nat.reduceEqDiff, true_and, and_true, List.length_nil, List.length_cons, Nat.reduceAdd, Nat.reduceLeDiff, Nat.zero_le, false_implies, true_implies, not_true_eq_false, not_false_eq_true, implies_true, Nat.reduceSub, Nat.reduceMul, reduceCtorEq, tn_clamp, nI_t, tn_nI, nI_add, pk_mul, rS_gS, rS_gA, rS_gL, rA_gS, rA_gA, rA_gL, rL_gS, rL_gA, rL_gL, and_self, and_false, false_and, if_true, if_false, true_or, or_true, or_false, false_or, sm_in, eqI, sI_s, Int32.toInt_zero, Int.natCast_zero, Int.natCast_one, Int.cast_ofNat_Int, Int.reduceEq, Int.reduceLT, Int.reduceLE, Int.reduceNeg, Int.reduceNe, ne_eq, n_up, g_up, e_cat, fr_A, fr_O, fr_P, fr_L, hS0, c2]
  repeat' (with_reducible refine And.intro ?_ ?_)
  all_goals (first | omega | skip)
  refine ⟨_, hm, fun v u2 hv => ?_⟩
  obtain ⟨rfl, hc⟩ := hv
  show J 1240 [some (.ref 1000), some (.ref 0), some (.ref 53), some (.ref 85), some (.int (nI i)), a, b] [.int x, .int x] u2
  apply hR 0
  simp (maxSteps := 10000000) (disch := omega) only [hS, hn, sm_eqs, hf, ha, sm_b0, Int.reduceToNat, ↓reduceIte, Nat.reduceEqDiff, true_and, and_true, List.length_nil, List.length_cons, Nat.reduceAdd, Nat.reduceLeDiff, Nat.zero_le, false_implies, true_implies, not_true_eq_false, not_false_eq_true, implies_true, Nat.reduceSub, Nat.reduceMul, reduceCtorEq, tn_clamp, nI_t, tn_nI, nI_add, pk_mul, rS_gS, rS_gA, rS_gL, rA_gS, rA_gA, rA_gL, rL_gS, rL_gA, rL_gL, and_self, and_false, false_and, if_true, if_false, true_or, or_true, or_false, false_or, sm_in, eqI, sI_s, Int32.toInt_zero, Int.natCast_zero, Int.natCast_one, Int.cast_ofNat_Int, Int.reduceEq, Int.reduceLT, Int.reduceLE, Int.reduceNeg, Int.reduceNe, ne_eq, n_up, g_up, e_cat, fr_A, fr_O, fr_P, fr_L, hS0]
  exact next u2 hc

set_option maxHeartbeats 4000000 in
set_option maxRecDepth 100000 in
theorem op_25 (K : Option Value → sm_G → Prop) (J : Nat → sm_Lo → List Value → sm_G → Prop) (S : Nat → Nat → sm_Lo → List Value → sm_G → Prop) (cs : Nat → sm_SP) (Ls : Nat) (xs : Nat → Int32) (hW : sm_walk lay NL_law cs (some (Ls, xs)) 1 K J S) (hS0 : ∀ pc ls st g, S 0 pc ls st g = J pc ls st g)
    (c1 : cs 144 = spM sp_X9_withdraw) (c2 : cs 214 = spM (spE sp_X10_withdraw)) (i : Nat) (hi : i + 5 ≤ Ls) (hL : Ls ≤ 2560) (g : sm_G) (a b : Option Value) (hg : CP g g) (next : ∀ u, CP u u → J 1580 [some (.ref 1000), some (.ref 0), some (.ref 53), some (.ref 85), some (.int (nI i)), a, b] [] u) : J 1245 [some (.ref 1000), some (.ref 0), some (.ref 53), some (.ref 85), some (.int (nI i)), a, b] [] g := by
  have hn := n_L_law
  have hf := fd_all
  have ha := ar_all
  generalize NL_law = N at hn hW
  generalize lay = L at hf ha hW
  obtain ⟨hS, hR⟩ := hW
  apply hR 6
  simp (maxSteps := 10000000) (disch := omega) only [hS, hn, sm_eqs, hf, ha, sm_b0, Int.reduceToNat, ↓reduceIte, Nat.reduceEqDiff, true_and, and_true, List.length_nil, List.length_cons, Nat.reduceAdd, Nat.reduceLeDiff, Nat.zero_le, false_implies, true_implies, not_true_eq_false, not_false_eq_true, implies_true, Nat.reduceSub, Nat.reduceMul, reduceCtorEq, tn_clamp, nI_t, tn_nI, nI_add, pk_mul, rS_gS, rS_gA, rS_gL, rA_gS, rA_gA, rA_gL, rL_gS, rL_gA, rL_gL, and_self, and_false, false_and, if_true, if_false, true_or, or_true, or_false, false_or, sm_in, eqI, sI_s, Int32.toInt_zero, Int.natCast_zero, Int.natCast_one, Int.cast_ofNat_Int, Int.reduceEq, Int.reduceLT, Int.reduceLE, Int.reduceNeg, Int.reduceNe, ne_eq, n_up, g_up, e_cat, fr_A, fr_O, fr_P, fr_L, hS0, c1]
  repeat' (with_reducible refine And.intro ?_ ?_)
  all_goals (first | omega | skip)
  refine ⟨_, co_withdraw _ g hg, fun v u hv => ?_⟩
  obtain ⟨x, rfl, hm⟩ := hv
  show J 1255 [some (.ref 1000), some (.ref 0), some (.ref 53), some (.ref 85), some (.int (nI i)), a, b] [.int x] u
  apply hR 6
  simp (maxSteps := 10000000) (disch := omega) only [hS, hn, sm_eqs, hf, ha, sm_b0, Int.reduceToNat, ↓reduceIte, Nat.reduceEqDiff, true_and, and_true, List.length_nil, List.length_cons, Nat.reduceAdd, Nat.reduceLeDiff, Nat.zero_le, false_implies, true_implies, not_true_eq_false, not_false_eq_true, implies_true, Nat.reduceSub, Nat.reduceMul, reduceCtorEq, tn_clamp, nI_t, tn_nI, nI_add, pk_mul, rS_gS, rS_gA, rS_gL, rA_gS, rA_gA, rA_gL, rL_gS, rL_gA, rL_gL, and_self, and_false, false_and, if_true, if_false, true_or, or_true, or_false, false_or, sm_in, eqI, sI_s, Int32.toInt_zero, Int.natCast_zero, Int.natCast_one, Int.cast_ofNat_Int, Int.reduceEq, Int.reduceLT, Int.reduceLE, Int.reduceNeg, Int.reduceNe, ne_eq, n_up, g_up, e_cat, fr_A, fr_O, fr_P, fr_L, hS0, c2]
  repeat' (with_reducible refine And.intro ?_ ?_)
  all_goals (first | omega | skip)
  refine ⟨_, hm, fun v u2 hv => ?_⟩
  obtain ⟨rfl, hc⟩ := hv
  show J 1265 [some (.ref 1000), some (.ref 0), some (.ref 53), some (.ref 85), some (.int (nI i)), a, b] [.int x, .int x] u2
  apply hR 0
  simp (maxSteps := 10000000) (disch := omega) only [hS, hn, sm_eqs, hf, ha, sm_b0, Int.reduceToNat, ↓reduceIte, Nat.reduceEqDiff, true_and, and_true, List.length_nil, List.length_cons, Nat.reduceAdd, Nat.reduceLeDiff, Nat.zero_le, false_implies, true_implies, not_true_eq_false, not_false_eq_true, implies_true, Nat.reduceSub, Nat.reduceMul, reduceCtorEq, tn_clamp, nI_t, tn_nI, nI_add, pk_mul, rS_gS, rS_gA, rS_gL, rA_gS, rA_gA, rA_gL, rL_gS, rL_gA, rL_gL, and_self, and_false, false_and, if_true, if_false, true_or, or_true, or_false, false_or, sm_in, eqI, sI_s, Int32.toInt_zero, Int.natCast_zero, Int.natCast_one, Int.cast_ofNat_Int, Int.reduceEq, Int.reduceLT, Int.reduceLE, Int.reduceNeg, Int.reduceNe, ne_eq, n_up, g_up, e_cat, fr_A, fr_O, fr_P, fr_L, hS0]
  exact next u2 hc

set_option maxHeartbeats 4000000 in
set_option maxRecDepth 100000 in
theorem op_26 (K : Option Value → sm_G → Prop) (J : Nat → sm_Lo → List Value → sm_G → Prop) (S : Nat → Nat → sm_Lo → List Value → sm_G → Prop) (cs : Nat → sm_SP) (Ls : Nat) (xs : Nat → Int32) (hW : sm_walk lay NL_law cs (some (Ls, xs)) 1 K J S) (hS0 : ∀ pc ls st g, S 0 pc ls st g = J pc ls st g)
    (c1 : cs 145 = spM sp_X9_close) (c2 : cs 215 = spM (spE sp_X10_close)) (i : Nat) (hi : i + 5 ≤ Ls) (hL : Ls ≤ 2560) (g : sm_G) (a b : Option Value) (hg : CP g g) (next : ∀ u, CP u u → J 1580 [some (.ref 1000), some (.ref 0), some (.ref 53), some (.ref 85), some (.int (nI i)), a, b] [] u) : J 1270 [some (.ref 1000), some (.ref 0), some (.ref 53), some (.ref 85), some (.int (nI i)), a, b] [] g := by
  have hn := n_L_law
  have hf := fd_all
  have ha := ar_all
  generalize NL_law = N at hn hW
  generalize lay = L at hf ha hW
  obtain ⟨hS, hR⟩ := hW
  apply hR 6
  simp (maxSteps := 10000000) (disch := omega) only [hS, hn, sm_eqs, hf, ha, sm_b0, Int.reduceToNat, ↓reduceIte, Nat.reduceEqDiff, true_and, and_true, List.length_nil, List.length_cons, Nat.reduceAdd, Nat.reduceLeDiff, Nat.zero_le, false_implies, true_implies, not_true_eq_false, not_false_eq_true, implies_true, Nat.reduceSub, Nat.reduceMul, reduceCtorEq, tn_clamp, nI_t, tn_nI, nI_add, pk_mul, rS_gS, rS_gA, rS_gL, rA_gS, rA_gA, rA_gL, rL_gS, rL_gA, rL_gL, and_self, and_false, false_and, if_true, if_false, true_or, or_true, or_false, false_or, sm_in, eqI, sI_s, Int32.toInt_zero, Int.natCast_zero, Int.natCast_one, Int.cast_ofNat_Int, Int.reduceEq, Int.reduceLT, Int.reduceLE, Int.reduceNeg, Int.reduceNe, ne_eq, n_up, g_up, e_cat, fr_A, fr_O, fr_P, fr_L, hS0, c1]
  repeat' (with_reducible refine And.intro ?_ ?_)
  all_goals (first | omega | skip)
  refine ⟨_, co_close _ g hg, fun v u hv => ?_⟩
  obtain ⟨x, rfl, hm⟩ := hv
  show J 1280 [some (.ref 1000), some (.ref 0), some (.ref 53), some (.ref 85), some (.int (nI i)), a, b] [.int x] u
  apply hR 6
  simp (maxSteps := 10000000) (disch := omega) only [hS, hn, sm_eqs, hf, ha, sm_b0, Int.reduceToNat, ↓reduceIte, Nat.reduceEqDiff, true_and, and_true, List.length_nil, List.length_cons, Nat.reduceAdd, Nat.reduceLeDiff, Nat.zero_le, false_implies, true_implies, not_true_eq_false, not_false_eq_true, implies_true, Nat.reduceSub, Nat.reduceMul, reduceCtorEq, tn_clamp, nI_t, tn_nI, nI_add, pk_mul, rS_gS, rS_gA, rS_gL, rA_gS, rA_gA, rA_gL, rL_gS, rL_gA, rL_gL, and_self, and_false, false_and, if_true, if_false, true_or, or_true, or_false, false_or, sm_in, eqI, sI_s, Int32.toInt_zero, Int.natCast_zero, Int.natCast_one, Int.cast_ofNat_Int, Int.reduceEq, Int.reduceLT, Int.reduceLE, Int.reduceNeg, Int.reduceNe, ne_eq, n_up, g_up, e_cat, fr_A, fr_O, fr_P, fr_L, hS0, c2]
  repeat' (with_reducible refine And.intro ?_ ?_)
  all_goals (first | omega | skip)
  refine ⟨_, hm, fun v u2 hv => ?_⟩
  obtain ⟨rfl, hc⟩ := hv
  show J 1290 [some (.ref 1000), some (.ref 0), some (.ref 53), some (.ref 85), some (.int (nI i)), a, b] [.int x, .int x] u2
  apply hR 0
  simp (maxSteps := 10000000) (disch := omega) only [hS, hn, sm_eqs, hf, ha, sm_b0, Int.reduceToNat, ↓reduceIte, Nat.reduceEqDiff, true_and, and_true, List.length_nil, List.length_cons, Nat.reduceAdd, Nat.reduceLeDiff, Nat.zero_le, false_implies, true_implies, not_true_eq_false, not_false_eq_true, implies_true, Nat.reduceSub, Nat.reduceMul, reduceCtorEq, tn_clamp, nI_t, tn_nI, nI_add, pk_mul, rS_gS, rS_gA, rS_gL, rA_gS, rA_gA, rA_gL, rL_gS, rL_gA, rL_gL, and_self, and_false, false_and, if_true, if_false, true_or, or_true, or_false, false_or, sm_in, eqI, sI_s, Int32.toInt_zero, Int.natCast_zero, Int.natCast_one, Int.cast_ofNat_Int, Int.reduceEq, Int.reduceLT, Int.reduceLE, Int.reduceNeg, Int.reduceNe, ne_eq, n_up, g_up, e_cat, fr_A, fr_O, fr_P, fr_L, hS0]
  exact next u2 hc

set_option maxHeartbeats 4000000 in
set_option maxRecDepth 100000 in
theorem op_28 (K : Option Value → sm_G → Prop) (J : Nat → sm_Lo → List Value → sm_G → Prop) (S : Nat → Nat → sm_Lo → List Value → sm_G → Prop) (cs : Nat → sm_SP) (Ls : Nat) (xs : Nat → Int32) (hW : sm_walk lay NL_law cs (some (Ls, xs)) 1 K J S) (hS0 : ∀ pc ls st g, S 0 pc ls st g = J pc ls st g)
    (c1 : cs 148 = spM sp_X9_into) (c2 : cs 217 = spM (spE sp_X10_into)) (i : Nat) (hi : i + 5 ≤ Ls) (hL : Ls ≤ 2560) (g : sm_G) (a b : Option Value) (hg : CP g g) (next : ∀ u, CP u u → J 1580 [some (.ref 1000), some (.ref 0), some (.ref 53), some (.ref 85), some (.int (nI i)), a, b] [] u) : J 1363 [some (.ref 1000), some (.ref 0), some (.ref 53), some (.ref 85), some (.int (nI i)), a, b] [] g := by
  have hn := n_L_law
  have hf := fd_all
  have ha := ar_all
  generalize NL_law = N at hn hW
  generalize lay = L at hf ha hW
  obtain ⟨hS, hR⟩ := hW
  apply hR 11
  simp (maxSteps := 10000000) (disch := omega) only [hS, hn, sm_eqs, hf, ha, sm_b0, Int.reduceToNat, ↓reduceIte, Nat.reduceEqDiff, true_and, and_true, List.length_nil, List.length_cons, Nat.reduceAdd, Nat.reduceLeDiff, Nat.zero_le, false_implies, true_implies, not_true_eq_false, not_false_eq_true, implies_true, Nat.reduceSub, Nat.reduceMul, reduceCtorEq, tn_clamp, nI_t, tn_nI, nI_add, pk_mul, rS_gS, rS_gA, rS_gL, rA_gS, rA_gA, rA_gL, rL_gS, rL_gA, rL_gL, and_self, and_false, false_and, if_true, if_false, true_or, or_true, or_false, false_or, sm_in, eqI, sI_s, Int32.toInt_zero, Int.natCast_zero, Int.natCast_one, Int.cast_ofNat_Int, Int.reduceEq, Int.reduceLT, Int.reduceLE, Int.reduceNeg, Int.reduceNe, ne_eq, n_up, g_up, e_cat, fr_A, fr_O, fr_P, fr_L, hS0, c1]
  repeat' (with_reducible refine And.intro ?_ ?_)
  all_goals (first | omega | skip)
  refine ⟨_, co_into _ _ g hg, fun v u hv => ?_⟩
  obtain ⟨x, rfl, hm⟩ := hv
  show J 1379 [some (.ref 1000), some (.ref 0), some (.ref 53), some (.ref 85), some (.int (nI i)), a, b] [.int x] u
  apply hR 11
  simp (maxSteps := 10000000) (disch := omega) only [hS, hn, sm_eqs, hf, ha, sm_b0, Int.reduceToNat, ↓reduceIte, Nat.reduceEqDiff, true_and, and_true, List.length_nil, List.length_cons, Nat.reduceAdd, Nat.reduceLeDiff, Nat.zero_le, false_implies, true_implies, not_true_eq_false, not_false_eq_true, implies_true, Nat.reduceSub, Nat.reduceMul, reduceCtorEq, tn_clamp, nI_t, tn_nI, nI_add, pk_mul, rS_gS, rS_gA, rS_gL, rA_gS, rA_gA, rA_gL, rL_gS, rL_gA, rL_gL, and_self, and_false, false_and, if_true, if_false, true_or, or_true, or_false, false_or, sm_in, eqI, sI_s, Int32.toInt_zero, Int.natCast_zero, Int.natCast_one, Int.cast_ofNat_Int, Int.reduceEq, Int.reduceLT, Int.reduceLE, Int.reduceNeg, Int.reduceNe, ne_eq, n_up, g_up, e_cat, fr_A, fr_O, fr_P, fr_L, hS0, c2]
  repeat' (with_reducible refine And.intro ?_ ?_)
  all_goals (first | omega | skip)
  refine ⟨_, hm, fun v u2 hv => ?_⟩
  obtain ⟨rfl, hc⟩ := hv
  show J 1395 [some (.ref 1000), some (.ref 0), some (.ref 53), some (.ref 85), some (.int (nI i)), a, b] [.int x, .int x] u2
  apply hR 0
  simp (maxSteps := 10000000) (disch := omega) only [hS, hn, sm_eqs, hf, ha, sm_b0, Int.reduceToNat, ↓reduceIte, Nat.reduceEqDiff, true_and, and_true, List.length_nil, List.length_cons, Nat.reduceAdd, Nat.reduceLeDiff, Nat.zero_le, false_implies, true_implies, not_true_eq_false, not_false_eq_true, implies_true, Nat.reduceSub, Nat.reduceMul, reduceCtorEq, tn_clamp, nI_t, tn_nI, nI_add, pk_mul, rS_gS, rS_gA, rS_gL, rA_gS, rA_gA, rA_gL, rL_gS, rL_gA, rL_gL, and_self, and_false, false_and, if_true, if_false, true_or, or_true, or_false, false_or, sm_in, eqI, sI_s, Int32.toInt_zero, Int.natCast_zero, Int.natCast_one, Int.cast_ofNat_Int, Int.reduceEq, Int.reduceLT, Int.reduceLE, Int.reduceNeg, Int.reduceNe, ne_eq, n_up, g_up, e_cat, fr_A, fr_O, fr_P, fr_L, hS0]
  exact next u2 hc

set_option maxHeartbeats 4000000 in
set_option maxRecDepth 100000 in
theorem op_30 (K : Option Value → sm_G → Prop) (J : Nat → sm_Lo → List Value → sm_G → Prop) (S : Nat → Nat → sm_Lo → List Value → sm_G → Prop) (cs : Nat → sm_SP) (Ls : Nat) (xs : Nat → Int32) (hW : sm_walk lay NL_law cs (some (Ls, xs)) 1 K J S) (hS0 : ∀ pc ls st g, S 0 pc ls st g = J pc ls st g)
    (c1 : cs 150 = spM sp_X9_days) (c2 : cs 220 = spM (spE sp_X10_days)) (i : Nat) (hi : i + 5 ≤ Ls) (hL : Ls ≤ 2560) (g : sm_G) (a b : Option Value) (hg : CP g g) (next : ∀ u, CP u u → J 1580 [some (.ref 1000), some (.ref 0), some (.ref 53), some (.ref 85), some (.int (nI i)), a, b] [] u) : J 1468 [some (.ref 1000), some (.ref 0), some (.ref 53), some (.ref 85), some (.int (nI i)), a, b] [] g := by
  have hn := n_L_law
  have hf := fd_all
  have ha := ar_all
  generalize NL_law = N at hn hW
  generalize lay = L at hf ha hW
  obtain ⟨hS, hR⟩ := hW
  apply hR 11
  simp (maxSteps := 10000000) (disch := omega) only [hS, hn, sm_eqs, hf, ha, sm_b0, Int.reduceToNat, ↓reduceIte, Nat.reduceEqDiff, true_and, and_true, List.length_nil, List.length_cons, Nat.reduceAdd, Nat.reduceLeDiff, Nat.zero_le, false_implies, true_implies, not_true_eq_false, not_false_eq_true, implies_true, Nat.reduceSub, Nat.reduceMul, reduceCtorEq, tn_clamp, nI_t, tn_nI, nI_add, pk_mul, rS_gS, rS_gA, rS_gL, rA_gS, rA_gA, rA_gL, rL_gS, rL_gA, rL_gL, and_self, and_false, false_and, if_true, if_false, true_or, or_true, or_false, false_or, sm_in, eqI, sI_s, Int32.toInt_zero, Int.natCast_zero, Int.natCast_one, Int.cast_ofNat_Int, Int.reduceEq, Int.reduceLT, Int.reduceLE, Int.reduceNeg, Int.reduceNe, ne_eq, n_up, g_up, e_cat, fr_A, fr_O, fr_P, fr_L, hS0, c1]
  repeat' (with_reducible refine And.intro ?_ ?_)
  all_goals (first | omega | skip)
  refine ⟨_, co_days _ _ g hg, fun v u hv => ?_⟩
  obtain ⟨x, rfl, hm⟩ := hv
  show J 1484 [some (.ref 1000), some (.ref 0), some (.ref 53), some (.ref 85), some (.int (nI i)), a, b] [.int x] u
  apply hR 11
  simp (maxSteps := 10000000) (disch := omega) only [hS, hn, sm_eqs, hf, ha, sm_b0, Int.reduceToNat, ↓reduceIte, Nat.reduceEqDiff, true_and, and_true, List.length_nil, List.length_cons, Nat.reduceAdd, Nat.reduceLeDiff, Nat.zero_le, false_implies, true_implies, not_true_eq_false, not_false_eq_true, implies_true, Nat.reduceSub, Nat.reduceMul, reduceCtorEq, tn_clamp, nI_t, tn_nI, nI_add, pk_mul, rS_gS, rS_gA, rS_gL, rA_gS, rA_gA, rA_gL, rL_gS, rL_gA, rL_gL, and_self, and_false, false_and, if_true, if_false, true_or, or_true, or_false, false_or, sm_in, eqI, sI_s, Int32.toInt_zero, Int.natCast_zero, Int.natCast_one, Int.cast_ofNat_Int, Int.reduceEq, Int.reduceLT, Int.reduceLE, Int.reduceNeg, Int.reduceNe, ne_eq, n_up, g_up, e_cat, fr_A, fr_O, fr_P, fr_L, hS0, c2]
  repeat' (with_reducible refine And.intro ?_ ?_)
  all_goals (first | omega | skip)
  refine ⟨_, hm, fun v u2 hv => ?_⟩
  obtain ⟨rfl, hc⟩ := hv
  show J 1500 [some (.ref 1000), some (.ref 0), some (.ref 53), some (.ref 85), some (.int (nI i)), a, b] [.int x, .int x] u2
  apply hR 0
  simp (maxSteps := 10000000) (disch := omega) only [hS, hn, sm_eqs, hf, ha, sm_b0, Int.reduceToNat, ↓reduceIte, Nat.reduceEqDiff, true_and, and_true, List.length_nil, List.length_cons, Nat.reduceAdd, Nat.reduceLeDiff, Nat.zero_le, false_implies, true_implies, not_true_eq_false, not_false_eq_true, implies_true, Nat.reduceSub, Nat.reduceMul, reduceCtorEq, tn_clamp, nI_t, tn_nI, nI_add, pk_mul, rS_gS, rS_gA, rS_gL, rA_gS, rA_gA, rA_gL, rL_gS, rL_gA, rL_gL, and_self, and_false, false_and, if_true, if_false, true_or, or_true, or_false, false_or, sm_in, eqI, sI_s, Int32.toInt_zero, Int.natCast_zero, Int.natCast_one, Int.cast_ofNat_Int, Int.reduceEq, Int.reduceLT, Int.reduceLE, Int.reduceNeg, Int.reduceNe, ne_eq, n_up, g_up, e_cat, fr_A, fr_O, fr_P, fr_L, hS0]
  exact next u2 hc

set_option maxHeartbeats 4000000 in
set_option maxRecDepth 100000 in
theorem op_31 (K : Option Value → sm_G → Prop) (J : Nat → sm_Lo → List Value → sm_G → Prop) (S : Nat → Nat → sm_Lo → List Value → sm_G → Prop) (cs : Nat → sm_SP) (Ls : Nat) (xs : Nat → Int32) (hW : sm_walk lay NL_law cs (some (Ls, xs)) 1 K J S) (hS0 : ∀ pc ls st g, S 0 pc ls st g = J pc ls st g)
    (c1 : cs 151 = spM sp_X9_day) (c2 : cs 222 = spM (spE sp_X10_day)) (i : Nat) (hi : i + 5 ≤ Ls) (hL : Ls ≤ 2560) (g : sm_G) (a b : Option Value) (hg : CP g g) (next : ∀ u, CP u u → J 1580 [some (.ref 1000), some (.ref 0), some (.ref 53), some (.ref 85), some (.int (nI i)), a, b] [] u) : J 1505 [some (.ref 1000), some (.ref 0), some (.ref 53), some (.ref 85), some (.int (nI i)), a, b] [] g := by
  have hn := n_L_law
  have hf := fd_all
  have ha := ar_all
  generalize NL_law = N at hn hW
  generalize lay = L at hf ha hW
  obtain ⟨hS, hR⟩ := hW
  apply hR 6
  simp (maxSteps := 10000000) (disch := omega) only [hS, hn, sm_eqs, hf, ha, sm_b0, Int.reduceToNat, ↓reduceIte, Nat.reduceEqDiff, true_and, and_true, List.length_nil, List.length_cons, Nat.reduceAdd, Nat.reduceLeDiff, Nat.zero_le, false_implies, true_implies, not_true_eq_false, not_false_eq_true, implies_true, Nat.reduceSub, Nat.reduceMul, reduceCtorEq, tn_clamp, nI_t, tn_nI, nI_add, pk_mul, rS_gS, rS_gA, rS_gL, rA_gS, rA_gA, rA_gL, rL_gS, rL_gA, rL_gL, and_self, and_false, false_and, if_true, if_false, true_or, or_true, or_false, false_or, sm_in, eqI, sI_s, Int32.toInt_zero, Int.natCast_zero, Int.natCast_one, Int.cast_ofNat_Int, Int.reduceEq, Int.reduceLT, Int.reduceLE, Int.reduceNeg, Int.reduceNe, ne_eq, n_up, g_up, e_cat, fr_A, fr_O, fr_P, fr_L, hS0, c1]
  repeat' (with_reducible refine And.intro ?_ ?_)
  all_goals (first | omega | skip)
  refine ⟨_, co_day _ g hg, fun v u hv => ?_⟩
  obtain ⟨x, rfl, hm⟩ := hv
  show J 1515 [some (.ref 1000), some (.ref 0), some (.ref 53), some (.ref 85), some (.int (nI i)), a, b] [.int x] u
  apply hR 6
  simp (maxSteps := 10000000) (disch := omega) only [hS, hn, sm_eqs, hf, ha, sm_b0, Int.reduceToNat, ↓reduceIte, Nat.reduceEqDiff, true_and, and_true, List.length_nil, List.length_cons, Nat.reduceAdd, Nat.reduceLeDiff, Nat.zero_le, false_implies, true_implies, not_true_eq_false, not_false_eq_true, implies_true, Nat.reduceSub, Nat.reduceMul, reduceCtorEq, tn_clamp, nI_t, tn_nI, nI_add, pk_mul, rS_gS, rS_gA, rS_gL, rA_gS, rA_gA, rA_gL, rL_gS, rL_gA, rL_gL, and_self, and_false, false_and, if_true, if_false, true_or, or_true, or_false, false_or, sm_in, eqI, sI_s, Int32.toInt_zero, Int.natCast_zero, Int.natCast_one, Int.cast_ofNat_Int, Int.reduceEq, Int.reduceLT, Int.reduceLE, Int.reduceNeg, Int.reduceNe, ne_eq, n_up, g_up, e_cat, fr_A, fr_O, fr_P, fr_L, hS0, c2]
  repeat' (with_reducible refine And.intro ?_ ?_)
  all_goals (first | omega | skip)
  refine ⟨_, hm, fun v u2 hv => ?_⟩
  obtain ⟨rfl, hc⟩ := hv
  show J 1525 [some (.ref 1000), some (.ref 0), some (.ref 53), some (.ref 85), some (.int (nI i)), a, b] [.int x, .int x] u2
  apply hR 0
  simp (maxSteps := 10000000) (disch := omega) only [hS, hn, sm_eqs, hf, ha, sm_b0, Int.reduceToNat, ↓reduceIte, Nat.reduceEqDiff, true_and, and_true, List.length_nil, List.length_cons, Nat.reduceAdd, Nat.reduceLeDiff, Nat.zero_le, false_implies, true_implies, not_true_eq_false, not_false_eq_true, implies_true, Nat.reduceSub, Nat.reduceMul, reduceCtorEq, tn_clamp, nI_t, tn_nI, nI_add, pk_mul, rS_gS, rS_gA, rS_gL, rA_gS, rA_gA, rA_gL, rL_gS, rL_gA, rL_gL, and_self, and_false, false_and, if_true, if_false, true_or, or_true, or_false, false_or, sm_in, eqI, sI_s, Int32.toInt_zero, Int.natCast_zero, Int.natCast_one, Int.cast_ofNat_Int, Int.reduceEq, Int.reduceLT, Int.reduceLE, Int.reduceNeg, Int.reduceNe, ne_eq, n_up, g_up, e_cat, fr_A, fr_O, fr_P, fr_L, hS0]
  exact next u2 hc

set_option maxHeartbeats 4000000 in
set_option maxRecDepth 100000 in
theorem op_32 (K : Option Value → sm_G → Prop) (J : Nat → sm_Lo → List Value → sm_G → Prop) (S : Nat → Nat → sm_Lo → List Value → sm_G → Prop) (cs : Nat → sm_SP) (Ls : Nat) (xs : Nat → Int32) (hW : sm_walk lay NL_law cs (some (Ls, xs)) 1 K J S) (hS0 : ∀ pc ls st g, S 0 pc ls st g = J pc ls st g)
    (c1 : cs 156 = spM sp_X9_count) (c2 : cs 223 = spM (spE sp_X10_count)) (i : Nat) (hi : i + 5 ≤ Ls) (hL : Ls ≤ 2560) (g : sm_G) (a b : Option Value) (hg : CP g g) (next : ∀ u, CP u u → J 1580 [some (.ref 1000), some (.ref 0), some (.ref 53), some (.ref 85), some (.int (nI i)), a, b] [] u) : J 1530 [some (.ref 1000), some (.ref 0), some (.ref 53), some (.ref 85), some (.int (nI i)), a, b] [] g := by
  have hn := n_L_law
  have hf := fd_all
  have ha := ar_all
  generalize NL_law = N at hn hW
  generalize lay = L at hf ha hW
  obtain ⟨hS, hR⟩ := hW
  apply hR 6
  simp (maxSteps := 10000000) (disch := omega) only [hS, hn, sm_eqs, hf, ha, sm_b0, Int.reduceToNat, ↓reduceIte, Nat.reduceEqDiff, true_and, and_true, List.length_nil, List.length_cons, Nat.reduceAdd, Nat.reduceLeDiff, Nat.zero_le, false_implies, true_implies, not_true_eq_false, not_false_eq_true, implies_true, Nat.reduceSub, Nat.reduceMul, reduceCtorEq, tn_clamp, nI_t, tn_nI, nI_add, pk_mul, rS_gS, rS_gA, rS_gL, rA_gS, rA_gA, rA_gL, rL_gS, rL_gA, rL_gL, and_self, and_false, false_and, if_true, if_false, true_or, or_true, or_false, false_or, sm_in, eqI, sI_s, Int32.toInt_zero, Int.natCast_zero, Int.natCast_one, Int.cast_ofNat_Int, Int.reduceEq, Int.reduceLT, Int.reduceLE, Int.reduceNeg, Int.reduceNe, ne_eq, n_up, g_up, e_cat, fr_A, fr_O, fr_P, fr_L, hS0, c1]
  repeat' (with_reducible refine And.intro ?_ ?_)
  all_goals (first | omega | skip)
  refine ⟨_, co_count _ g hg, fun v u hv => ?_⟩
  obtain ⟨x, rfl, hm⟩ := hv
  show J 1540 [some (.ref 1000), some (.ref 0), some (.ref 53), some (.ref 85), some (.int (nI i)), a, b] [.int x] u
  apply hR 6
  simp (maxSteps := 10000000) (disch := omega) only [hS, hn, sm_eqs, hf, ha, sm_b0, Int.reduceToNat, ↓reduceIte, Nat.reduceEqDiff, true_and, and_true, List.length_nil, List.length_cons, Nat.reduceAdd, Nat.reduceLeDiff, Nat.zero_le, false_implies, true_implies, not_true_eq_false, not_false_eq_true, implies_true, Nat.reduceSub, Nat.reduceMul, reduceCtorEq, tn_clamp, nI_t, tn_nI, nI_add, pk_mul, rS_gS, rS_gA, rS_gL, rA_gS, rA_gA, rA_gL, rL_gS, rL_gA, rL_gL, and_self, and_false, false_and, if_true, if_false, true_or, or_true, or_false, false_or, sm_in, eqI, sI_s, Int32.toInt_zero, Int.natCast_zero, Int.natCast_one, Int.cast_ofNat_Int, Int.reduceEq, Int.reduceLT, Int.reduceLE, Int.reduceNeg, Int.reduceNe, ne_eq, n_up, g_up, e_cat, fr_A, fr_O, fr_P, fr_L, hS0, c2]
  repeat' (with_reducible refine And.intro ?_ ?_)
  all_goals (first | omega | skip)
  refine ⟨_, hm, fun v u2 hv => ?_⟩
  obtain ⟨rfl, hc⟩ := hv
  show J 1550 [some (.ref 1000), some (.ref 0), some (.ref 53), some (.ref 85), some (.int (nI i)), a, b] [.int x, .int x] u2
  apply hR 0
  simp (maxSteps := 10000000) (disch := omega) only [hS, hn, sm_eqs, hf, ha, sm_b0, Int.reduceToNat, ↓reduceIte, Nat.reduceEqDiff, true_and, and_true, List.length_nil, List.length_cons, Nat.reduceAdd, Nat.reduceLeDiff, Nat.zero_le, false_implies, true_implies, not_true_eq_false, not_false_eq_true, implies_true, Nat.reduceSub, Nat.reduceMul, reduceCtorEq, tn_clamp, nI_t, tn_nI, nI_add, pk_mul, rS_gS, rS_gA, rS_gL, rA_gS, rA_gA, rA_gL, rL_gS, rL_gA, rL_gL, and_self, and_false, false_and, if_true, if_false, true_or, or_true, or_false, false_or, sm_in, eqI, sI_s, Int32.toInt_zero, Int.natCast_zero, Int.natCast_one, Int.cast_ofNat_Int, Int.reduceEq, Int.reduceLT, Int.reduceLE, Int.reduceNeg, Int.reduceNe, ne_eq, n_up, g_up, e_cat, fr_A, fr_O, fr_P, fr_L, hS0]
  exact next u2 hc

set_option maxHeartbeats 4000000 in
set_option maxRecDepth 100000 in
theorem op_33 (K : Option Value → sm_G → Prop) (J : Nat → sm_Lo → List Value → sm_G → Prop) (S : Nat → Nat → sm_Lo → List Value → sm_G → Prop) (cs : Nat → sm_SP) (Ls : Nat) (xs : Nat → Int32) (hW : sm_walk lay NL_law cs (some (Ls, xs)) 1 K J S) (hS0 : ∀ pc ls st g, S 0 pc ls st g = J pc ls st g)
    (c1 : cs 157 = spM sp_X9_gone) (c2 : cs 224 = spM (spE sp_X10_gone)) (i : Nat) (hi : i + 5 ≤ Ls) (hL : Ls ≤ 2560) (g : sm_G) (a b : Option Value) (hg : CP g g) (next : ∀ u, CP u u → J 1580 [some (.ref 1000), some (.ref 0), some (.ref 53), some (.ref 85), some (.int (nI i)), a, b] [] u) : J 1555 [some (.ref 1000), some (.ref 0), some (.ref 53), some (.ref 85), some (.int (nI i)), a, b] [] g := by
  have hn := n_L_law
  have hf := fd_all
  have ha := ar_all
  generalize NL_law = N at hn hW
  generalize lay = L at hf ha hW
  obtain ⟨hS, hR⟩ := hW
  apply hR 6
  simp (maxSteps := 10000000) (disch := omega) only [hS, hn, sm_eqs, hf, ha, sm_b0, Int.reduceToNat, ↓reduceIte, Nat.reduceEqDiff, true_and, and_true, List.length_nil, List.length_cons, Nat.reduceAdd, Nat.reduceLeDiff, Nat.zero_le, false_implies, true_implies, not_true_eq_false, not_false_eq_true, implies_true, Nat.reduceSub, Nat.reduceMul, reduceCtorEq, tn_clamp, nI_t, tn_nI, nI_add, pk_mul, rS_gS, rS_gA, rS_gL, rA_gS, rA_gA, rA_gL, rL_gS, rL_gA, rL_gL, and_self, and_false, false_and, if_true, if_false, true_or, or_true, or_false, false_or, sm_in, eqI, sI_s, Int32.toInt_zero, Int.natCast_zero, Int.natCast_one, Int.cast_ofNat_Int, Int.reduceEq, Int.reduceLT, Int.reduceLE, Int.reduceNeg, Int.reduceNe, ne_eq, n_up, g_up, e_cat, fr_A, fr_O, fr_P, fr_L, hS0, c1]
  repeat' (with_reducible refine And.intro ?_ ?_)
  all_goals (first | omega | skip)
  refine ⟨_, co_gone _ g hg, fun v u hv => ?_⟩
  obtain ⟨x, rfl, hm⟩ := hv
  show J 1565 [some (.ref 1000), some (.ref 0), some (.ref 53), some (.ref 85), some (.int (nI i)), a, b] [.int x] u
  apply hR 6
  simp (maxSteps := 10000000) (disch := omega) only [hS, hn, sm_eqs, hf, ha, sm_b0, Int.reduceToNat, ↓reduceIte, Nat.reduceEqDiff, true_and, and_true, List.length_nil, List.length_cons, Nat.reduceAdd, Nat.reduceLeDiff, Nat.zero_le, false_implies, true_implies, not_true_eq_false, not_false_eq_true, implies_true, Nat.reduceSub, Nat.reduceMul, reduceCtorEq, tn_clamp, nI_t, tn_nI, nI_add, pk_mul, rS_gS, rS_gA, rS_gL, rA_gS, rA_gA, rA_gL, rL_gS, rL_gA, rL_gL, and_self, and_false, false_and, if_true, if_false, true_or, or_true, or_false, false_or, sm_in, eqI, sI_s, Int32.toInt_zero, Int.natCast_zero, Int.natCast_one, Int.cast_ofNat_Int, Int.reduceEq, Int.reduceLT, Int.reduceLE, Int.reduceNeg, Int.reduceNe, ne_eq, n_up, g_up, e_cat, fr_A, fr_O, fr_P, fr_L, hS0, c2]
  repeat' (with_reducible refine And.intro ?_ ?_)
  all_goals (first | omega | skip)
  refine ⟨_, hm, fun v u2 hv => ?_⟩
  obtain ⟨rfl, hc⟩ := hv
  show J 1575 [some (.ref 1000), some (.ref 0), some (.ref 53), some (.ref 85), some (.int (nI i)), a, b] [.int x, .int x] u2
  apply hR 0
  simp (maxSteps := 10000000) (disch := omega) only [hS, hn, sm_eqs, hf, ha, sm_b0, Int.reduceToNat, ↓reduceIte, Nat.reduceEqDiff, true_and, and_true, List.length_nil, List.length_cons, Nat.reduceAdd, Nat.reduceLeDiff, Nat.zero_le, false_implies, true_implies, not_true_eq_false, not_false_eq_true, implies_true, Nat.reduceSub, Nat.reduceMul, reduceCtorEq, tn_clamp, nI_t, tn_nI, nI_add, pk_mul, rS_gS, rS_gA, rS_gL, rA_gS, rA_gA, rA_gL, rL_gS, rL_gA, rL_gL, and_self, and_false, false_and, if_true, if_false, true_or, or_true, or_false, false_or, sm_in, eqI, sI_s, Int32.toInt_zero, Int.natCast_zero, Int.natCast_one, Int.cast_ofNat_Int, Int.reduceEq, Int.reduceLT, Int.reduceLE, Int.reduceNeg, Int.reduceNe, ne_eq, n_up, g_up, e_cat, fr_A, fr_O, fr_P, fr_L, hS0]
  exact next u2 hc

