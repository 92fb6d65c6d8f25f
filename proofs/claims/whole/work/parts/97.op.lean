/-! The law's cases. -/
/-- a spec read loosely: what holds of less -/
def spM (sp : sm_SP) : sm_SP := fun as g K => ∃ K0, sp as g K0 ∧ ∀ v u, K0 v u → K v u
theorem nl_0 : (NL_law 188 = some (.aload 1, 189, false) ∧ NL_law 189 = some (.aload 0, 190, false) ∧ NL_law 190 = some (.iload 4, 192, false) ∧ NL_law 192 = some (.ret 1, 193, false) ∧ NL_law 193 = some (.iadd, 194, false)) ∧ (NL_law 194 = some (.iaload, 195, false) ∧ NL_law 195 = some (.aload 0, 196, false) ∧ NL_law 196 = some (.iload 4, 198, false) ∧ NL_law 198 = some (.ret 2, 199, false) ∧ NL_law 199 = some (.iadd, 200, false)) ∧ (NL_law 200 = some (.iaload, 201, false) ∧ NL_law 201 = some (.aload 0, 202, false) ∧ NL_law 202 = some (.iload 4, 204, false) ∧ NL_law 204 = some (.ret 3, 205, false) ∧ NL_law 205 = some (.iadd, 206, false)) ∧ (NL_law 206 = some (.iaload, 207, false) ∧ NL_law 207 = some (.invokeinterface 115 4, 210, false) ∧ NL_law 210 = some (.aload 2, 211, false) ∧ NL_law 211 = some (.aload 0, 212, false) ∧ NL_law 212 = some (.iload 4, 214, false)) ∧ (NL_law 214 = some (.ret 1, 215, false) ∧ NL_law 215 = some (.iadd, 216, false) ∧ NL_law 216 = some (.iaload, 217, false) ∧ NL_law 217 = some (.aload 0, 218, false) ∧ NL_law 218 = some (.iload 4, 220, false)) ∧ (NL_law 220 = some (.ret 2, 221, false) ∧ NL_law 221 = some (.iadd, 222, false) ∧ NL_law 222 = some (.iaload, 223, false) ∧ NL_law 223 = some (.aload 0, 224, false) ∧ NL_law 224 = some (.iload 4, 226, false)) ∧ (NL_law 226 = some (.ret 3, 227, false) ∧ NL_law 227 = some (.iadd, 228, false) ∧ NL_law 228 = some (.iaload, 229, false) ∧ NL_law 229 = some (.invokeinterface 162 4, 232, false) ∧ NL_law 232 = some (.if_icmp .eq 1580, 235, false)) ∧ (NL_law 235 = some (.ret 0, 236, false) ∧ NL_law 236 = some (.ireturn, 237, false)) := ⟨by decide +kernel, by decide +kernel, by decide +kernel, by decide +kernel, by decide +kernel, by decide +kernel, by decide +kernel, by decide +kernel⟩
set_option maxHeartbeats 4000000 in
set_option maxRecDepth 100000 in
theorem op_0 (K : Option Value → sm_G → Prop) (J : Nat → sm_Lo → List Value → sm_G → Prop) (S : Nat → Nat → sm_Lo → List Value → sm_G → Prop) (cs : Nat → sm_SP) (Ls : Nat) (xs : Nat → Int32) (hW : sm_walk lay NL_law cs (some (Ls, xs)) 1 K J S) (hS0 : ∀ pc ls st g, S 0 pc ls st g = J pc ls st g)
    (c1 : cs 115 = spM sp_X9_question) (c2 : cs 162 = spM (spE sp_X10_question)) (i : Nat) (hi : i + 5 ≤ Ls) (hL : Ls ≤ 2560) (g : sm_G) (a b : Option Value) (hg : CP g g) (next : ∀ u, CP u u → J 1580 [some (.ref 1000), some (.ref 0), some (.ref 53), some (.ref 52), some (.int (nI i)), a, b] [] u) : J 188 [some (.ref 1000), some (.ref 0), some (.ref 53), some (.ref 52), some (.int (nI i)), a, b] [] g := by
  have hn := nl_0
  have hf := fd_all
  have ha := ar_all
  generalize NL_law = N at hn hW
  generalize lay = L at hf ha hW
  obtain ⟨hS, hR⟩ := hW
  apply hR 16
  simp (maxSteps := 10000000) (disch := omega) only [hS, hn, sm_eqs, hf, ha, sm_b0, Int.reduceToNat, ↓reduceIte, Nat.reduceEqDiff, true_and, and_true, List.length_nil, List.length_cons, Nat.reduceAdd, Nat.reduceLeDiff, Nat.zero_le, false_implies, true_implies, not_true_eq_false, not_false_eq_true, implies_true, Nat.reduceSub, Nat.reduceMul, Nat.reduceDiv, reduceCtorEq, tn_clamp, nI_t, tn_nI, nI_add, pk_mul, rS_gS, rS_gA, rS_gL, rA_gS, rA_gA, rA_gL, rL_gS, rL_gA, rL_gL, and_self, and_false, false_and, if_true, if_false, true_or, or_true, or_false, false_or, sm_in, eqI, sI_s, Int32.toInt_zero, Int.natCast_zero, Int.natCast_one, Int.cast_ofNat_Int, Int.reduceEq, Int.reduceLT, Int.reduceLE, Int.reduceNeg, Int.reduceNe, ne_eq, n_up, g_up, e_cat, fr_A, fr_O, fr_P, fr_L, hS0, c1]
  repeat' (with_reducible refine And.intro ?_ ?_)
  all_goals (first | omega | skip)
  refine ⟨_, co_question _ _ _ g hg, fun v u hv => ?_⟩
  obtain ⟨x, rfl, hm⟩ := hv
  show J 210 [some (.ref 1000), some (.ref 0), some (.ref 53), some (.ref 52), some (.int (nI i)), a, b] [.int x] u
  apply hR 16
  simp (maxSteps := 10000000) (disch := omega) only [hS, hn, sm_eqs, hf, ha, sm_b0, Int.reduceToNat, ↓reduceIte, Nat.reduceEqDiff, true_and, and_true, List.length_nil, List.length_cons, Nat.reduceAdd, Nat.reduceLeDiff, Nat.zero_le, false_implies, true_implies, not_true_eq_false, not_false_eq_true, implies_true, Nat.reduceSub, Nat.reduceMul, Nat.reduceDiv, reduceCtorEq, tn_clamp, nI_t, tn_nI, nI_add, pk_mul, rS_gS, rS_gA, rS_gL, rA_gS, rA_gA, rA_gL, rL_gS, rL_gA, rL_gL, and_self, and_false, false_and, if_true, if_false, true_or, or_true, or_false, false_or, sm_in, eqI, sI_s, Int32.toInt_zero, Int.natCast_zero, Int.natCast_one, Int.cast_ofNat_Int, Int.reduceEq, Int.reduceLT, Int.reduceLE, Int.reduceNeg, Int.reduceNe, ne_eq, n_up, g_up, e_cat, fr_A, fr_O, fr_P, fr_L, hS0, c2]
  repeat' (with_reducible refine And.intro ?_ ?_)
  all_goals (first | omega | skip)
  refine ⟨_, hm, fun v u2 hv => ?_⟩
  obtain ⟨rfl, hc⟩ := hv
  show J 232 [some (.ref 1000), some (.ref 0), some (.ref 53), some (.ref 52), some (.int (nI i)), a, b] [.int x, .int x] u2
  apply hR 0
  simp (maxSteps := 10000000) (disch := omega) only [hS, hn, sm_eqs, hf, ha, sm_b0, Int.reduceToNat, ↓reduceIte, Nat.reduceEqDiff, true_and, and_true, List.length_nil, List.length_cons, Nat.reduceAdd, Nat.reduceLeDiff, Nat.zero_le, false_implies, true_implies, not_true_eq_false, not_false_eq_true, implies_true, Nat.reduceSub, Nat.reduceMul, Nat.reduceDiv, reduceCtorEq, tn_clamp, nI_t, tn_nI, nI_add, pk_mul, rS_gS, rS_gA, rS_gL, rA_gS, rA_gA, rA_gL, rL_gS, rL_gA, rL_gL, and_self, and_false, false_and, if_true, if_false, true_or, or_true, or_false, false_or, sm_in, eqI, sI_s, Int32.toInt_zero, Int.natCast_zero, Int.natCast_one, Int.cast_ofNat_Int, Int.reduceEq, Int.reduceLT, Int.reduceLE, Int.reduceNeg, Int.reduceNe, ne_eq, n_up, g_up, e_cat, fr_A, fr_O, fr_P, fr_L, hS0]
  exact next u2 hc

theorem nl_1 : (NL_law 237 = some (.aload 1, 238, false) ∧ NL_law 238 = some (.aload 0, 239, false) ∧ NL_law 239 = some (.iload 4, 241, false) ∧ NL_law 241 = some (.ret 1, 242, false) ∧ NL_law 242 = some (.iadd, 243, false)) ∧ (NL_law 243 = some (.iaload, 244, false) ∧ NL_law 244 = some (.aload 0, 245, false) ∧ NL_law 245 = some (.iload 4, 247, false) ∧ NL_law 247 = some (.ret 2, 248, false) ∧ NL_law 248 = some (.iadd, 249, false)) ∧ (NL_law 249 = some (.iaload, 250, false) ∧ NL_law 250 = some (.aload 0, 251, false) ∧ NL_law 251 = some (.iload 4, 253, false) ∧ NL_law 253 = some (.ret 3, 254, false) ∧ NL_law 254 = some (.iadd, 255, false)) ∧ (NL_law 255 = some (.iaload, 256, false) ∧ NL_law 256 = some (.aload 0, 257, false) ∧ NL_law 257 = some (.iload 4, 259, false) ∧ NL_law 259 = some (.ret 4, 260, false) ∧ NL_law 260 = some (.iadd, 261, false)) ∧ (NL_law 261 = some (.iaload, 262, false) ∧ NL_law 262 = some (.ifCond .eq 269, 265, false) ∧ NL_law 265 = some (.ret 1, 266, false) ∧ NL_law 266 = some (.goto 270, 269, false) ∧ NL_law 269 = some (.ret 0, 270, false)) ∧ (NL_law 270 = some (.invokeinterface 116 5, 273, false) ∧ NL_law 273 = some (.aload 2, 274, false) ∧ NL_law 274 = some (.aload 0, 275, false) ∧ NL_law 275 = some (.iload 4, 277, false) ∧ NL_law 277 = some (.ret 1, 278, false)) ∧ (NL_law 278 = some (.iadd, 279, false) ∧ NL_law 279 = some (.iaload, 280, false) ∧ NL_law 280 = some (.aload 0, 281, false) ∧ NL_law 281 = some (.iload 4, 283, false) ∧ NL_law 283 = some (.ret 2, 284, false)) ∧ (NL_law 284 = some (.iadd, 285, false) ∧ NL_law 285 = some (.iaload, 286, false) ∧ NL_law 286 = some (.aload 0, 287, false) ∧ NL_law 287 = some (.iload 4, 289, false) ∧ NL_law 289 = some (.ret 3, 290, false)) ∧ (NL_law 290 = some (.iadd, 291, false) ∧ NL_law 291 = some (.iaload, 292, false) ∧ NL_law 292 = some (.aload 0, 293, false) ∧ NL_law 293 = some (.iload 4, 295, false) ∧ NL_law 295 = some (.ret 4, 296, false)) ∧ (NL_law 296 = some (.iadd, 297, false) ∧ NL_law 297 = some (.iaload, 298, false) ∧ NL_law 298 = some (.ifCond .eq 305, 301, false) ∧ NL_law 301 = some (.ret 1, 302, false) ∧ NL_law 302 = some (.goto 306, 305, false)) ∧ (NL_law 305 = some (.ret 0, 306, false) ∧ NL_law 306 = some (.invokeinterface 166 5, 309, false) ∧ NL_law 309 = some (.if_icmp .eq 1580, 312, false) ∧ NL_law 312 = some (.ret 0, 313, false) ∧ NL_law 313 = some (.ireturn, 314, false)) := ⟨by decide +kernel, by decide +kernel, by decide +kernel, by decide +kernel, by decide +kernel, by decide +kernel, by decide +kernel, by decide +kernel, by decide +kernel, by decide +kernel, by decide +kernel⟩
set_option maxHeartbeats 4000000 in
set_option maxRecDepth 100000 in
theorem op_1 (K : Option Value → sm_G → Prop) (J : Nat → sm_Lo → List Value → sm_G → Prop) (S : Nat → Nat → sm_Lo → List Value → sm_G → Prop) (cs : Nat → sm_SP) (Ls : Nat) (xs : Nat → Int32) (hW : sm_walk lay NL_law cs (some (Ls, xs)) 1 K J S) (hS0 : ∀ pc ls st g, S 0 pc ls st g = J pc ls st g)
    (c1 : cs 116 = spM sp_X9_may) (c2 : cs 166 = spM (spE sp_X10_may)) (i : Nat) (hi : i + 5 ≤ Ls) (hL : Ls ≤ 2560) (g : sm_G) (a b : Option Value) (hg : CP g g) (next : ∀ u, CP u u → J 1580 [some (.ref 1000), some (.ref 0), some (.ref 53), some (.ref 52), some (.int (nI i)), a, b] [] u) : J 237 [some (.ref 1000), some (.ref 0), some (.ref 53), some (.ref 52), some (.int (nI i)), a, b] [] g := by
  have hn := nl_1
  have hf := fd_all
  have ha := ar_all
  generalize NL_law = N at hn hW
  generalize lay = L at hf ha hW
  obtain ⟨hS, hR⟩ := hW
  by_cases hb : (xs (i + 4)).toInt = 0
  · apply hR 23
    simp (maxSteps := 10000000) (disch := omega) only [hS, hn, sm_eqs, hf, ha, sm_b0, Int.reduceToNat, ↓reduceIte, Nat.reduceEqDiff, true_and, and_true, List.length_nil, List.length_cons, Nat.reduceAdd, Nat.reduceLeDiff, Nat.zero_le, false_implies, true_implies, not_true_eq_false, not_false_eq_true, implies_true, Nat.reduceSub, Nat.reduceMul, Nat.reduceDiv, reduceCtorEq, tn_clamp, nI_t, tn_nI, nI_add, pk_mul, rS_gS, rS_gA, rS_gL, rA_gS, rA_gA, rA_gL, rL_gS, rL_gA, rL_gL, and_self, and_false, false_and, if_true, if_false, true_or, or_true, or_false, false_or, sm_in, eqI, sI_s, Int32.toInt_zero, Int.natCast_zero, Int.natCast_one, Int.cast_ofNat_Int, Int.reduceEq, Int.reduceLT, Int.reduceLE, Int.reduceNeg, Int.reduceNe, ne_eq, n_up, g_up, e_cat, fr_A, fr_O, fr_P, fr_L, hS0, c1, hb]
    repeat' (with_reducible refine And.intro ?_ ?_)
    all_goals (first | omega | skip)
    refine ⟨_, co_may _ _ _ _ (by first | exact Or.inl rfl | exact Or.inr rfl) g hg, fun v u hv => ?_⟩
    obtain ⟨x, rfl, hm⟩ := hv
    show J 273 [some (.ref 1000), some (.ref 0), some (.ref 53), some (.ref 52), some (.int (nI i)), a, b] [.int x] u
    apply hR 23
    simp (maxSteps := 10000000) (disch := omega) only [hS, hn, sm_eqs, hf, ha, sm_b0, Int.reduceToNat, ↓reduceIte, Nat.reduceEqDiff, true_and, and_true, List.length_nil, List.length_cons, Nat.reduceAdd, Nat.reduceLeDiff, Nat.zero_le, false_implies, true_implies, not_true_eq_false, not_false_eq_true, implies_true, Nat.reduceSub, Nat.reduceMul, Nat.reduceDiv, reduceCtorEq, tn_clamp, nI_t, tn_nI, nI_add, pk_mul, rS_gS, rS_gA, rS_gL, rA_gS, rA_gA, rA_gL, rL_gS, rL_gA, rL_gL, and_self, and_false, false_and, if_true, if_false, true_or, or_true, or_false, false_or, sm_in, eqI, sI_s, Int32.toInt_zero, Int.natCast_zero, Int.natCast_one, Int.cast_ofNat_Int, Int.reduceEq, Int.reduceLT, Int.reduceLE, Int.reduceNeg, Int.reduceNe, ne_eq, n_up, g_up, e_cat, fr_A, fr_O, fr_P, fr_L, hS0, c2, hb]
    repeat' (with_reducible refine And.intro ?_ ?_)
    all_goals (first | omega | skip)
    refine ⟨_, hm, fun v u2 hv => ?_⟩
    obtain ⟨rfl, hc⟩ := hv
    show J 309 [some (.ref 1000), some (.ref 0), some (.ref 53), some (.ref 52), some (.int (nI i)), a, b] [.int x, .int x] u2
    apply hR 0
    simp (maxSteps := 10000000) (disch := omega) only [hS, hn, sm_eqs, hf, ha, sm_b0, Int.reduceToNat, ↓reduceIte, Nat.reduceEqDiff, true_and, and_true, List.length_nil, List.length_cons, Nat.reduceAdd, Nat.reduceLeDiff, Nat.zero_le, false_implies, true_implies, not_true_eq_false, not_false_eq_true, implies_true, Nat.reduceSub, Nat.reduceMul, Nat.reduceDiv, reduceCtorEq, tn_clamp, nI_t, tn_nI, nI_add, pk_mul, rS_gS, rS_gA, rS_gL, rA_gS, rA_gA, rA_gL, rL_gS, rL_gA, rL_gL, and_self, and_false, false_and, if_true, if_false, true_or, or_true, or_false, false_or, sm_in, eqI, sI_s, Int32.toInt_zero, Int.natCast_zero, Int.natCast_one, Int.cast_ofNat_Int, Int.reduceEq, Int.reduceLT, Int.reduceLE, Int.reduceNeg, Int.reduceNe, ne_eq, n_up, g_up, e_cat, fr_A, fr_O, fr_P, fr_L, hS0]
    exact next u2 hc
  · apply hR 24
    simp (maxSteps := 10000000) (disch := omega) only [hS, hn, sm_eqs, hf, ha, sm_b0, Int.reduceToNat, ↓reduceIte, Nat.reduceEqDiff, true_and, and_true, List.length_nil, List.length_cons, Nat.reduceAdd, Nat.reduceLeDiff, Nat.zero_le, false_implies, true_implies, not_true_eq_false, not_false_eq_true, implies_true, Nat.reduceSub, Nat.reduceMul, Nat.reduceDiv, reduceCtorEq, tn_clamp, nI_t, tn_nI, nI_add, pk_mul, rS_gS, rS_gA, rS_gL, rA_gS, rA_gA, rA_gL, rL_gS, rL_gA, rL_gL, and_self, and_false, false_and, if_true, if_false, true_or, or_true, or_false, false_or, sm_in, eqI, sI_s, Int32.toInt_zero, Int.natCast_zero, Int.natCast_one, Int.cast_ofNat_Int, Int.reduceEq, Int.reduceLT, Int.reduceLE, Int.reduceNeg, Int.reduceNe, ne_eq, n_up, g_up, e_cat, fr_A, fr_O, fr_P, fr_L, hS0, c1, hb]
    repeat' (with_reducible refine And.intro ?_ ?_)
    all_goals (first | omega | skip)
    refine ⟨_, co_may _ _ _ _ (by first | exact Or.inl rfl | exact Or.inr rfl) g hg, fun v u hv => ?_⟩
    obtain ⟨x, rfl, hm⟩ := hv
    show J 273 [some (.ref 1000), some (.ref 0), some (.ref 53), some (.ref 52), some (.int (nI i)), a, b] [.int x] u
    apply hR 24
    simp (maxSteps := 10000000) (disch := omega) only [hS, hn, sm_eqs, hf, ha, sm_b0, Int.reduceToNat, ↓reduceIte, Nat.reduceEqDiff, true_and, and_true, List.length_nil, List.length_cons, Nat.reduceAdd, Nat.reduceLeDiff, Nat.zero_le, false_implies, true_implies, not_true_eq_false, not_false_eq_true, implies_true, Nat.reduceSub, Nat.reduceMul, Nat.reduceDiv, reduceCtorEq, tn_clamp, nI_t, tn_nI, nI_add, pk_mul, rS_gS, rS_gA, rS_gL, rA_gS, rA_gA, rA_gL, rL_gS, rL_gA, rL_gL, and_self, and_false, false_and, if_true, if_false, true_or, or_true, or_false, false_or, sm_in, eqI, sI_s, Int32.toInt_zero, Int.natCast_zero, Int.natCast_one, Int.cast_ofNat_Int, Int.reduceEq, Int.reduceLT, Int.reduceLE, Int.reduceNeg, Int.reduceNe, ne_eq, n_up, g_up, e_cat, fr_A, fr_O, fr_P, fr_L, hS0, c2, hb]
    repeat' (with_reducible refine And.intro ?_ ?_)
    all_goals (first | omega | skip)
    refine ⟨_, hm, fun v u2 hv => ?_⟩
    obtain ⟨rfl, hc⟩ := hv
    show J 309 [some (.ref 1000), some (.ref 0), some (.ref 53), some (.ref 52), some (.int (nI i)), a, b] [.int x, .int x] u2
    apply hR 0
    simp (maxSteps := 10000000) (disch := omega) only [hS, hn, sm_eqs, hf, ha, sm_b0, Int.reduceToNat, ↓reduceIte, Nat.reduceEqDiff, true_and, and_true, List.length_nil, List.length_cons, Nat.reduceAdd, Nat.reduceLeDiff, Nat.zero_le, false_implies, true_implies, not_true_eq_false, not_false_eq_true, implies_true, Nat.reduceSub, Nat.reduceMul, Nat.reduceDiv, reduceCtorEq, tn_clamp, nI_t, tn_nI, nI_add, pk_mul, rS_gS, rS_gA, rS_gL, rA_gS, rA_gA, rA_gL, rL_gS, rL_gA, rL_gL, and_self, and_false, false_and, if_true, if_false, true_or, or_true, or_false, false_or, sm_in, eqI, sI_s, Int32.toInt_zero, Int.natCast_zero, Int.natCast_one, Int.cast_ofNat_Int, Int.reduceEq, Int.reduceLT, Int.reduceLE, Int.reduceNeg, Int.reduceNe, ne_eq, n_up, g_up, e_cat, fr_A, fr_O, fr_P, fr_L, hS0]
    exact next u2 hc

theorem nl_2 : (NL_law 314 = some (.aload 1, 315, false) ∧ NL_law 315 = some (.aload 0, 316, false) ∧ NL_law 316 = some (.iload 4, 318, false) ∧ NL_law 318 = some (.ret 1, 319, false) ∧ NL_law 319 = some (.iadd, 320, false)) ∧ (NL_law 320 = some (.iaload, 321, false) ∧ NL_law 321 = some (.aload 0, 322, false) ∧ NL_law 322 = some (.iload 4, 324, false) ∧ NL_law 324 = some (.ret 2, 325, false) ∧ NL_law 325 = some (.iadd, 326, false)) ∧ (NL_law 326 = some (.iaload, 327, false) ∧ NL_law 327 = some (.aload 0, 328, false) ∧ NL_law 328 = some (.iload 4, 330, false) ∧ NL_law 330 = some (.ret 3, 331, false) ∧ NL_law 331 = some (.iadd, 332, false)) ∧ (NL_law 332 = some (.iaload, 333, false) ∧ NL_law 333 = some (.invokeinterface 117 4, 336, false) ∧ NL_law 336 = some (.aload 2, 337, false) ∧ NL_law 337 = some (.aload 0, 338, false) ∧ NL_law 338 = some (.iload 4, 340, false)) ∧ (NL_law 340 = some (.ret 1, 341, false) ∧ NL_law 341 = some (.iadd, 342, false) ∧ NL_law 342 = some (.iaload, 343, false) ∧ NL_law 343 = some (.aload 0, 344, false) ∧ NL_law 344 = some (.iload 4, 346, false)) ∧ (NL_law 346 = some (.ret 2, 347, false) ∧ NL_law 347 = some (.iadd, 348, false) ∧ NL_law 348 = some (.iaload, 349, false) ∧ NL_law 349 = some (.aload 0, 350, false) ∧ NL_law 350 = some (.iload 4, 352, false)) ∧ (NL_law 352 = some (.ret 3, 353, false) ∧ NL_law 353 = some (.iadd, 354, false) ∧ NL_law 354 = some (.iaload, 355, false) ∧ NL_law 355 = some (.invokeinterface 167 4, 358, false) ∧ NL_law 358 = some (.if_icmp .eq 1580, 361, false)) ∧ (NL_law 361 = some (.ret 0, 362, false) ∧ NL_law 362 = some (.ireturn, 363, false)) := ⟨by decide +kernel, by decide +kernel, by decide +kernel, by decide +kernel, by decide +kernel, by decide +kernel, by decide +kernel, by decide +kernel⟩
set_option maxHeartbeats 4000000 in
set_option maxRecDepth 100000 in
theorem op_2 (K : Option Value → sm_G → Prop) (J : Nat → sm_Lo → List Value → sm_G → Prop) (S : Nat → Nat → sm_Lo → List Value → sm_G → Prop) (cs : Nat → sm_SP) (Ls : Nat) (xs : Nat → Int32) (hW : sm_walk lay NL_law cs (some (Ls, xs)) 1 K J S) (hS0 : ∀ pc ls st g, S 0 pc ls st g = J pc ls st g)
    (c1 : cs 117 = spM sp_X9_mays) (c2 : cs 167 = spM (spE sp_X10_mays)) (i : Nat) (hi : i + 5 ≤ Ls) (hL : Ls ≤ 2560) (g : sm_G) (a b : Option Value) (hg : CP g g) (next : ∀ u, CP u u → J 1580 [some (.ref 1000), some (.ref 0), some (.ref 53), some (.ref 52), some (.int (nI i)), a, b] [] u) : J 314 [some (.ref 1000), some (.ref 0), some (.ref 53), some (.ref 52), some (.int (nI i)), a, b] [] g := by
  have hn := nl_2
  have hf := fd_all
  have ha := ar_all
  generalize NL_law = N at hn hW
  generalize lay = L at hf ha hW
  obtain ⟨hS, hR⟩ := hW
  apply hR 16
  simp (maxSteps := 10000000) (disch := omega) only [hS, hn, sm_eqs, hf, ha, sm_b0, Int.reduceToNat, ↓reduceIte, Nat.reduceEqDiff, true_and, and_true, List.length_nil, List.length_cons, Nat.reduceAdd, Nat.reduceLeDiff, Nat.zero_le, false_implies, true_implies, not_true_eq_false, not_false_eq_true, implies_true, Nat.reduceSub, Nat.reduceMul, Nat.reduceDiv, reduceCtorEq, tn_clamp, nI_t, tn_nI, nI_add, pk_mul, rS_gS, rS_gA, rS_gL, rA_gS, rA_gA, rA_gL, rL_gS, rL_gA, rL_gL, and_self, and_false, false_and, if_true, if_false, true_or, or_true, or_false, false_or, sm_in, eqI, sI_s, Int32.toInt_zero, Int.natCast_zero, Int.natCast_one, Int.cast_ofNat_Int, Int.reduceEq, Int.reduceLT, Int.reduceLE, Int.reduceNeg, Int.reduceNe, ne_eq, n_up, g_up, e_cat, fr_A, fr_O, fr_P, fr_L, hS0, c1]
  repeat' (with_reducible refine And.intro ?_ ?_)
  all_goals (first | omega | skip)
  refine ⟨_, co_mays _ _ _ g hg, fun v u hv => ?_⟩
  obtain ⟨x, rfl, hm⟩ := hv
  show J 336 [some (.ref 1000), some (.ref 0), some (.ref 53), some (.ref 52), some (.int (nI i)), a, b] [.int x] u
  apply hR 16
  simp (maxSteps := 10000000) (disch := omega) only [hS, hn, sm_eqs, hf, ha, sm_b0, Int.reduceToNat, ↓reduceIte, Nat.reduceEqDiff, true_and, and_true, List.length_nil, List.length_cons, Nat.reduceAdd, Nat.reduceLeDiff, Nat.zero_le, false_implies, true_implies, not_true_eq_false, not_false_eq_true, implies_true, Nat.reduceSub, Nat.reduceMul, Nat.reduceDiv, reduceCtorEq, tn_clamp, nI_t, tn_nI, nI_add, pk_mul, rS_gS, rS_gA, rS_gL, rA_gS, rA_gA, rA_gL, rL_gS, rL_gA, rL_gL, and_self, and_false, false_and, if_true, if_false, true_or, or_true, or_false, false_or, sm_in, eqI, sI_s, Int32.toInt_zero, Int.natCast_zero, Int.natCast_one, Int.cast_ofNat_Int, Int.reduceEq, Int.reduceLT, Int.reduceLE, Int.reduceNeg, Int.reduceNe, ne_eq, n_up, g_up, e_cat, fr_A, fr_O, fr_P, fr_L, hS0, c2]
  repeat' (with_reducible refine And.intro ?_ ?_)
  all_goals (first | omega | skip)
  refine ⟨_, hm, fun v u2 hv => ?_⟩
  obtain ⟨rfl, hc⟩ := hv
  show J 358 [some (.ref 1000), some (.ref 0), some (.ref 53), some (.ref 52), some (.int (nI i)), a, b] [.int x, .int x] u2
  apply hR 0
  simp (maxSteps := 10000000) (disch := omega) only [hS, hn, sm_eqs, hf, ha, sm_b0, Int.reduceToNat, ↓reduceIte, Nat.reduceEqDiff, true_and, and_true, List.length_nil, List.length_cons, Nat.reduceAdd, Nat.reduceLeDiff, Nat.zero_le, false_implies, true_implies, not_true_eq_false, not_false_eq_true, implies_true, Nat.reduceSub, Nat.reduceMul, Nat.reduceDiv, reduceCtorEq, tn_clamp, nI_t, tn_nI, nI_add, pk_mul, rS_gS, rS_gA, rS_gL, rA_gS, rA_gA, rA_gL, rL_gS, rL_gA, rL_gL, and_self, and_false, false_and, if_true, if_false, true_or, or_true, or_false, false_or, sm_in, eqI, sI_s, Int32.toInt_zero, Int.natCast_zero, Int.natCast_one, Int.cast_ofNat_Int, Int.reduceEq, Int.reduceLT, Int.reduceLE, Int.reduceNeg, Int.reduceNe, ne_eq, n_up, g_up, e_cat, fr_A, fr_O, fr_P, fr_L, hS0]
  exact next u2 hc

theorem nl_3 : (NL_law 363 = some (.aload 1, 364, false) ∧ NL_law 364 = some (.aload 0, 365, false) ∧ NL_law 365 = some (.iload 4, 367, false) ∧ NL_law 367 = some (.ret 1, 368, false) ∧ NL_law 368 = some (.iadd, 369, false)) ∧ (NL_law 369 = some (.iaload, 370, false) ∧ NL_law 370 = some (.aload 0, 371, false) ∧ NL_law 371 = some (.iload 4, 373, false) ∧ NL_law 373 = some (.ret 2, 374, false) ∧ NL_law 374 = some (.iadd, 375, false)) ∧ (NL_law 375 = some (.iaload, 376, false) ∧ NL_law 376 = some (.aload 0, 377, false) ∧ NL_law 377 = some (.iload 4, 379, false) ∧ NL_law 379 = some (.ret 3, 380, false) ∧ NL_law 380 = some (.iadd, 381, false)) ∧ (NL_law 381 = some (.iaload, 382, false) ∧ NL_law 382 = some (.ifCond .eq 389, 385, false) ∧ NL_law 385 = some (.ret 1, 386, false) ∧ NL_law 386 = some (.goto 390, 389, false) ∧ NL_law 389 = some (.ret 0, 390, false)) ∧ (NL_law 390 = some (.aload 0, 391, false) ∧ NL_law 391 = some (.iload 4, 393, false) ∧ NL_law 393 = some (.ret 4, 394, false) ∧ NL_law 394 = some (.iadd, 395, false) ∧ NL_law 395 = some (.iaload, 396, false)) ∧ (NL_law 396 = some (.invokeinterface 118 5, 399, false) ∧ NL_law 399 = some (.aload 2, 400, false) ∧ NL_law 400 = some (.aload 0, 401, false) ∧ NL_law 401 = some (.iload 4, 403, false) ∧ NL_law 403 = some (.ret 1, 404, false)) ∧ (NL_law 404 = some (.iadd, 405, false) ∧ NL_law 405 = some (.iaload, 406, false) ∧ NL_law 406 = some (.aload 0, 407, false) ∧ NL_law 407 = some (.iload 4, 409, false) ∧ NL_law 409 = some (.ret 2, 410, false)) ∧ (NL_law 410 = some (.iadd, 411, false) ∧ NL_law 411 = some (.iaload, 412, false) ∧ NL_law 412 = some (.aload 0, 413, false) ∧ NL_law 413 = some (.iload 4, 415, false) ∧ NL_law 415 = some (.ret 3, 416, false)) ∧ (NL_law 416 = some (.iadd, 417, false) ∧ NL_law 417 = some (.iaload, 418, false) ∧ NL_law 418 = some (.ifCond .eq 425, 421, false) ∧ NL_law 421 = some (.ret 1, 422, false) ∧ NL_law 422 = some (.goto 426, 425, false)) ∧ (NL_law 425 = some (.ret 0, 426, false) ∧ NL_law 426 = some (.aload 0, 427, false) ∧ NL_law 427 = some (.iload 4, 429, false) ∧ NL_law 429 = some (.ret 4, 430, false) ∧ NL_law 430 = some (.iadd, 431, false)) ∧ (NL_law 431 = some (.iaload, 432, false) ∧ NL_law 432 = some (.invokeinterface 172 5, 435, false) ∧ NL_law 435 = some (.if_icmp .eq 1580, 438, false) ∧ NL_law 438 = some (.ret 0, 439, false) ∧ NL_law 439 = some (.ireturn, 440, false)) := ⟨by decide +kernel, by decide +kernel, by decide +kernel, by decide +kernel, by decide +kernel, by decide +kernel, by decide +kernel, by decide +kernel, by decide +kernel, by decide +kernel, by decide +kernel⟩
set_option maxHeartbeats 4000000 in
set_option maxRecDepth 100000 in
theorem op_3 (K : Option Value → sm_G → Prop) (J : Nat → sm_Lo → List Value → sm_G → Prop) (S : Nat → Nat → sm_Lo → List Value → sm_G → Prop) (cs : Nat → sm_SP) (Ls : Nat) (xs : Nat → Int32) (hW : sm_walk lay NL_law cs (some (Ls, xs)) 1 K J S) (hS0 : ∀ pc ls st g, S 0 pc ls st g = J pc ls st g)
    (c1 : cs 118 = spM sp_X9_thing) (c2 : cs 172 = spM (spE sp_X10_thing)) (i : Nat) (hi : i + 5 ≤ Ls) (hL : Ls ≤ 2560) (g : sm_G) (a b : Option Value) (hg : CP g g) (next : ∀ u, CP u u → J 1580 [some (.ref 1000), some (.ref 0), some (.ref 53), some (.ref 52), some (.int (nI i)), a, b] [] u) : J 363 [some (.ref 1000), some (.ref 0), some (.ref 53), some (.ref 52), some (.int (nI i)), a, b] [] g := by
  have hn := nl_3
  have hf := fd_all
  have ha := ar_all
  generalize NL_law = N at hn hW
  generalize lay = L at hf ha hW
  obtain ⟨hS, hR⟩ := hW
  by_cases hb : (xs (i + 3)).toInt = 0
  · apply hR 23
    simp (maxSteps := 10000000) (disch := omega) only [hS, hn, sm_eqs, hf, ha, sm_b0, Int.reduceToNat, ↓reduceIte, Nat.reduceEqDiff, true_and, and_true, List.length_nil, List.length_cons, Nat.reduceAdd, Nat.reduceLeDiff, Nat.zero_le, false_implies, true_implies, not_true_eq_false, not_false_eq_true, implies_true, Nat.reduceSub, Nat.reduceMul, Nat.reduceDiv, reduceCtorEq, tn_clamp, nI_t, tn_nI, nI_add, pk_mul, rS_gS, rS_gA, rS_gL, rA_gS, rA_gA, rA_gL, rL_gS, rL_gA, rL_gL, and_self, and_false, false_and, if_true, if_false, true_or, or_true, or_false, false_or, sm_in, eqI, sI_s, Int32.toInt_zero, Int.natCast_zero, Int.natCast_one, Int.cast_ofNat_Int, Int.reduceEq, Int.reduceLT, Int.reduceLE, Int.reduceNeg, Int.reduceNe, ne_eq, n_up, g_up, e_cat, fr_A, fr_O, fr_P, fr_L, hS0, c1, hb]
    repeat' (with_reducible refine And.intro ?_ ?_)
    all_goals (first | omega | skip)
    refine ⟨_, co_thing _ _ _ _ (by first | exact Or.inl rfl | exact Or.inr rfl) g hg, fun v u hv => ?_⟩
    obtain ⟨x, rfl, hm⟩ := hv
    show J 399 [some (.ref 1000), some (.ref 0), some (.ref 53), some (.ref 52), some (.int (nI i)), a, b] [.int x] u
    apply hR 23
    simp (maxSteps := 10000000) (disch := omega) only [hS, hn, sm_eqs, hf, ha, sm_b0, Int.reduceToNat, ↓reduceIte, Nat.reduceEqDiff, true_and, and_true, List.length_nil, List.length_cons, Nat.reduceAdd, Nat.reduceLeDiff, Nat.zero_le, false_implies, true_implies, not_true_eq_false, not_false_eq_true, implies_true, Nat.reduceSub, Nat.reduceMul, Nat.reduceDiv, reduceCtorEq, tn_clamp, nI_t, tn_nI, nI_add, pk_mul, rS_gS, rS_gA, rS_gL, rA_gS, rA_gA, rA_gL, rL_gS, rL_gA, rL_gL, and_self, and_false, false_and, if_true, if_false, true_or, or_true, or_false, false_or, sm_in, eqI, sI_s, Int32.toInt_zero, Int.natCast_zero, Int.natCast_one, Int.cast_ofNat_Int, Int.reduceEq, Int.reduceLT, Int.reduceLE, Int.reduceNeg, Int.reduceNe, ne_eq, n_up, g_up, e_cat, fr_A, fr_O, fr_P, fr_L, hS0, c2, hb]
    repeat' (with_reducible refine And.intro ?_ ?_)
    all_goals (first | omega | skip)
    refine ⟨_, hm, fun v u2 hv => ?_⟩
    obtain ⟨rfl, hc⟩ := hv
    show J 435 [some (.ref 1000), some (.ref 0), some (.ref 53), some (.ref 52), some (.int (nI i)), a, b] [.int x, .int x] u2
    apply hR 0
    simp (maxSteps := 10000000) (disch := omega) only [hS, hn, sm_eqs, hf, ha, sm_b0, Int.reduceToNat, ↓reduceIte, Nat.reduceEqDiff, true_and, and_true, List.length_nil, List.length_cons, Nat.reduceAdd, Nat.reduceLeDiff, Nat.zero_le, false_implies, true_implies, not_true_eq_false, not_false_eq_true, implies_true, Nat.reduceSub, Nat.reduceMul, Nat.reduceDiv, reduceCtorEq, tn_clamp, nI_t, tn_nI, nI_add, pk_mul, rS_gS, rS_gA, rS_gL, rA_gS, rA_gA, rA_gL, rL_gS, rL_gA, rL_gL, and_self, and_false, false_and, if_true, if_false, true_or, or_true, or_false, false_or, sm_in, eqI, sI_s, Int32.toInt_zero, Int.natCast_zero, Int.natCast_one, Int.cast_ofNat_Int, Int.reduceEq, Int.reduceLT, Int.reduceLE, Int.reduceNeg, Int.reduceNe, ne_eq, n_up, g_up, e_cat, fr_A, fr_O, fr_P, fr_L, hS0]
    exact next u2 hc
  · apply hR 24
    simp (maxSteps := 10000000) (disch := omega) only [hS, hn, sm_eqs, hf, ha, sm_b0, Int.reduceToNat, ↓reduceIte, Nat.reduceEqDiff, true_and, and_true, List.length_nil, List.length_cons, Nat.reduceAdd, Nat.reduceLeDiff, Nat.zero_le, false_implies, true_implies, not_true_eq_false, not_false_eq_true, implies_true, Nat.reduceSub, Nat.reduceMul, Nat.reduceDiv, reduceCtorEq, tn_clamp, nI_t, tn_nI, nI_add, pk_mul, rS_gS, rS_gA, rS_gL, rA_gS, rA_gA, rA_gL, rL_gS, rL_gA, rL_gL, and_self, and_false, false_and, if_true, if_false, true_or, or_true, or_false, false_or, sm_in, eqI, sI_s, Int32.toInt_zero, Int.natCast_zero, Int.natCast_one, Int.cast_ofNat_Int, Int.reduceEq, Int.reduceLT, Int.reduceLE, Int.reduceNeg, Int.reduceNe, ne_eq, n_up, g_up, e_cat, fr_A, fr_O, fr_P, fr_L, hS0, c1, hb]
    repeat' (with_reducible refine And.intro ?_ ?_)
    all_goals (first | omega | skip)
    refine ⟨_, co_thing _ _ _ _ (by first | exact Or.inl rfl | exact Or.inr rfl) g hg, fun v u hv => ?_⟩
    obtain ⟨x, rfl, hm⟩ := hv
    show J 399 [some (.ref 1000), some (.ref 0), some (.ref 53), some (.ref 52), some (.int (nI i)), a, b] [.int x] u
    apply hR 24
    simp (maxSteps := 10000000) (disch := omega) only [hS, hn, sm_eqs, hf, ha, sm_b0, Int.reduceToNat, ↓reduceIte, Nat.reduceEqDiff, true_and, and_true, List.length_nil, List.length_cons, Nat.reduceAdd, Nat.reduceLeDiff, Nat.zero_le, false_implies, true_implies, not_true_eq_false, not_false_eq_true, implies_true, Nat.reduceSub, Nat.reduceMul, Nat.reduceDiv, reduceCtorEq, tn_clamp, nI_t, tn_nI, nI_add, pk_mul, rS_gS, rS_gA, rS_gL, rA_gS, rA_gA, rA_gL, rL_gS, rL_gA, rL_gL, and_self, and_false, false_and, if_true, if_false, true_or, or_true, or_false, false_or, sm_in, eqI, sI_s, Int32.toInt_zero, Int.natCast_zero, Int.natCast_one, Int.cast_ofNat_Int, Int.reduceEq, Int.reduceLT, Int.reduceLE, Int.reduceNeg, Int.reduceNe, ne_eq, n_up, g_up, e_cat, fr_A, fr_O, fr_P, fr_L, hS0, c2, hb]
    repeat' (with_reducible refine And.intro ?_ ?_)
    all_goals (first | omega | skip)
    refine ⟨_, hm, fun v u2 hv => ?_⟩
    obtain ⟨rfl, hc⟩ := hv
    show J 435 [some (.ref 1000), some (.ref 0), some (.ref 53), some (.ref 52), some (.int (nI i)), a, b] [.int x, .int x] u2
    apply hR 0
    simp (maxSteps := 10000000) (disch := omega) only [hS, hn, sm_eqs, hf, ha, sm_b0, Int.reduceToNat, ↓reduceIte, Nat.reduceEqDiff, true_and, and_true, List.length_nil, List.length_cons, Nat.reduceAdd, Nat.reduceLeDiff, Nat.zero_le, false_implies, true_implies, not_true_eq_false, not_false_eq_true, implies_true, Nat.reduceSub, Nat.reduceMul, Nat.reduceDiv, reduceCtorEq, tn_clamp, nI_t, tn_nI, nI_add, pk_mul, rS_gS, rS_gA, rS_gL, rA_gS, rA_gA, rA_gL, rL_gS, rL_gA, rL_gL, and_self, and_false, false_and, if_true, if_false, true_or, or_true, or_false, false_or, sm_in, eqI, sI_s, Int32.toInt_zero, Int.natCast_zero, Int.natCast_one, Int.cast_ofNat_Int, Int.reduceEq, Int.reduceLT, Int.reduceLE, Int.reduceNeg, Int.reduceNe, ne_eq, n_up, g_up, e_cat, fr_A, fr_O, fr_P, fr_L, hS0]
    exact next u2 hc

theorem nl_4 : (NL_law 440 = some (.aload 1, 441, false) ∧ NL_law 441 = some (.aload 0, 442, false) ∧ NL_law 442 = some (.iload 4, 444, false) ∧ NL_law 444 = some (.ret 1, 445, false) ∧ NL_law 445 = some (.iadd, 446, false)) ∧ (NL_law 446 = some (.iaload, 447, false) ∧ NL_law 447 = some (.invokeinterface 119 2, 450, false) ∧ NL_law 450 = some (.aload 2, 451, false) ∧ NL_law 451 = some (.aload 0, 452, false) ∧ NL_law 452 = some (.iload 4, 454, false)) ∧ (NL_law 454 = some (.ret 1, 455, false) ∧ NL_law 455 = some (.iadd, 456, false) ∧ NL_law 456 = some (.iaload, 457, false) ∧ NL_law 457 = some (.invokeinterface 173 2, 460, false) ∧ NL_law 460 = some (.if_icmp .eq 1580, 463, false)) ∧ (NL_law 463 = some (.ret 0, 464, false) ∧ NL_law 464 = some (.ireturn, 465, false)) := ⟨by decide +kernel, by decide +kernel, by decide +kernel, by decide +kernel⟩
set_option maxHeartbeats 4000000 in
set_option maxRecDepth 100000 in
theorem op_4 (K : Option Value → sm_G → Prop) (J : Nat → sm_Lo → List Value → sm_G → Prop) (S : Nat → Nat → sm_Lo → List Value → sm_G → Prop) (cs : Nat → sm_SP) (Ls : Nat) (xs : Nat → Int32) (hW : sm_walk lay NL_law cs (some (Ls, xs)) 1 K J S) (hS0 : ∀ pc ls st g, S 0 pc ls st g = J pc ls st g)
    (c1 : cs 119 = spM sp_X9_report) (c2 : cs 173 = spM (spE sp_X10_report)) (i : Nat) (hi : i + 5 ≤ Ls) (hL : Ls ≤ 2560) (g : sm_G) (a b : Option Value) (hg : CP g g) (next : ∀ u, CP u u → J 1580 [some (.ref 1000), some (.ref 0), some (.ref 53), some (.ref 52), some (.int (nI i)), a, b] [] u) : J 440 [some (.ref 1000), some (.ref 0), some (.ref 53), some (.ref 52), some (.int (nI i)), a, b] [] g := by
  have hn := nl_4
  have hf := fd_all
  have ha := ar_all
  generalize NL_law = N at hn hW
  generalize lay = L at hf ha hW
  obtain ⟨hS, hR⟩ := hW
  apply hR 6
  simp (maxSteps := 10000000) (disch := omega) only [hS, hn, sm_eqs, hf, ha, sm_b0, Int.reduceToNat, ↓reduceIte, Nat.reduceEqDiff, true_and, and_true, List.length_nil, List.length_cons, Nat.reduceAdd, Nat.reduceLeDiff, Nat.zero_le, false_implies, true_implies, not_true_eq_false, not_false_eq_true, implies_true, Nat.reduceSub, Nat.reduceMul, Nat.reduceDiv, reduceCtorEq, tn_clamp, nI_t, tn_nI, nI_add, pk_mul, rS_gS, rS_gA, rS_gL, rA_gS, rA_gA, rA_gL, rL_gS, rL_gA, rL_gL, and_self, and_false, false_and, if_true, if_false, true_or, or_true, or_false, false_or, sm_in, eqI, sI_s, Int32.toInt_zero, Int.natCast_zero, Int.natCast_one, Int.cast_ofNat_Int, Int.reduceEq, Int.reduceLT, Int.reduceLE, Int.reduceNeg, Int.reduceNe, ne_eq, n_up, g_up, e_cat, fr_A, fr_O, fr_P, fr_L, hS0, c1]
  repeat' (with_reducible refine And.intro ?_ ?_)
  all_goals (first | omega | skip)
  refine ⟨_, co_report _ g hg, fun v u hv => ?_⟩
  obtain ⟨x, rfl, hm⟩ := hv
  show J 450 [some (.ref 1000), some (.ref 0), some (.ref 53), some (.ref 52), some (.int (nI i)), a, b] [.int x] u
  apply hR 6
  simp (maxSteps := 10000000) (disch := omega) only [hS, hn, sm_eqs, hf, ha, sm_b0, Int.reduceToNat, ↓reduceIte, Nat.reduceEqDiff, true_and, and_true, List.length_nil, List.length_cons, Nat.reduceAdd, Nat.reduceLeDiff, Nat.zero_le, false_implies, true_implies, not_true_eq_false, not_false_eq_true, implies_true, Nat.reduceSub, Nat.reduceMul, Nat.reduceDiv, reduceCtorEq, tn_clamp, nI_t, tn_nI, nI_add, pk_mul, rS_gS, rS_gA, rS_gL, rA_gS, rA_gA, rA_gL, rL_gS, rL_gA, rL_gL, and_self, and_false, false_and, if_true, if_false, true_or, or_true, or_false, false_or, sm_in, eqI, sI_s, Int32.toInt_zero, Int.natCast_zero, Int.natCast_one, Int.cast_ofNat_Int, Int.reduceEq, Int.reduceLT, Int.reduceLE, Int.reduceNeg, Int.reduceNe, ne_eq, n_up, g_up, e_cat, fr_A, fr_O, fr_P, fr_L, hS0, c2]
  repeat' (with_reducible refine And.intro ?_ ?_)
  all_goals (first | omega | skip)
  refine ⟨_, hm, fun v u2 hv => ?_⟩
  obtain ⟨rfl, hc⟩ := hv
  show J 460 [some (.ref 1000), some (.ref 0), some (.ref 53), some (.ref 52), some (.int (nI i)), a, b] [.int x, .int x] u2
  apply hR 0
  simp (maxSteps := 10000000) (disch := omega) only [hS, hn, sm_eqs, hf, ha, sm_b0, Int.reduceToNat, ↓reduceIte, Nat.reduceEqDiff, true_and, and_true, List.length_nil, List.length_cons, Nat.reduceAdd, Nat.reduceLeDiff, Nat.zero_le, false_implies, true_implies, not_true_eq_false, not_false_eq_true, implies_true, Nat.reduceSub, Nat.reduceMul, Nat.reduceDiv, reduceCtorEq, tn_clamp, nI_t, tn_nI, nI_add, pk_mul, rS_gS, rS_gA, rS_gL, rA_gS, rA_gA, rA_gL, rL_gS, rL_gA, rL_gL, and_self, and_false, false_and, if_true, if_false, true_or, or_true, or_false, false_or, sm_in, eqI, sI_s, Int32.toInt_zero, Int.natCast_zero, Int.natCast_one, Int.cast_ofNat_Int, Int.reduceEq, Int.reduceLT, Int.reduceLE, Int.reduceNeg, Int.reduceNe, ne_eq, n_up, g_up, e_cat, fr_A, fr_O, fr_P, fr_L, hS0]
  exact next u2 hc

theorem nl_5 : (NL_law 465 = some (.aload 1, 466, false) ∧ NL_law 466 = some (.aload 0, 467, false) ∧ NL_law 467 = some (.iload 4, 469, false) ∧ NL_law 469 = some (.ret 1, 470, false) ∧ NL_law 470 = some (.iadd, 471, false)) ∧ (NL_law 471 = some (.iaload, 472, false) ∧ NL_law 472 = some (.ifCond .eq 479, 475, false) ∧ NL_law 475 = some (.ret 1, 476, false) ∧ NL_law 476 = some (.goto 480, 479, false) ∧ NL_law 479 = some (.ret 0, 480, false)) ∧ (NL_law 480 = some (.aload 0, 481, false) ∧ NL_law 481 = some (.iload 4, 483, false) ∧ NL_law 483 = some (.ret 2, 484, false) ∧ NL_law 484 = some (.iadd, 485, false) ∧ NL_law 485 = some (.iaload, 486, false)) ∧ (NL_law 486 = some (.aload 0, 487, false) ∧ NL_law 487 = some (.iload 4, 489, false) ∧ NL_law 489 = some (.ret 3, 490, false) ∧ NL_law 490 = some (.iadd, 491, false) ∧ NL_law 491 = some (.iaload, 492, false)) ∧ (NL_law 492 = some (.aload 0, 493, false) ∧ NL_law 493 = some (.iload 4, 495, false) ∧ NL_law 495 = some (.ret 4, 496, false) ∧ NL_law 496 = some (.iadd, 497, false) ∧ NL_law 497 = some (.iaload, 498, false)) ∧ (NL_law 498 = some (.invokeinterface 120 5, 501, false) ∧ NL_law 501 = some (.aload 2, 502, false) ∧ NL_law 502 = some (.aload 0, 503, false) ∧ NL_law 503 = some (.iload 4, 505, false) ∧ NL_law 505 = some (.ret 1, 506, false)) ∧ (NL_law 506 = some (.iadd, 507, false) ∧ NL_law 507 = some (.iaload, 508, false) ∧ NL_law 508 = some (.ifCond .eq 515, 511, false) ∧ NL_law 511 = some (.ret 1, 512, false) ∧ NL_law 512 = some (.goto 516, 515, false)) ∧ (NL_law 515 = some (.ret 0, 516, false) ∧ NL_law 516 = some (.aload 0, 517, false) ∧ NL_law 517 = some (.iload 4, 519, false) ∧ NL_law 519 = some (.ret 2, 520, false) ∧ NL_law 520 = some (.iadd, 521, false)) ∧ (NL_law 521 = some (.iaload, 522, false) ∧ NL_law 522 = some (.aload 0, 523, false) ∧ NL_law 523 = some (.iload 4, 525, false) ∧ NL_law 525 = some (.ret 3, 526, false) ∧ NL_law 526 = some (.iadd, 527, false)) ∧ (NL_law 527 = some (.iaload, 528, false) ∧ NL_law 528 = some (.aload 0, 529, false) ∧ NL_law 529 = some (.iload 4, 531, false) ∧ NL_law 531 = some (.ret 4, 532, false) ∧ NL_law 532 = some (.iadd, 533, false)) ∧ (NL_law 533 = some (.iaload, 534, false) ∧ NL_law 534 = some (.invokeinterface 175 5, 537, false) ∧ NL_law 537 = some (.if_icmp .eq 1580, 540, false) ∧ NL_law 540 = some (.ret 0, 541, false) ∧ NL_law 541 = some (.ireturn, 542, false)) := ⟨by decide +kernel, by decide +kernel, by decide +kernel, by decide +kernel, by decide +kernel, by decide +kernel, by decide +kernel, by decide +kernel, by decide +kernel, by decide +kernel, by decide +kernel⟩
set_option maxHeartbeats 4000000 in
set_option maxRecDepth 100000 in
theorem op_5 (K : Option Value → sm_G → Prop) (J : Nat → sm_Lo → List Value → sm_G → Prop) (S : Nat → Nat → sm_Lo → List Value → sm_G → Prop) (cs : Nat → sm_SP) (Ls : Nat) (xs : Nat → Int32) (hW : sm_walk lay NL_law cs (some (Ls, xs)) 1 K J S) (hS0 : ∀ pc ls st g, S 0 pc ls st g = J pc ls st g)
    (c1 : cs 120 = spM sp_X9_mark) (c2 : cs 175 = spM (spE sp_X10_mark)) (i : Nat) (hi : i + 5 ≤ Ls) (hL : Ls ≤ 2560) (g : sm_G) (a b : Option Value) (hg : CP g g) (next : ∀ u, CP u u → J 1580 [some (.ref 1000), some (.ref 0), some (.ref 53), some (.ref 52), some (.int (nI i)), a, b] [] u) : J 465 [some (.ref 1000), some (.ref 0), some (.ref 53), some (.ref 52), some (.int (nI i)), a, b] [] g := by
  have hn := nl_5
  have hf := fd_all
  have ha := ar_all
  generalize NL_law = N at hn hW
  generalize lay = L at hf ha hW
  obtain ⟨hS, hR⟩ := hW
  by_cases hb : (xs (i + 1)).toInt = 0
  · apply hR 23
    simp (maxSteps := 10000000) (disch := omega) only [hS, hn, sm_eqs, hf, ha, sm_b0, Int.reduceToNat, ↓reduceIte, Nat.reduceEqDiff, true_and, and_true, List.length_nil, List.length_cons, Nat.reduceAdd, Nat.reduceLeDiff, Nat.zero_le, false_implies, true_implies, not_true_eq_false, not_false_eq_true, implies_true, Nat.reduceSub, Nat.reduceMul, Nat.reduceDiv, reduceCtorEq, tn_clamp, nI_t, tn_nI, nI_add, pk_mul, rS_gS, rS_gA, rS_gL, rA_gS, rA_gA, rA_gL, rL_gS, rL_gA, rL_gL, and_self, and_false, false_and, if_true, if_false, true_or, or_true, or_false, false_or, sm_in, eqI, sI_s, Int32.toInt_zero, Int.natCast_zero, Int.natCast_one, Int.cast_ofNat_Int, Int.reduceEq, Int.reduceLT, Int.reduceLE, Int.reduceNeg, Int.reduceNe, ne_eq, n_up, g_up, e_cat, fr_A, fr_O, fr_P, fr_L, hS0, c1, hb]
    repeat' (with_reducible refine And.intro ?_ ?_)
    all_goals (first | omega | skip)
    refine ⟨_, co_mark _ _ _ _ g hg, fun v u hv => ?_⟩
    obtain ⟨x, rfl, hm⟩ := hv
    show J 501 [some (.ref 1000), some (.ref 0), some (.ref 53), some (.ref 52), some (.int (nI i)), a, b] [.int x] u
    apply hR 23
    simp (maxSteps := 10000000) (disch := omega) only [hS, hn, sm_eqs, hf, ha, sm_b0, Int.reduceToNat, ↓reduceIte, Nat.reduceEqDiff, true_and, and_true, List.length_nil, List.length_cons, Nat.reduceAdd, Nat.reduceLeDiff, Nat.zero_le, false_implies, true_implies, not_true_eq_false, not_false_eq_true, implies_true, Nat.reduceSub, Nat.reduceMul, Nat.reduceDiv, reduceCtorEq, tn_clamp, nI_t, tn_nI, nI_add, pk_mul, rS_gS, rS_gA, rS_gL, rA_gS, rA_gA, rA_gL, rL_gS, rL_gA, rL_gL, and_self, and_false, false_and, if_true, if_false, true_or, or_true, or_false, false_or, sm_in, eqI, sI_s, Int32.toInt_zero, Int.natCast_zero, Int.natCast_one, Int.cast_ofNat_Int, Int.reduceEq, Int.reduceLT, Int.reduceLE, Int.reduceNeg, Int.reduceNe, ne_eq, n_up, g_up, e_cat, fr_A, fr_O, fr_P, fr_L, hS0, c2, hb]
    repeat' (with_reducible refine And.intro ?_ ?_)
    all_goals (first | omega | skip)
    refine ⟨_, hm, fun v u2 hv => ?_⟩
    obtain ⟨rfl, hc⟩ := hv
    show J 537 [some (.ref 1000), some (.ref 0), some (.ref 53), some (.ref 52), some (.int (nI i)), a, b] [.int x, .int x] u2
    apply hR 0
    simp (maxSteps := 10000000) (disch := omega) only [hS, hn, sm_eqs, hf, ha, sm_b0, Int.reduceToNat, ↓reduceIte, Nat.reduceEqDiff, true_and, and_true, List.length_nil, List.length_cons, Nat.reduceAdd, Nat.reduceLeDiff, Nat.zero_le, false_implies, true_implies, not_true_eq_false, not_false_eq_true, implies_true, Nat.reduceSub, Nat.reduceMul, Nat.reduceDiv, reduceCtorEq, tn_clamp, nI_t, tn_nI, nI_add, pk_mul, rS_gS, rS_gA, rS_gL, rA_gS, rA_gA, rA_gL, rL_gS, rL_gA, rL_gL, and_self, and_false, false_and, if_true, if_false, true_or, or_true, or_false, false_or, sm_in, eqI, sI_s, Int32.toInt_zero, Int.natCast_zero, Int.natCast_one, Int.cast_ofNat_Int, Int.reduceEq, Int.reduceLT, Int.reduceLE, Int.reduceNeg, Int.reduceNe, ne_eq, n_up, g_up, e_cat, fr_A, fr_O, fr_P, fr_L, hS0]
    exact next u2 hc
  · apply hR 24
    simp (maxSteps := 10000000) (disch := omega) only [hS, hn, sm_eqs, hf, ha, sm_b0, Int.reduceToNat, ↓reduceIte, Nat.reduceEqDiff, true_and, and_true, List.length_nil, List.length_cons, Nat.reduceAdd, Nat.reduceLeDiff, Nat.zero_le, false_implies, true_implies, not_true_eq_false, not_false_eq_true, implies_true, Nat.reduceSub, Nat.reduceMul, Nat.reduceDiv, reduceCtorEq, tn_clamp, nI_t, tn_nI, nI_add, pk_mul, rS_gS, rS_gA, rS_gL, rA_gS, rA_gA, rA_gL, rL_gS, rL_gA, rL_gL, and_self, and_false, false_and, if_true, if_false, true_or, or_true, or_false, false_or, sm_in, eqI, sI_s, Int32.toInt_zero, Int.natCast_zero, Int.natCast_one, Int.cast_ofNat_Int, Int.reduceEq, Int.reduceLT, Int.reduceLE, Int.reduceNeg, Int.reduceNe, ne_eq, n_up, g_up, e_cat, fr_A, fr_O, fr_P, fr_L, hS0, c1, hb]
    repeat' (with_reducible refine And.intro ?_ ?_)
    all_goals (first | omega | skip)
    refine ⟨_, co_mark _ _ _ _ g hg, fun v u hv => ?_⟩
    obtain ⟨x, rfl, hm⟩ := hv
    show J 501 [some (.ref 1000), some (.ref 0), some (.ref 53), some (.ref 52), some (.int (nI i)), a, b] [.int x] u
    apply hR 24
    simp (maxSteps := 10000000) (disch := omega) only [hS, hn, sm_eqs, hf, ha, sm_b0, Int.reduceToNat, ↓reduceIte, Nat.reduceEqDiff, true_and, and_true, List.length_nil, List.length_cons, Nat.reduceAdd, Nat.reduceLeDiff, Nat.zero_le, false_implies, true_implies, not_true_eq_false, not_false_eq_true, implies_true, Nat.reduceSub, Nat.reduceMul, Nat.reduceDiv, reduceCtorEq, tn_clamp, nI_t, tn_nI, nI_add, pk_mul, rS_gS, rS_gA, rS_gL, rA_gS, rA_gA, rA_gL, rL_gS, rL_gA, rL_gL, and_self, and_false, false_and, if_true, if_false, true_or, or_true, or_false, false_or, sm_in, eqI, sI_s, Int32.toInt_zero, Int.natCast_zero, Int.natCast_one, Int.cast_ofNat_Int, Int.reduceEq, Int.reduceLT, Int.reduceLE, Int.reduceNeg, Int.reduceNe, ne_eq, n_up, g_up, e_cat, fr_A, fr_O, fr_P, fr_L, hS0, c2, hb]
    repeat' (with_reducible refine And.intro ?_ ?_)
    all_goals (first | omega | skip)
    refine ⟨_, hm, fun v u2 hv => ?_⟩
    obtain ⟨rfl, hc⟩ := hv
    show J 537 [some (.ref 1000), some (.ref 0), some (.ref 53), some (.ref 52), some (.int (nI i)), a, b] [.int x, .int x] u2
    apply hR 0
    simp (maxSteps := 10000000) (disch := omega) only [hS, hn, sm_eqs, hf, ha, sm_b0, Int.reduceToNat, ↓reduceIte, Nat.reduceEqDiff, true_and, and_true, List.length_nil, List.length_cons, Nat.reduceAdd, Nat.reduceLeDiff, Nat.zero_le, false_implies, true_implies, not_true_eq_false, not_false_eq_true, implies_true, Nat.reduceSub, Nat.reduceMul, Nat.reduceDiv, reduceCtorEq, tn_clamp, nI_t, tn_nI, nI_add, pk_mul, rS_gS, rS_gA, rS_gL, rA_gS, rA_gA, rA_gL, rL_gS, rL_gA, rL_gL, and_self, and_false, false_and, if_true, if_false, true_or, or_true, or_false, false_or, sm_in, eqI, sI_s, Int32.toInt_zero, Int.natCast_zero, Int.natCast_one, Int.cast_ofNat_Int, Int.reduceEq, Int.reduceLT, Int.reduceLE, Int.reduceNeg, Int.reduceNe, ne_eq, n_up, g_up, e_cat, fr_A, fr_O, fr_P, fr_L, hS0]
    exact next u2 hc

theorem nl_6 : (NL_law 542 = some (.aload 1, 543, false) ∧ NL_law 543 = some (.aload 0, 544, false) ∧ NL_law 544 = some (.iload 4, 546, false) ∧ NL_law 546 = some (.ret 1, 547, false) ∧ NL_law 547 = some (.iadd, 548, false)) ∧ (NL_law 548 = some (.iaload, 549, false) ∧ NL_law 549 = some (.ifCond .eq 556, 552, false) ∧ NL_law 552 = some (.ret 1, 553, false) ∧ NL_law 553 = some (.goto 557, 556, false) ∧ NL_law 556 = some (.ret 0, 557, false)) ∧ (NL_law 557 = some (.aload 0, 558, false) ∧ NL_law 558 = some (.iload 4, 560, false) ∧ NL_law 560 = some (.ret 2, 561, false) ∧ NL_law 561 = some (.iadd, 562, false) ∧ NL_law 562 = some (.iaload, 563, false)) ∧ (NL_law 563 = some (.aload 0, 564, false) ∧ NL_law 564 = some (.iload 4, 566, false) ∧ NL_law 566 = some (.ret 3, 567, false) ∧ NL_law 567 = some (.iadd, 568, false) ∧ NL_law 568 = some (.iaload, 569, false)) ∧ (NL_law 569 = some (.invokeinterface 121 4, 572, false) ∧ NL_law 572 = some (.aload 2, 573, false) ∧ NL_law 573 = some (.aload 0, 574, false) ∧ NL_law 574 = some (.iload 4, 576, false) ∧ NL_law 576 = some (.ret 1, 577, false)) ∧ (NL_law 577 = some (.iadd, 578, false) ∧ NL_law 578 = some (.iaload, 579, false) ∧ NL_law 579 = some (.ifCond .eq 586, 582, false) ∧ NL_law 582 = some (.ret 1, 583, false) ∧ NL_law 583 = some (.goto 587, 586, false)) ∧ (NL_law 586 = some (.ret 0, 587, false) ∧ NL_law 587 = some (.aload 0, 588, false) ∧ NL_law 588 = some (.iload 4, 590, false) ∧ NL_law 590 = some (.ret 2, 591, false) ∧ NL_law 591 = some (.iadd, 592, false)) ∧ (NL_law 592 = some (.iaload, 593, false) ∧ NL_law 593 = some (.aload 0, 594, false) ∧ NL_law 594 = some (.iload 4, 596, false) ∧ NL_law 596 = some (.ret 3, 597, false) ∧ NL_law 597 = some (.iadd, 598, false)) ∧ (NL_law 598 = some (.iaload, 599, false) ∧ NL_law 599 = some (.invokeinterface 176 4, 602, false) ∧ NL_law 602 = some (.if_icmp .eq 1580, 605, false) ∧ NL_law 605 = some (.ret 0, 606, false) ∧ NL_law 606 = some (.ireturn, 607, false)) := ⟨by decide +kernel, by decide +kernel, by decide +kernel, by decide +kernel, by decide +kernel, by decide +kernel, by decide +kernel, by decide +kernel, by decide +kernel⟩
set_option maxHeartbeats 4000000 in
set_option maxRecDepth 100000 in
theorem op_6 (K : Option Value → sm_G → Prop) (J : Nat → sm_Lo → List Value → sm_G → Prop) (S : Nat → Nat → sm_Lo → List Value → sm_G → Prop) (cs : Nat → sm_SP) (Ls : Nat) (xs : Nat → Int32) (hW : sm_walk lay NL_law cs (some (Ls, xs)) 1 K J S) (hS0 : ∀ pc ls st g, S 0 pc ls st g = J pc ls st g)
    (c1 : cs 121 = spM sp_X9_tear) (c2 : cs 176 = spM (spE sp_X10_tear)) (i : Nat) (hi : i + 5 ≤ Ls) (hL : Ls ≤ 2560) (g : sm_G) (a b : Option Value) (hg : CP g g) (next : ∀ u, CP u u → J 1580 [some (.ref 1000), some (.ref 0), some (.ref 53), some (.ref 52), some (.int (nI i)), a, b] [] u) : J 542 [some (.ref 1000), some (.ref 0), some (.ref 53), some (.ref 52), some (.int (nI i)), a, b] [] g := by
  have hn := nl_6
  have hf := fd_all
  have ha := ar_all
  generalize NL_law = N at hn hW
  generalize lay = L at hf ha hW
  obtain ⟨hS, hR⟩ := hW
  by_cases hb : (xs (i + 1)).toInt = 0
  · apply hR 18
    simp (maxSteps := 10000000) (disch := omega) only [hS, hn, sm_eqs, hf, ha, sm_b0, Int.reduceToNat, ↓reduceIte, Nat.reduceEqDiff, true_and, and_true, List.length_nil, List.length_cons, Nat.reduceAdd, Nat.reduceLeDiff, Nat.zero_le, false_implies, true_implies, not_true_eq_false, not_false_eq_true, implies_true, Nat.reduceSub, Nat.reduceMul, Nat.reduceDiv, reduceCtorEq, tn_clamp, nI_t, tn_nI, nI_add, pk_mul, rS_gS, rS_gA, rS_gL, rA_gS, rA_gA, rA_gL, rL_gS, rL_gA, rL_gL, and_self, and_false, false_and, if_true, if_false, true_or, or_true, or_false, false_or, sm_in, eqI, sI_s, Int32.toInt_zero, Int.natCast_zero, Int.natCast_one, Int.cast_ofNat_Int, Int.reduceEq, Int.reduceLT, Int.reduceLE, Int.reduceNeg, Int.reduceNe, ne_eq, n_up, g_up, e_cat, fr_A, fr_O, fr_P, fr_L, hS0, c1, hb]
    repeat' (with_reducible refine And.intro ?_ ?_)
    all_goals (first | omega | skip)
    refine ⟨_, co_tear _ _ _ g hg, fun v u hv => ?_⟩
    obtain ⟨x, rfl, hm⟩ := hv
    show J 572 [some (.ref 1000), some (.ref 0), some (.ref 53), some (.ref 52), some (.int (nI i)), a, b] [.int x] u
    apply hR 18
    simp (maxSteps := 10000000) (disch := omega) only [hS, hn, sm_eqs, hf, ha, sm_b0, Int.reduceToNat, ↓reduceIte, Nat.reduceEqDiff, true_and, and_true, List.length_nil, List.length_cons, Nat.reduceAdd, Nat.reduceLeDiff, Nat.zero_le, false_implies, true_implies, not_true_eq_false, not_false_eq_true, implies_true, Nat.reduceSub, Nat.reduceMul, Nat.reduceDiv, reduceCtorEq, tn_clamp, nI_t, tn_nI, nI_add, pk_mul, rS_gS, rS_gA, rS_gL, rA_gS, rA_gA, rA_gL, rL_gS, rL_gA, rL_gL, and_self, and_false, false_and, if_true, if_false, true_or, or_true, or_false, false_or, sm_in, eqI, sI_s, Int32.toInt_zero, Int.natCast_zero, Int.natCast_one, Int.cast_ofNat_Int, Int.reduceEq, Int.reduceLT, Int.reduceLE, Int.reduceNeg, Int.reduceNe, ne_eq, n_up, g_up, e_cat, fr_A, fr_O, fr_P, fr_L, hS0, c2, hb]
    repeat' (with_reducible refine And.intro ?_ ?_)
    all_goals (first | omega | skip)
    refine ⟨_, hm, fun v u2 hv => ?_⟩
    obtain ⟨rfl, hc⟩ := hv
    show J 602 [some (.ref 1000), some (.ref 0), some (.ref 53), some (.ref 52), some (.int (nI i)), a, b] [.int x, .int x] u2
    apply hR 0
    simp (maxSteps := 10000000) (disch := omega) only [hS, hn, sm_eqs, hf, ha, sm_b0, Int.reduceToNat, ↓reduceIte, Nat.reduceEqDiff, true_and, and_true, List.length_nil, List.length_cons, Nat.reduceAdd, Nat.reduceLeDiff, Nat.zero_le, false_implies, true_implies, not_true_eq_false, not_false_eq_true, implies_true, Nat.reduceSub, Nat.reduceMul, Nat.reduceDiv, reduceCtorEq, tn_clamp, nI_t, tn_nI, nI_add, pk_mul, rS_gS, rS_gA, rS_gL, rA_gS, rA_gA, rA_gL, rL_gS, rL_gA, rL_gL, and_self, and_false, false_and, if_true, if_false, true_or, or_true, or_false, false_or, sm_in, eqI, sI_s, Int32.toInt_zero, Int.natCast_zero, Int.natCast_one, Int.cast_ofNat_Int, Int.reduceEq, Int.reduceLT, Int.reduceLE, Int.reduceNeg, Int.reduceNe, ne_eq, n_up, g_up, e_cat, fr_A, fr_O, fr_P, fr_L, hS0]
    exact next u2 hc
  · apply hR 19
    simp (maxSteps := 10000000) (disch := omega) only [hS, hn, sm_eqs, hf, ha, sm_b0, Int.reduceToNat, ↓reduceIte, Nat.reduceEqDiff, true_and, and_true, List.length_nil, List.length_cons, Nat.reduceAdd, Nat.reduceLeDiff, Nat.zero_le, false_implies, true_implies, not_true_eq_false, not_false_eq_true, implies_true, Nat.reduceSub, Nat.reduceMul, Nat.reduceDiv, reduceCtorEq, tn_clamp, nI_t, tn_nI, nI_add, pk_mul, rS_gS, rS_gA, rS_gL, rA_gS, rA_gA, rA_gL, rL_gS, rL_gA, rL_gL, and_self, and_false, false_and, if_true, if_false, true_or, or_true, or_false, false_or, sm_in, eqI, sI_s, Int32.toInt_zero, Int.natCast_zero, Int.natCast_one, Int.cast_ofNat_Int, Int.reduceEq, Int.reduceLT, Int.reduceLE, Int.reduceNeg, Int.reduceNe, ne_eq, n_up, g_up, e_cat, fr_A, fr_O, fr_P, fr_L, hS0, c1, hb]
    repeat' (with_reducible refine And.intro ?_ ?_)
    all_goals (first | omega | skip)
    refine ⟨_, co_tear _ _ _ g hg, fun v u hv => ?_⟩
    obtain ⟨x, rfl, hm⟩ := hv
    show J 572 [some (.ref 1000), some (.ref 0), some (.ref 53), some (.ref 52), some (.int (nI i)), a, b] [.int x] u
    apply hR 19
    simp (maxSteps := 10000000) (disch := omega) only [hS, hn, sm_eqs, hf, ha, sm_b0, Int.reduceToNat, ↓reduceIte, Nat.reduceEqDiff, true_and, and_true, List.length_nil, List.length_cons, Nat.reduceAdd, Nat.reduceLeDiff, Nat.zero_le, false_implies, true_implies, not_true_eq_false, not_false_eq_true, implies_true, Nat.reduceSub, Nat.reduceMul, Nat.reduceDiv, reduceCtorEq, tn_clamp, nI_t, tn_nI, nI_add, pk_mul, rS_gS, rS_gA, rS_gL, rA_gS, rA_gA, rA_gL, rL_gS, rL_gA, rL_gL, and_self, and_false, false_and, if_true, if_false, true_or, or_true, or_false, false_or, sm_in, eqI, sI_s, Int32.toInt_zero, Int.natCast_zero, Int.natCast_one, Int.cast_ofNat_Int, Int.reduceEq, Int.reduceLT, Int.reduceLE, Int.reduceNeg, Int.reduceNe, ne_eq, n_up, g_up, e_cat, fr_A, fr_O, fr_P, fr_L, hS0, c2, hb]
    repeat' (with_reducible refine And.intro ?_ ?_)
    all_goals (first | omega | skip)
    refine ⟨_, hm, fun v u2 hv => ?_⟩
    obtain ⟨rfl, hc⟩ := hv
    show J 602 [some (.ref 1000), some (.ref 0), some (.ref 53), some (.ref 52), some (.int (nI i)), a, b] [.int x, .int x] u2
    apply hR 0
    simp (maxSteps := 10000000) (disch := omega) only [hS, hn, sm_eqs, hf, ha, sm_b0, Int.reduceToNat, ↓reduceIte, Nat.reduceEqDiff, true_and, and_true, List.length_nil, List.length_cons, Nat.reduceAdd, Nat.reduceLeDiff, Nat.zero_le, false_implies, true_implies, not_true_eq_false, not_false_eq_true, implies_true, Nat.reduceSub, Nat.reduceMul, Nat.reduceDiv, reduceCtorEq, tn_clamp, nI_t, tn_nI, nI_add, pk_mul, rS_gS, rS_gA, rS_gL, rA_gS, rA_gA, rA_gL, rL_gS, rL_gA, rL_gL, and_self, and_false, false_and, if_true, if_false, true_or, or_true, or_false, false_or, sm_in, eqI, sI_s, Int32.toInt_zero, Int.natCast_zero, Int.natCast_one, Int.cast_ofNat_Int, Int.reduceEq, Int.reduceLT, Int.reduceLE, Int.reduceNeg, Int.reduceNe, ne_eq, n_up, g_up, e_cat, fr_A, fr_O, fr_P, fr_L, hS0]
    exact next u2 hc

theorem nl_7 : (NL_law 607 = some (.aload 1, 608, false) ∧ NL_law 608 = some (.aload 0, 609, false) ∧ NL_law 609 = some (.iload 4, 611, false) ∧ NL_law 611 = some (.ret 1, 612, false) ∧ NL_law 612 = some (.iadd, 613, false)) ∧ (NL_law 613 = some (.iaload, 614, false) ∧ NL_law 614 = some (.ifCond .eq 621, 617, false) ∧ NL_law 617 = some (.ret 1, 618, false) ∧ NL_law 618 = some (.goto 622, 621, false) ∧ NL_law 621 = some (.ret 0, 622, false)) ∧ (NL_law 622 = some (.aload 0, 623, false) ∧ NL_law 623 = some (.iload 4, 625, false) ∧ NL_law 625 = some (.ret 2, 626, false) ∧ NL_law 626 = some (.iadd, 627, false) ∧ NL_law 627 = some (.iaload, 628, false)) ∧ (NL_law 628 = some (.aload 0, 629, false) ∧ NL_law 629 = some (.iload 4, 631, false) ∧ NL_law 631 = some (.ret 3, 632, false) ∧ NL_law 632 = some (.iadd, 633, false) ∧ NL_law 633 = some (.iaload, 634, false)) ∧ (NL_law 634 = some (.invokeinterface 122 4, 637, false) ∧ NL_law 637 = some (.aload 2, 638, false) ∧ NL_law 638 = some (.aload 0, 639, false) ∧ NL_law 639 = some (.iload 4, 641, false) ∧ NL_law 641 = some (.ret 1, 642, false)) ∧ (NL_law 642 = some (.iadd, 643, false) ∧ NL_law 643 = some (.iaload, 644, false) ∧ NL_law 644 = some (.ifCond .eq 651, 647, false) ∧ NL_law 647 = some (.ret 1, 648, false) ∧ NL_law 648 = some (.goto 652, 651, false)) ∧ (NL_law 651 = some (.ret 0, 652, false) ∧ NL_law 652 = some (.aload 0, 653, false) ∧ NL_law 653 = some (.iload 4, 655, false) ∧ NL_law 655 = some (.ret 2, 656, false) ∧ NL_law 656 = some (.iadd, 657, false)) ∧ (NL_law 657 = some (.iaload, 658, false) ∧ NL_law 658 = some (.aload 0, 659, false) ∧ NL_law 659 = some (.iload 4, 661, false) ∧ NL_law 661 = some (.ret 3, 662, false) ∧ NL_law 662 = some (.iadd, 663, false)) ∧ (NL_law 663 = some (.iaload, 664, false) ∧ NL_law 664 = some (.invokeinterface 178 4, 667, false) ∧ NL_law 667 = some (.if_icmp .eq 1580, 670, false) ∧ NL_law 670 = some (.ret 0, 671, false) ∧ NL_law 671 = some (.ireturn, 672, false)) := ⟨by decide +kernel, by decide +kernel, by decide +kernel, by decide +kernel, by decide +kernel, by decide +kernel, by decide +kernel, by decide +kernel, by decide +kernel⟩
set_option maxHeartbeats 4000000 in
set_option maxRecDepth 100000 in
theorem op_7 (K : Option Value → sm_G → Prop) (J : Nat → sm_Lo → List Value → sm_G → Prop) (S : Nat → Nat → sm_Lo → List Value → sm_G → Prop) (cs : Nat → sm_SP) (Ls : Nat) (xs : Nat → Int32) (hW : sm_walk lay NL_law cs (some (Ls, xs)) 1 K J S) (hS0 : ∀ pc ls st g, S 0 pc ls st g = J pc ls st g)
    (c1 : cs 122 = spM sp_X9_known) (c2 : cs 178 = spM (spE sp_X10_known)) (i : Nat) (hi : i + 5 ≤ Ls) (hL : Ls ≤ 2560) (g : sm_G) (a b : Option Value) (hg : CP g g) (next : ∀ u, CP u u → J 1580 [some (.ref 1000), some (.ref 0), some (.ref 53), some (.ref 52), some (.int (nI i)), a, b] [] u) : J 607 [some (.ref 1000), some (.ref 0), some (.ref 53), some (.ref 52), some (.int (nI i)), a, b] [] g := by
  have hn := nl_7
  have hf := fd_all
  have ha := ar_all
  generalize NL_law = N at hn hW
  generalize lay = L at hf ha hW
  obtain ⟨hS, hR⟩ := hW
  by_cases hb : (xs (i + 1)).toInt = 0
  · apply hR 18
    simp (maxSteps := 10000000) (disch := omega) only [hS, hn, sm_eqs, hf, ha, sm_b0, Int.reduceToNat, ↓reduceIte, Nat.reduceEqDiff, true_and, and_true, List.length_nil, List.length_cons, Nat.reduceAdd, Nat.reduceLeDiff, Nat.zero_le, false_implies, true_implies, not_true_eq_false, not_false_eq_true, implies_true, Nat.reduceSub, Nat.reduceMul, Nat.reduceDiv, reduceCtorEq, tn_clamp, nI_t, tn_nI, nI_add, pk_mul, rS_gS, rS_gA, rS_gL, rA_gS, rA_gA, rA_gL, rL_gS, rL_gA, rL_gL, and_self, and_false, false_and, if_true, if_false, true_or, or_true, or_false, false_or, sm_in, eqI, sI_s, Int32.toInt_zero, Int.natCast_zero, Int.natCast_one, Int.cast_ofNat_Int, Int.reduceEq, Int.reduceLT, Int.reduceLE, Int.reduceNeg, Int.reduceNe, ne_eq, n_up, g_up, e_cat, fr_A, fr_O, fr_P, fr_L, hS0, c1, hb]
    repeat' (with_reducible refine And.intro ?_ ?_)
    all_goals (first | omega | skip)
    refine ⟨_, co_known _ _ _ g hg, fun v u hv => ?_⟩
    obtain ⟨x, rfl, hm⟩ := hv
    show J 637 [some (.ref 1000), some (.ref 0), some (.ref 53), some (.ref 52), some (.int (nI i)), a, b] [.int x] u
    apply hR 18
    simp (maxSteps := 10000000) (disch := omega) only [hS, hn, sm_eqs, hf, ha, sm_b0, Int.reduceToNat, ↓reduceIte, Nat.reduceEqDiff, true_and, and_true, List.length_nil, List.length_cons, Nat.reduceAdd, Nat.reduceLeDiff, Nat.zero_le, false_implies, true_implies, not_true_eq_false, not_false_eq_true, implies_true, Nat.reduceSub, Nat.reduceMul, Nat.reduceDiv, reduceCtorEq, tn_clamp, nI_t, tn_nI, nI_add, pk_mul, rS_gS, rS_gA, rS_gL, rA_gS, rA_gA, rA_gL, rL_gS, rL_gA, rL_gL, and_self, and_false, false_and, if_true, if_false, true_or, or_true, or_false, false_or, sm_in, eqI, sI_s, Int32.toInt_zero, Int.natCast_zero, Int.natCast_one, Int.cast_ofNat_Int, Int.reduceEq, Int.reduceLT, Int.reduceLE, Int.reduceNeg, Int.reduceNe, ne_eq, n_up, g_up, e_cat, fr_A, fr_O, fr_P, fr_L, hS0, c2, hb]
    repeat' (with_reducible refine And.intro ?_ ?_)
    all_goals (first | omega | skip)
    refine ⟨_, hm, fun v u2 hv => ?_⟩
    obtain ⟨rfl, hc⟩ := hv
    show J 667 [some (.ref 1000), some (.ref 0), some (.ref 53), some (.ref 52), some (.int (nI i)), a, b] [.int x, .int x] u2
    apply hR 0
    simp (maxSteps := 10000000) (disch := omega) only [hS, hn, sm_eqs, hf, ha, sm_b0, Int.reduceToNat, ↓reduceIte, Nat.reduceEqDiff, true_and, and_true, List.length_nil, List.length_cons, Nat.reduceAdd, Nat.reduceLeDiff, Nat.zero_le, false_implies, true_implies, not_true_eq_false, not_false_eq_true, implies_true, Nat.reduceSub, Nat.reduceMul, Nat.reduceDiv, reduceCtorEq, tn_clamp, nI_t, tn_nI, nI_add, pk_mul, rS_gS, rS_gA, rS_gL, rA_gS, rA_gA, rA_gL, rL_gS, rL_gA, rL_gL, and_self, and_false, false_and, if_true, if_false, true_or, or_true, or_false, false_or, sm_in, eqI, sI_s, Int32.toInt_zero, Int.natCast_zero, Int.natCast_one, Int.cast_ofNat_Int, Int.reduceEq, Int.reduceLT, Int.reduceLE, Int.reduceNeg, Int.reduceNe, ne_eq, n_up, g_up, e_cat, fr_A, fr_O, fr_P, fr_L, hS0]
    exact next u2 hc
  · apply hR 19
    simp (maxSteps := 10000000) (disch := omega) only [hS, hn, sm_eqs, hf, ha, sm_b0, Int.reduceToNat, ↓reduceIte, Nat.reduceEqDiff, true_and, and_true, List.length_nil, List.length_cons, Nat.reduceAdd, Nat.reduceLeDiff, Nat.zero_le, false_implies, true_implies, not_true_eq_false, not_false_eq_true, implies_true, Nat.reduceSub, Nat.reduceMul, Nat.reduceDiv, reduceCtorEq, tn_clamp, nI_t, tn_nI, nI_add, pk_mul, rS_gS, rS_gA, rS_gL, rA_gS, rA_gA, rA_gL, rL_gS, rL_gA, rL_gL, and_self, and_false, false_and, if_true, if_false, true_or, or_true, or_false, false_or, sm_in, eqI, sI_s, Int32.toInt_zero, Int.natCast_zero, Int.natCast_one, Int.cast_ofNat_Int, Int.reduceEq, Int.reduceLT, Int.reduceLE, Int.reduceNeg, Int.reduceNe, ne_eq, n_up, g_up, e_cat, fr_A, fr_O, fr_P, fr_L, hS0, c1, hb]
    repeat' (with_reducible refine And.intro ?_ ?_)
    all_goals (first | omega | skip)
    refine ⟨_, co_known _ _ _ g hg, fun v u hv => ?_⟩
    obtain ⟨x, rfl, hm⟩ := hv
    show J 637 [some (.ref 1000), some (.ref 0), some (.ref 53), some (.ref 52), some (.int (nI i)), a, b] [.int x] u
    apply hR 19
    simp (maxSteps := 10000000) (disch := omega) only [hS, hn, sm_eqs, hf, ha, sm_b0, Int.reduceToNat, ↓reduceIte, Nat.reduceEqDiff, true_and, and_true, List.length_nil, List.length_cons, Nat.reduceAdd, Nat.reduceLeDiff, Nat.zero_le, false_implies, true_implies, not_true_eq_false, not_false_eq_true, implies_true, Nat.reduceSub, Nat.reduceMul, Nat.reduceDiv, reduceCtorEq, tn_clamp, nI_t, tn_nI, nI_add, pk_mul, rS_gS, rS_gA, rS_gL, rA_gS, rA_gA, rA_gL, rL_gS, rL_gA, rL_gL, and_self, and_false, false_and, if_true, if_false, true_or, or_true, or_false, false_or, sm_in, eqI, sI_s, Int32.toInt_zero, Int.natCast_zero, Int.natCast_one, Int.cast_ofNat_Int, Int.reduceEq, Int.reduceLT, Int.reduceLE, Int.reduceNeg, Int.reduceNe, ne_eq, n_up, g_up, e_cat, fr_A, fr_O, fr_P, fr_L, hS0, c2, hb]
    repeat' (with_reducible refine And.intro ?_ ?_)
    all_goals (first | omega | skip)
    refine ⟨_, hm, fun v u2 hv => ?_⟩
    obtain ⟨rfl, hc⟩ := hv
    show J 667 [some (.ref 1000), some (.ref 0), some (.ref 53), some (.ref 52), some (.int (nI i)), a, b] [.int x, .int x] u2
    apply hR 0
    simp (maxSteps := 10000000) (disch := omega) only [hS, hn, sm_eqs, hf, ha, sm_b0, Int.reduceToNat, ↓reduceIte, Nat.reduceEqDiff, true_and, and_true, List.length_nil, List.length_cons, Nat.reduceAdd, Nat.reduceLeDiff, Nat.zero_le, false_implies, true_implies, not_true_eq_false, not_false_eq_true, implies_true, Nat.reduceSub, Nat.reduceMul, Nat.reduceDiv, reduceCtorEq, tn_clamp, nI_t, tn_nI, nI_add, pk_mul, rS_gS, rS_gA, rS_gL, rA_gS, rA_gA, rA_gL, rL_gS, rL_gA, rL_gL, and_self, and_false, false_and, if_true, if_false, true_or, or_true, or_false, false_or, sm_in, eqI, sI_s, Int32.toInt_zero, Int.natCast_zero, Int.natCast_one, Int.cast_ofNat_Int, Int.reduceEq, Int.reduceLT, Int.reduceLE, Int.reduceNeg, Int.reduceNe, ne_eq, n_up, g_up, e_cat, fr_A, fr_O, fr_P, fr_L, hS0]
    exact next u2 hc

theorem nl_8 : (NL_law 672 = some (.aload 1, 673, false) ∧ NL_law 673 = some (.aload 0, 674, false) ∧ NL_law 674 = some (.iload 4, 676, false) ∧ NL_law 676 = some (.ret 1, 677, false) ∧ NL_law 677 = some (.iadd, 678, false)) ∧ (NL_law 678 = some (.iaload, 679, false) ∧ NL_law 679 = some (.ifCond .eq 686, 682, false) ∧ NL_law 682 = some (.ret 1, 683, false) ∧ NL_law 683 = some (.goto 687, 686, false) ∧ NL_law 686 = some (.ret 0, 687, false)) ∧ (NL_law 687 = some (.aload 0, 688, false) ∧ NL_law 688 = some (.iload 4, 690, false) ∧ NL_law 690 = some (.ret 2, 691, false) ∧ NL_law 691 = some (.iadd, 692, false) ∧ NL_law 692 = some (.iaload, 693, false)) ∧ (NL_law 693 = some (.invokeinterface 123 3, 696, false) ∧ NL_law 696 = some (.aload 2, 697, false) ∧ NL_law 697 = some (.aload 0, 698, false) ∧ NL_law 698 = some (.iload 4, 700, false) ∧ NL_law 700 = some (.ret 1, 701, false)) ∧ (NL_law 701 = some (.iadd, 702, false) ∧ NL_law 702 = some (.iaload, 703, false) ∧ NL_law 703 = some (.ifCond .eq 710, 706, false) ∧ NL_law 706 = some (.ret 1, 707, false) ∧ NL_law 707 = some (.goto 711, 710, false)) ∧ (NL_law 710 = some (.ret 0, 711, false) ∧ NL_law 711 = some (.aload 0, 712, false) ∧ NL_law 712 = some (.iload 4, 714, false) ∧ NL_law 714 = some (.ret 2, 715, false) ∧ NL_law 715 = some (.iadd, 716, false)) ∧ (NL_law 716 = some (.iaload, 717, false) ∧ NL_law 717 = some (.invokeinterface 179 3, 720, false) ∧ NL_law 720 = some (.if_icmp .eq 1580, 723, false) ∧ NL_law 723 = some (.ret 0, 724, false) ∧ NL_law 724 = some (.ireturn, 725, false)) := ⟨by decide +kernel, by decide +kernel, by decide +kernel, by decide +kernel, by decide +kernel, by decide +kernel, by decide +kernel⟩
set_option maxHeartbeats 4000000 in
set_option maxRecDepth 100000 in
theorem op_8 (K : Option Value → sm_G → Prop) (J : Nat → sm_Lo → List Value → sm_G → Prop) (S : Nat → Nat → sm_Lo → List Value → sm_G → Prop) (cs : Nat → sm_SP) (Ls : Nat) (xs : Nat → Int32) (hW : sm_walk lay NL_law cs (some (Ls, xs)) 1 K J S) (hS0 : ∀ pc ls st g, S 0 pc ls st g = J pc ls st g)
    (c1 : cs 123 = spM sp_X9_length) (c2 : cs 179 = spM (spE sp_X10_length)) (i : Nat) (hi : i + 5 ≤ Ls) (hL : Ls ≤ 2560) (g : sm_G) (a b : Option Value) (hg : CP g g) (next : ∀ u, CP u u → J 1580 [some (.ref 1000), some (.ref 0), some (.ref 53), some (.ref 52), some (.int (nI i)), a, b] [] u) : J 672 [some (.ref 1000), some (.ref 0), some (.ref 53), some (.ref 52), some (.int (nI i)), a, b] [] g := by
  have hn := nl_8
  have hf := fd_all
  have ha := ar_all
  generalize NL_law = N at hn hW
  generalize lay = L at hf ha hW
  obtain ⟨hS, hR⟩ := hW
  by_cases hb : (xs (i + 1)).toInt = 0
  · apply hR 13
    simp (maxSteps := 10000000) (disch := omega) only [hS, hn, sm_eqs, hf, ha, sm_b0, Int.reduceToNat, ↓reduceIte, Nat.reduceEqDiff, true_and, and_true, List.length_nil, List.length_cons, Nat.reduceAdd, Nat.reduceLeDiff, Nat.zero_le, false_implies, true_implies, not_true_eq_false, not_false_eq_true, implies_true, Nat.reduceSub, Nat.reduceMul, Nat.reduceDiv, reduceCtorEq, tn_clamp, nI_t, tn_nI, nI_add, pk_mul, rS_gS, rS_gA, rS_gL, rA_gS, rA_gA, rA_gL, rL_gS, rL_gA, rL_gL, and_self, and_false, false_and, if_true, if_false, true_or, or_true, or_false, false_or, sm_in, eqI, sI_s, Int32.toInt_zero, Int.natCast_zero, Int.natCast_one, Int.cast_ofNat_Int, Int.reduceEq, Int.reduceLT, Int.reduceLE, Int.reduceNeg, Int.reduceNe, ne_eq, n_up, g_up, e_cat, fr_A, fr_O, fr_P, fr_L, hS0, c1, hb]
    repeat' (with_reducible refine And.intro ?_ ?_)
    all_goals (first | omega | skip)
    refine ⟨_, co_length _ _ g hg, fun v u hv => ?_⟩
    obtain ⟨x, rfl, hm⟩ := hv
    show J 696 [some (.ref 1000), some (.ref 0), some (.ref 53), some (.ref 52), some (.int (nI i)), a, b] [.int x] u
    apply hR 13
    simp (maxSteps := 10000000) (disch := omega) only [hS, hn, sm_eqs, hf, ha, sm_b0, Int.reduceToNat, ↓reduceIte, Nat.reduceEqDiff, true_and, and_true, List.length_nil, List.length_cons, Nat.reduceAdd, Nat.reduceLeDiff, Nat.zero_le, false_implies, true_implies, not_true_eq_false, not_false_eq_true, implies_true, Nat.reduceSub, Nat.reduceMul, Nat.reduceDiv, reduceCtorEq, tn_clamp, nI_t, tn_nI, nI_add, pk_mul, rS_gS, rS_gA, rS_gL, rA_gS, rA_gA, rA_gL, rL_gS, rL_gA, rL_gL, and_self, and_false, false_and, if_true, if_false, true_or, or_true, or_false, false_or, sm_in, eqI, sI_s, Int32.toInt_zero, Int.natCast_zero, Int.natCast_one, Int.cast_ofNat_Int, Int.reduceEq, Int.reduceLT, Int.reduceLE, Int.reduceNeg, Int.reduceNe, ne_eq, n_up, g_up, e_cat, fr_A, fr_O, fr_P, fr_L, hS0, c2, hb]
    repeat' (with_reducible refine And.intro ?_ ?_)
    all_goals (first | omega | skip)
    refine ⟨_, hm, fun v u2 hv => ?_⟩
    obtain ⟨rfl, hc⟩ := hv
    show J 720 [some (.ref 1000), some (.ref 0), some (.ref 53), some (.ref 52), some (.int (nI i)), a, b] [.int x, .int x] u2
    apply hR 0
    simp (maxSteps := 10000000) (disch := omega) only [hS, hn, sm_eqs, hf, ha, sm_b0, Int.reduceToNat, ↓reduceIte, Nat.reduceEqDiff, true_and, and_true, List.length_nil, List.length_cons, Nat.reduceAdd, Nat.reduceLeDiff, Nat.zero_le, false_implies, true_implies, not_true_eq_false, not_false_eq_true, implies_true, Nat.reduceSub, Nat.reduceMul, Nat.reduceDiv, reduceCtorEq, tn_clamp, nI_t, tn_nI, nI_add, pk_mul, rS_gS, rS_gA, rS_gL, rA_gS, rA_gA, rA_gL, rL_gS, rL_gA, rL_gL, and_self, and_false, false_and, if_true, if_false, true_or, or_true, or_false, false_or, sm_in, eqI, sI_s, Int32.toInt_zero, Int.natCast_zero, Int.natCast_one, Int.cast_ofNat_Int, Int.reduceEq, Int.reduceLT, Int.reduceLE, Int.reduceNeg, Int.reduceNe, ne_eq, n_up, g_up, e_cat, fr_A, fr_O, fr_P, fr_L, hS0]
    exact next u2 hc
  · apply hR 14
    simp (maxSteps := 10000000) (disch := omega) only [hS, hn, sm_eqs, hf, ha, sm_b0, Int.reduceToNat, ↓reduceIte, Nat.reduceEqDiff, true_and, and_true, List.length_nil, List.length_cons, Nat.reduceAdd, Nat.reduceLeDiff, Nat.zero_le, false_implies, true_implies, not_true_eq_false, not_false_eq_true, implies_true, Nat.reduceSub, Nat.reduceMul, Nat.reduceDiv, reduceCtorEq, tn_clamp, nI_t, tn_nI, nI_add, pk_mul, rS_gS, rS_gA, rS_gL, rA_gS, rA_gA, rA_gL, rL_gS, rL_gA, rL_gL, and_self, and_false, false_and, if_true, if_false, true_or, or_true, or_false, false_or, sm_in, eqI, sI_s, Int32.toInt_zero, Int.natCast_zero, Int.natCast_one, Int.cast_ofNat_Int, Int.reduceEq, Int.reduceLT, Int.reduceLE, Int.reduceNeg, Int.reduceNe, ne_eq, n_up, g_up, e_cat, fr_A, fr_O, fr_P, fr_L, hS0, c1, hb]
    repeat' (with_reducible refine And.intro ?_ ?_)
    all_goals (first | omega | skip)
    refine ⟨_, co_length _ _ g hg, fun v u hv => ?_⟩
    obtain ⟨x, rfl, hm⟩ := hv
    show J 696 [some (.ref 1000), some (.ref 0), some (.ref 53), some (.ref 52), some (.int (nI i)), a, b] [.int x] u
    apply hR 14
    simp (maxSteps := 10000000) (disch := omega) only [hS, hn, sm_eqs, hf, ha, sm_b0, Int.reduceToNat, ↓reduceIte, Nat.reduceEqDiff, true_and, and_true, List.length_nil, List.length_cons, Nat.reduceAdd, Nat.reduceLeDiff, Nat.zero_le, false_implies, true_implies, not_true_eq_false, not_false_eq_true, implies_true, Nat.reduceSub, Nat.reduceMul, Nat.reduceDiv, reduceCtorEq, tn_clamp, nI_t, tn_nI, nI_add, pk_mul, rS_gS, rS_gA, rS_gL, rA_gS, rA_gA, rA_gL, rL_gS, rL_gA, rL_gL, and_self, and_false, false_and, if_true, if_false, true_or, or_true, or_false, false_or, sm_in, eqI, sI_s, Int32.toInt_zero, Int.natCast_zero, Int.natCast_one, Int.cast_ofNat_Int, Int.reduceEq, Int.reduceLT, Int.reduceLE, Int.reduceNeg, Int.reduceNe, ne_eq, n_up, g_up, e_cat, fr_A, fr_O, fr_P, fr_L, hS0, c2, hb]
    repeat' (with_reducible refine And.intro ?_ ?_)
    all_goals (first | omega | skip)
    refine ⟨_, hm, fun v u2 hv => ?_⟩
    obtain ⟨rfl, hc⟩ := hv
    show J 720 [some (.ref 1000), some (.ref 0), some (.ref 53), some (.ref 52), some (.int (nI i)), a, b] [.int x, .int x] u2
    apply hR 0
    simp (maxSteps := 10000000) (disch := omega) only [hS, hn, sm_eqs, hf, ha, sm_b0, Int.reduceToNat, ↓reduceIte, Nat.reduceEqDiff, true_and, and_true, List.length_nil, List.length_cons, Nat.reduceAdd, Nat.reduceLeDiff, Nat.zero_le, false_implies, true_implies, not_true_eq_false, not_false_eq_true, implies_true, Nat.reduceSub, Nat.reduceMul, Nat.reduceDiv, reduceCtorEq, tn_clamp, nI_t, tn_nI, nI_add, pk_mul, rS_gS, rS_gA, rS_gL, rA_gS, rA_gA, rA_gL, rL_gS, rL_gA, rL_gL, and_self, and_false, false_and, if_true, if_false, true_or, or_true, or_false, false_or, sm_in, eqI, sI_s, Int32.toInt_zero, Int.natCast_zero, Int.natCast_one, Int.cast_ofNat_Int, Int.reduceEq, Int.reduceLT, Int.reduceLE, Int.reduceNeg, Int.reduceNe, ne_eq, n_up, g_up, e_cat, fr_A, fr_O, fr_P, fr_L, hS0]
    exact next u2 hc

theorem nl_9 : (NL_law 725 = some (.aload 1, 726, false) ∧ NL_law 726 = some (.aload 0, 727, false) ∧ NL_law 727 = some (.iload 4, 729, false) ∧ NL_law 729 = some (.ret 1, 730, false) ∧ NL_law 730 = some (.iadd, 731, false)) ∧ (NL_law 731 = some (.iaload, 732, false) ∧ NL_law 732 = some (.aload 0, 733, false) ∧ NL_law 733 = some (.iload 4, 735, false) ∧ NL_law 735 = some (.ret 2, 736, false) ∧ NL_law 736 = some (.iadd, 737, false)) ∧ (NL_law 737 = some (.iaload, 738, false) ∧ NL_law 738 = some (.invokeinterface 126 3, 741, false) ∧ NL_law 741 = some (.aload 2, 742, false) ∧ NL_law 742 = some (.aload 0, 743, false) ∧ NL_law 743 = some (.iload 4, 745, false)) ∧ (NL_law 745 = some (.ret 1, 746, false) ∧ NL_law 746 = some (.iadd, 747, false) ∧ NL_law 747 = some (.iaload, 748, false) ∧ NL_law 748 = some (.aload 0, 749, false) ∧ NL_law 749 = some (.iload 4, 751, false)) ∧ (NL_law 751 = some (.ret 2, 752, false) ∧ NL_law 752 = some (.iadd, 753, false) ∧ NL_law 753 = some (.iaload, 754, false) ∧ NL_law 754 = some (.invokeinterface 183 3, 757, false) ∧ NL_law 757 = some (.if_icmp .eq 1580, 760, false)) ∧ (NL_law 760 = some (.ret 0, 761, false) ∧ NL_law 761 = some (.ireturn, 762, false)) := ⟨by decide +kernel, by decide +kernel, by decide +kernel, by decide +kernel, by decide +kernel, by decide +kernel⟩
set_option maxHeartbeats 4000000 in
set_option maxRecDepth 100000 in
theorem op_9 (K : Option Value → sm_G → Prop) (J : Nat → sm_Lo → List Value → sm_G → Prop) (S : Nat → Nat → sm_Lo → List Value → sm_G → Prop) (cs : Nat → sm_SP) (Ls : Nat) (xs : Nat → Int32) (hW : sm_walk lay NL_law cs (some (Ls, xs)) 1 K J S) (hS0 : ∀ pc ls st g, S 0 pc ls st g = J pc ls st g)
    (c1 : cs 126 = spM sp_X9_fits) (c2 : cs 183 = spM (spE sp_X10_fits)) (i : Nat) (hi : i + 5 ≤ Ls) (hL : Ls ≤ 2560) (g : sm_G) (a b : Option Value) (hg : CP g g) (next : ∀ u, CP u u → J 1580 [some (.ref 1000), some (.ref 0), some (.ref 53), some (.ref 52), some (.int (nI i)), a, b] [] u) : J 725 [some (.ref 1000), some (.ref 0), some (.ref 53), some (.ref 52), some (.int (nI i)), a, b] [] g := by
  have hn := nl_9
  have hf := fd_all
  have ha := ar_all
  generalize NL_law = N at hn hW
  generalize lay = L at hf ha hW
  obtain ⟨hS, hR⟩ := hW
  apply hR 11
  simp (maxSteps := 10000000) (disch := omega) only [hS, hn, sm_eqs, hf, ha, sm_b0, Int.reduceToNat, ↓reduceIte, Nat.reduceEqDiff, true_and, and_true, List.length_nil, List.length_cons, Nat.reduceAdd, Nat.reduceLeDiff, Nat.zero_le, false_implies, true_implies, not_true_eq_false, not_false_eq_true, implies_true, Nat.reduceSub, Nat.reduceMul, Nat.reduceDiv, reduceCtorEq, tn_clamp, nI_t, tn_nI, nI_add, pk_mul, rS_gS, rS_gA, rS_gL, rA_gS, rA_gA, rA_gL, rL_gS, rL_gA, rL_gL, and_self, and_false, false_and, if_true, if_false, true_or, or_true, or_false, false_or, sm_in, eqI, sI_s, Int32.toInt_zero, Int.natCast_zero, Int.natCast_one, Int.cast_ofNat_Int, Int.reduceEq, Int.reduceLT, Int.reduceLE, Int.reduceNeg, Int.reduceNe, ne_eq, n_up, g_up, e_cat, fr_A, fr_O, fr_P, fr_L, hS0, c1]
  repeat' (with_reducible refine And.intro ?_ ?_)
  all_goals (first | omega | skip)
  refine ⟨_, co_fits _ _ g hg, fun v u hv => ?_⟩
  obtain ⟨x, rfl, hm⟩ := hv
  show J 741 [some (.ref 1000), some (.ref 0), some (.ref 53), some (.ref 52), some (.int (nI i)), a, b] [.int x] u
  apply hR 11
  simp (maxSteps := 10000000) (disch := omega) only [hS, hn, sm_eqs, hf, ha, sm_b0, Int.reduceToNat, ↓reduceIte, Nat.reduceEqDiff, true_and, and_true, List.length_nil, List.length_cons, Nat.reduceAdd, Nat.reduceLeDiff, Nat.zero_le, false_implies, true_implies, not_true_eq_false, not_false_eq_true, implies_true, Nat.reduceSub, Nat.reduceMul, Nat.reduceDiv, reduceCtorEq, tn_clamp, nI_t, tn_nI, nI_add, pk_mul, rS_gS, rS_gA, rS_gL, rA_gS, rA_gA, rA_gL, rL_gS, rL_gA, rL_gL, and_self, and_false, false_and, if_true, if_false, true_or, or_true, or_false, false_or, sm_in, eqI, sI_s, Int32.toInt_zero, Int.natCast_zero, Int.natCast_one, Int.cast_ofNat_Int, Int.reduceEq, Int.reduceLT, Int.reduceLE, Int.reduceNeg, Int.reduceNe, ne_eq, n_up, g_up, e_cat, fr_A, fr_O, fr_P, fr_L, hS0, c2]
  repeat' (with_reducible refine And.intro ?_ ?_)
  all_goals (first | omega | skip)
  refine ⟨_, hm, fun v u2 hv => ?_⟩
  obtain ⟨rfl, hc⟩ := hv
  show J 757 [some (.ref 1000), some (.ref 0), some (.ref 53), some (.ref 52), some (.int (nI i)), a, b] [.int x, .int x] u2
  apply hR 0
  simp (maxSteps := 10000000) (disch := omega) only [hS, hn, sm_eqs, hf, ha, sm_b0, Int.reduceToNat, ↓reduceIte, Nat.reduceEqDiff, true_and, and_true, List.length_nil, List.length_cons, Nat.reduceAdd, Nat.reduceLeDiff, Nat.zero_le, false_implies, true_implies, not_true_eq_false, not_false_eq_true, implies_true, Nat.reduceSub, Nat.reduceMul, Nat.reduceDiv, reduceCtorEq, tn_clamp, nI_t, tn_nI, nI_add, pk_mul, rS_gS, rS_gA, rS_gL, rA_gS, rA_gA, rA_gL, rL_gS, rL_gA, rL_gL, and_self, and_false, false_and, if_true, if_false, true_or, or_true, or_false, false_or, sm_in, eqI, sI_s, Int32.toInt_zero, Int.natCast_zero, Int.natCast_one, Int.cast_ofNat_Int, Int.reduceEq, Int.reduceLT, Int.reduceLE, Int.reduceNeg, Int.reduceNe, ne_eq, n_up, g_up, e_cat, fr_A, fr_O, fr_P, fr_L, hS0]
  exact next u2 hc

theorem nl_10 : (NL_law 762 = some (.aload 1, 763, false) ∧ NL_law 763 = some (.aload 0, 764, false) ∧ NL_law 764 = some (.iload 4, 766, false) ∧ NL_law 766 = some (.ret 1, 767, false) ∧ NL_law 767 = some (.iadd, 768, false)) ∧ (NL_law 768 = some (.iaload, 769, false) ∧ NL_law 769 = some (.aload 0, 770, false) ∧ NL_law 770 = some (.iload 4, 772, false) ∧ NL_law 772 = some (.ret 2, 773, false) ∧ NL_law 773 = some (.iadd, 774, false)) ∧ (NL_law 774 = some (.iaload, 775, false) ∧ NL_law 775 = some (.invokeinterface 127 3, 778, false) ∧ NL_law 778 = some (.aload 2, 779, false) ∧ NL_law 779 = some (.aload 0, 780, false) ∧ NL_law 780 = some (.iload 4, 782, false)) ∧ (NL_law 782 = some (.ret 1, 783, false) ∧ NL_law 783 = some (.iadd, 784, false) ∧ NL_law 784 = some (.iaload, 785, false) ∧ NL_law 785 = some (.aload 0, 786, false) ∧ NL_law 786 = some (.iload 4, 788, false)) ∧ (NL_law 788 = some (.ret 2, 789, false) ∧ NL_law 789 = some (.iadd, 790, false) ∧ NL_law 790 = some (.iaload, 791, false) ∧ NL_law 791 = some (.invokeinterface 184 3, 794, false) ∧ NL_law 794 = some (.if_icmp .eq 1580, 797, false)) ∧ (NL_law 797 = some (.ret 0, 798, false) ∧ NL_law 798 = some (.ireturn, 799, false)) := ⟨by decide +kernel, by decide +kernel, by decide +kernel, by decide +kernel, by decide +kernel, by decide +kernel⟩
set_option maxHeartbeats 4000000 in
set_option maxRecDepth 100000 in
theorem op_10 (K : Option Value → sm_G → Prop) (J : Nat → sm_Lo → List Value → sm_G → Prop) (S : Nat → Nat → sm_Lo → List Value → sm_G → Prop) (cs : Nat → sm_SP) (Ls : Nat) (xs : Nat → Int32) (hW : sm_walk lay NL_law cs (some (Ls, xs)) 1 K J S) (hS0 : ∀ pc ls st g, S 0 pc ls st g = J pc ls st g)
    (c1 : cs 127 = spM sp_X9_tells) (c2 : cs 184 = spM (spE sp_X10_tells)) (i : Nat) (hi : i + 5 ≤ Ls) (hL : Ls ≤ 2560) (g : sm_G) (a b : Option Value) (hg : CP g g) (next : ∀ u, CP u u → J 1580 [some (.ref 1000), some (.ref 0), some (.ref 53), some (.ref 52), some (.int (nI i)), a, b] [] u) : J 762 [some (.ref 1000), some (.ref 0), some (.ref 53), some (.ref 52), some (.int (nI i)), a, b] [] g := by
  have hn := nl_10
  have hf := fd_all
  have ha := ar_all
  generalize NL_law = N at hn hW
  generalize lay = L at hf ha hW
  obtain ⟨hS, hR⟩ := hW
  apply hR 11
  simp (maxSteps := 10000000) (disch := omega) only [hS, hn, sm_eqs, hf, ha, sm_b0, Int.reduceToNat, ↓reduceIte, Nat.reduceEqDiff, true_and, and_true, List.length_nil, List.length_cons, Nat.reduceAdd, Nat.reduceLeDiff, Nat.zero_le, false_implies, true_implies, not_true_eq_false, not_false_eq_true, implies_true, Nat.reduceSub, Nat.reduceMul, Nat.reduceDiv, reduceCtorEq, tn_clamp, nI_t, tn_nI, nI_add, pk_mul, rS_gS, rS_gA, rS_gL, rA_gS, rA_gA, rA_gL, rL_gS, rL_gA, rL_gL, and_self, and_false, false_and, if_true, if_false, true_or, or_true, or_false, false_or, sm_in, eqI, sI_s, Int32.toInt_zero, Int.natCast_zero, Int.natCast_one, Int.cast_ofNat_Int, Int.reduceEq, Int.reduceLT, Int.reduceLE, Int.reduceNeg, Int.reduceNe, ne_eq, n_up, g_up, e_cat, fr_A, fr_O, fr_P, fr_L, hS0, c1]
  repeat' (with_reducible refine And.intro ?_ ?_)
  all_goals (first | omega | skip)
  refine ⟨_, co_tells _ _ g hg, fun v u hv => ?_⟩
  obtain ⟨x, rfl, hm⟩ := hv
  show J 778 [some (.ref 1000), some (.ref 0), some (.ref 53), some (.ref 52), some (.int (nI i)), a, b] [.int x] u
  apply hR 11
  simp (maxSteps := 10000000) (disch := omega) only [hS, hn, sm_eqs, hf, ha, sm_b0, Int.reduceToNat, ↓reduceIte, Nat.reduceEqDiff, true_and, and_true, List.length_nil, List.length_cons, Nat.reduceAdd, Nat.reduceLeDiff, Nat.zero_le, false_implies, true_implies, not_true_eq_false, not_false_eq_true, implies_true, Nat.reduceSub, Nat.reduceMul, Nat.reduceDiv, reduceCtorEq, tn_clamp, nI_t, tn_nI, nI_add, pk_mul, rS_gS, rS_gA, rS_gL, rA_gS, rA_gA, rA_gL, rL_gS, rL_gA, rL_gL, and_self, and_false, false_and, if_true, if_false, true_or, or_true, or_false, false_or, sm_in, eqI, sI_s, Int32.toInt_zero, Int.natCast_zero, Int.natCast_one, Int.cast_ofNat_Int, Int.reduceEq, Int.reduceLT, Int.reduceLE, Int.reduceNeg, Int.reduceNe, ne_eq, n_up, g_up, e_cat, fr_A, fr_O, fr_P, fr_L, hS0, c2]
  repeat' (with_reducible refine And.intro ?_ ?_)
  all_goals (first | omega | skip)
  refine ⟨_, hm, fun v u2 hv => ?_⟩
  obtain ⟨rfl, hc⟩ := hv
  show J 794 [some (.ref 1000), some (.ref 0), some (.ref 53), some (.ref 52), some (.int (nI i)), a, b] [.int x, .int x] u2
  apply hR 0
  simp (maxSteps := 10000000) (disch := omega) only [hS, hn, sm_eqs, hf, ha, sm_b0, Int.reduceToNat, ↓reduceIte, Nat.reduceEqDiff, true_and, and_true, List.length_nil, List.length_cons, Nat.reduceAdd, Nat.reduceLeDiff, Nat.zero_le, false_implies, true_implies, not_true_eq_false, not_false_eq_true, implies_true, Nat.reduceSub, Nat.reduceMul, Nat.reduceDiv, reduceCtorEq, tn_clamp, nI_t, tn_nI, nI_add, pk_mul, rS_gS, rS_gA, rS_gL, rA_gS, rA_gA, rA_gL, rL_gS, rL_gA, rL_gL, and_self, and_false, false_and, if_true, if_false, true_or, or_true, or_false, false_or, sm_in, eqI, sI_s, Int32.toInt_zero, Int.natCast_zero, Int.natCast_one, Int.cast_ofNat_Int, Int.reduceEq, Int.reduceLT, Int.reduceLE, Int.reduceNeg, Int.reduceNe, ne_eq, n_up, g_up, e_cat, fr_A, fr_O, fr_P, fr_L, hS0]
  exact next u2 hc

theorem nl_11 : (NL_law 799 = some (.aload 1, 800, false) ∧ NL_law 800 = some (.aload 0, 801, false) ∧ NL_law 801 = some (.iload 4, 803, false) ∧ NL_law 803 = some (.ret 1, 804, false) ∧ NL_law 804 = some (.iadd, 805, false)) ∧ (NL_law 805 = some (.iaload, 806, false) ∧ NL_law 806 = some (.aload 0, 807, false) ∧ NL_law 807 = some (.iload 4, 809, false) ∧ NL_law 809 = some (.ret 2, 810, false) ∧ NL_law 810 = some (.iadd, 811, false)) ∧ (NL_law 811 = some (.iaload, 812, false) ∧ NL_law 812 = some (.invokeinterface 128 3, 815, false) ∧ NL_law 815 = some (.aload 2, 816, false) ∧ NL_law 816 = some (.aload 0, 817, false) ∧ NL_law 817 = some (.iload 4, 819, false)) ∧ (NL_law 819 = some (.ret 1, 820, false) ∧ NL_law 820 = some (.iadd, 821, false) ∧ NL_law 821 = some (.iaload, 822, false) ∧ NL_law 822 = some (.aload 0, 823, false) ∧ NL_law 823 = some (.iload 4, 825, false)) ∧ (NL_law 825 = some (.ret 2, 826, false) ∧ NL_law 826 = some (.iadd, 827, false) ∧ NL_law 827 = some (.iaload, 828, false) ∧ NL_law 828 = some (.invokeinterface 186 3, 831, false) ∧ NL_law 831 = some (.if_icmp .eq 1580, 834, false)) ∧ (NL_law 834 = some (.ret 0, 835, false) ∧ NL_law 835 = some (.ireturn, 836, false)) := ⟨by decide +kernel, by decide +kernel, by decide +kernel, by decide +kernel, by decide +kernel, by decide +kernel⟩
set_option maxHeartbeats 4000000 in
set_option maxRecDepth 100000 in
theorem op_11 (K : Option Value → sm_G → Prop) (J : Nat → sm_Lo → List Value → sm_G → Prop) (S : Nat → Nat → sm_Lo → List Value → sm_G → Prop) (cs : Nat → sm_SP) (Ls : Nat) (xs : Nat → Int32) (hW : sm_walk lay NL_law cs (some (Ls, xs)) 1 K J S) (hS0 : ∀ pc ls st g, S 0 pc ls st g = J pc ls st g)
    (c1 : cs 128 = spM sp_X9_strength) (c2 : cs 186 = spM (spE sp_X10_strength)) (i : Nat) (hi : i + 5 ≤ Ls) (hL : Ls ≤ 2560) (g : sm_G) (a b : Option Value) (hg : CP g g) (next : ∀ u, CP u u → J 1580 [some (.ref 1000), some (.ref 0), some (.ref 53), some (.ref 52), some (.int (nI i)), a, b] [] u) : J 799 [some (.ref 1000), some (.ref 0), some (.ref 53), some (.ref 52), some (.int (nI i)), a, b] [] g := by
  have hn := nl_11
  have hf := fd_all
  have ha := ar_all
  generalize NL_law = N at hn hW
  generalize lay = L at hf ha hW
  obtain ⟨hS, hR⟩ := hW
  apply hR 11
  simp (maxSteps := 10000000) (disch := omega) only [hS, hn, sm_eqs, hf, ha, sm_b0, Int.reduceToNat, ↓reduceIte, Nat.reduceEqDiff, true_and, and_true, List.length_nil, List.length_cons, Nat.reduceAdd, Nat.reduceLeDiff, Nat.zero_le, false_implies, true_implies, not_true_eq_false, not_false_eq_true, implies_true, Nat.reduceSub, Nat.reduceMul, Nat.reduceDiv, reduceCtorEq, tn_clamp, nI_t, tn_nI, nI_add, pk_mul, rS_gS, rS_gA, rS_gL, rA_gS, rA_gA, rA_gL, rL_gS, rL_gA, rL_gL, and_self, and_false, false_and, if_true, if_false, true_or, or_true, or_false, false_or, sm_in, eqI, sI_s, Int32.toInt_zero, Int.natCast_zero, Int.natCast_one, Int.cast_ofNat_Int, Int.reduceEq, Int.reduceLT, Int.reduceLE, Int.reduceNeg, Int.reduceNe, ne_eq, n_up, g_up, e_cat, fr_A, fr_O, fr_P, fr_L, hS0, c1]
  repeat' (with_reducible refine And.intro ?_ ?_)
  all_goals (first | omega | skip)
  refine ⟨_, co_strength _ _ g hg, fun v u hv => ?_⟩
  obtain ⟨x, rfl, hm⟩ := hv
  show J 815 [some (.ref 1000), some (.ref 0), some (.ref 53), some (.ref 52), some (.int (nI i)), a, b] [.int x] u
  apply hR 11
  simp (maxSteps := 10000000) (disch := omega) only [hS, hn, sm_eqs, hf, ha, sm_b0, Int.reduceToNat, ↓reduceIte, Nat.reduceEqDiff, true_and, and_true, List.length_nil, List.length_cons, Nat.reduceAdd, Nat.reduceLeDiff, Nat.zero_le, false_implies, true_implies, not_true_eq_false, not_false_eq_true, implies_true, Nat.reduceSub, Nat.reduceMul, Nat.reduceDiv, reduceCtorEq, tn_clamp, nI_t, tn_nI, nI_add, pk_mul, rS_gS, rS_gA, rS_gL, rA_gS, rA_gA, rA_gL, rL_gS, rL_gA, rL_gL, and_self, and_false, false_and, if_true, if_false, true_or, or_true, or_false, false_or, sm_in, eqI, sI_s, Int32.toInt_zero, Int.natCast_zero, Int.natCast_one, Int.cast_ofNat_Int, Int.reduceEq, Int.reduceLT, Int.reduceLE, Int.reduceNeg, Int.reduceNe, ne_eq, n_up, g_up, e_cat, fr_A, fr_O, fr_P, fr_L, hS0, c2]
  repeat' (with_reducible refine And.intro ?_ ?_)
  all_goals (first | omega | skip)
  refine ⟨_, hm, fun v u2 hv => ?_⟩
  obtain ⟨rfl, hc⟩ := hv
  show J 831 [some (.ref 1000), some (.ref 0), some (.ref 53), some (.ref 52), some (.int (nI i)), a, b] [.int x, .int x] u2
  apply hR 0
  simp (maxSteps := 10000000) (disch := omega) only [hS, hn, sm_eqs, hf, ha, sm_b0, Int.reduceToNat, ↓reduceIte, Nat.reduceEqDiff, true_and, and_true, List.length_nil, List.length_cons, Nat.reduceAdd, Nat.reduceLeDiff, Nat.zero_le, false_implies, true_implies, not_true_eq_false, not_false_eq_true, implies_true, Nat.reduceSub, Nat.reduceMul, Nat.reduceDiv, reduceCtorEq, tn_clamp, nI_t, tn_nI, nI_add, pk_mul, rS_gS, rS_gA, rS_gL, rA_gS, rA_gA, rA_gL, rL_gS, rL_gA, rL_gL, and_self, and_false, false_and, if_true, if_false, true_or, or_true, or_false, false_or, sm_in, eqI, sI_s, Int32.toInt_zero, Int.natCast_zero, Int.natCast_one, Int.cast_ofNat_Int, Int.reduceEq, Int.reduceLT, Int.reduceLE, Int.reduceNeg, Int.reduceNe, ne_eq, n_up, g_up, e_cat, fr_A, fr_O, fr_P, fr_L, hS0]
  exact next u2 hc

theorem nl_12 : (NL_law 836 = some (.aload 1, 837, false) ∧ NL_law 837 = some (.aload 0, 838, false) ∧ NL_law 838 = some (.iload 4, 840, false) ∧ NL_law 840 = some (.ret 1, 841, false) ∧ NL_law 841 = some (.iadd, 842, false)) ∧ (NL_law 842 = some (.iaload, 843, false) ∧ NL_law 843 = some (.invokeinterface 130 2, 846, false) ∧ NL_law 846 = some (.aload 2, 847, false) ∧ NL_law 847 = some (.aload 0, 848, false) ∧ NL_law 848 = some (.iload 4, 850, false)) ∧ (NL_law 850 = some (.ret 1, 851, false) ∧ NL_law 851 = some (.iadd, 852, false) ∧ NL_law 852 = some (.iaload, 853, false) ∧ NL_law 853 = some (.invokeinterface 188 2, 856, false) ∧ NL_law 856 = some (.if_icmp .eq 1580, 859, false)) ∧ (NL_law 859 = some (.ret 0, 860, false) ∧ NL_law 860 = some (.ireturn, 861, false)) := ⟨by decide +kernel, by decide +kernel, by decide +kernel, by decide +kernel⟩
set_option maxHeartbeats 4000000 in
set_option maxRecDepth 100000 in
theorem op_12 (K : Option Value → sm_G → Prop) (J : Nat → sm_Lo → List Value → sm_G → Prop) (S : Nat → Nat → sm_Lo → List Value → sm_G → Prop) (cs : Nat → sm_SP) (Ls : Nat) (xs : Nat → Int32) (hW : sm_walk lay NL_law cs (some (Ls, xs)) 1 K J S) (hS0 : ∀ pc ls st g, S 0 pc ls st g = J pc ls st g)
    (c1 : cs 130 = spM sp_X9_fitting) (c2 : cs 188 = spM (spE sp_X10_fitting)) (i : Nat) (hi : i + 5 ≤ Ls) (hL : Ls ≤ 2560) (g : sm_G) (a b : Option Value) (hg : CP g g) (next : ∀ u, CP u u → J 1580 [some (.ref 1000), some (.ref 0), some (.ref 53), some (.ref 52), some (.int (nI i)), a, b] [] u) : J 836 [some (.ref 1000), some (.ref 0), some (.ref 53), some (.ref 52), some (.int (nI i)), a, b] [] g := by
  have hn := nl_12
  have hf := fd_all
  have ha := ar_all
  generalize NL_law = N at hn hW
  generalize lay = L at hf ha hW
  obtain ⟨hS, hR⟩ := hW
  apply hR 6
  simp (maxSteps := 10000000) (disch := omega) only [hS, hn, sm_eqs, hf, ha, sm_b0, Int.reduceToNat, ↓reduceIte, Nat.reduceEqDiff, true_and, and_true, List.length_nil, List.length_cons, Nat.reduceAdd, Nat.reduceLeDiff, Nat.zero_le, false_implies, true_implies, not_true_eq_false, not_false_eq_true, implies_true, Nat.reduceSub, Nat.reduceMul, Nat.reduceDiv, reduceCtorEq, tn_clamp, nI_t, tn_nI, nI_add, pk_mul, rS_gS, rS_gA, rS_gL, rA_gS, rA_gA, rA_gL, rL_gS, rL_gA, rL_gL, and_self, and_false, false_and, if_true, if_false, true_or, or_true, or_false, false_or, sm_in, eqI, sI_s, Int32.toInt_zero, Int.natCast_zero, Int.natCast_one, Int.cast_ofNat_Int, Int.reduceEq, Int.reduceLT, Int.reduceLE, Int.reduceNeg, Int.reduceNe, ne_eq, n_up, g_up, e_cat, fr_A, fr_O, fr_P, fr_L, hS0, c1]
  repeat' (with_reducible refine And.intro ?_ ?_)
  all_goals (first | omega | skip)
  refine ⟨_, co_fitting _ g hg, fun v u hv => ?_⟩
  obtain ⟨x, rfl, hm⟩ := hv
  show J 846 [some (.ref 1000), some (.ref 0), some (.ref 53), some (.ref 52), some (.int (nI i)), a, b] [.int x] u
  apply hR 6
  simp (maxSteps := 10000000) (disch := omega) only [hS, hn, sm_eqs, hf, ha, sm_b0, Int.reduceToNat, ↓reduceIte, Nat.reduceEqDiff, true_and, and_true, List.length_nil, List.length_cons, Nat.reduceAdd, Nat.reduceLeDiff, Nat.zero_le, false_implies, true_implies, not_true_eq_false, not_false_eq_true, implies_true, Nat.reduceSub, Nat.reduceMul, Nat.reduceDiv, reduceCtorEq, tn_clamp, nI_t, tn_nI, nI_add, pk_mul, rS_gS, rS_gA, rS_gL, rA_gS, rA_gA, rA_gL, rL_gS, rL_gA, rL_gL, and_self, and_false, false_and, if_true, if_false, true_or, or_true, or_false, false_or, sm_in, eqI, sI_s, Int32.toInt_zero, Int.natCast_zero, Int.natCast_one, Int.cast_ofNat_Int, Int.reduceEq, Int.reduceLT, Int.reduceLE, Int.reduceNeg, Int.reduceNe, ne_eq, n_up, g_up, e_cat, fr_A, fr_O, fr_P, fr_L, hS0, c2]
  repeat' (with_reducible refine And.intro ?_ ?_)
  all_goals (first | omega | skip)
  refine ⟨_, hm, fun v u2 hv => ?_⟩
  obtain ⟨rfl, hc⟩ := hv
  show J 856 [some (.ref 1000), some (.ref 0), some (.ref 53), some (.ref 52), some (.int (nI i)), a, b] [.int x, .int x] u2
  apply hR 0
  simp (maxSteps := 10000000) (disch := omega) only [hS, hn, sm_eqs, hf, ha, sm_b0, Int.reduceToNat, ↓reduceIte, Nat.reduceEqDiff, true_and, and_true, List.length_nil, List.length_cons, Nat.reduceAdd, Nat.reduceLeDiff, Nat.zero_le, false_implies, true_implies, not_true_eq_false, not_false_eq_true, implies_true, Nat.reduceSub, Nat.reduceMul, Nat.reduceDiv, reduceCtorEq, tn_clamp, nI_t, tn_nI, nI_add, pk_mul, rS_gS, rS_gA, rS_gL, rA_gS, rA_gA, rA_gL, rL_gS, rL_gA, rL_gL, and_self, and_false, false_and, if_true, if_false, true_or, or_true, or_false, false_or, sm_in, eqI, sI_s, Int32.toInt_zero, Int.natCast_zero, Int.natCast_one, Int.cast_ofNat_Int, Int.reduceEq, Int.reduceLT, Int.reduceLE, Int.reduceNeg, Int.reduceNe, ne_eq, n_up, g_up, e_cat, fr_A, fr_O, fr_P, fr_L, hS0]
  exact next u2 hc

theorem nl_13 : (NL_law 861 = some (.aload 1, 862, false) ∧ NL_law 862 = some (.aload 0, 863, false) ∧ NL_law 863 = some (.iload 4, 865, false) ∧ NL_law 865 = some (.ret 1, 866, false) ∧ NL_law 866 = some (.iadd, 867, false)) ∧ (NL_law 867 = some (.iaload, 868, false) ∧ NL_law 868 = some (.aload 0, 869, false) ∧ NL_law 869 = some (.iload 4, 871, false) ∧ NL_law 871 = some (.ret 2, 872, false) ∧ NL_law 872 = some (.iadd, 873, false)) ∧ (NL_law 873 = some (.iaload, 874, false) ∧ NL_law 874 = some (.invokeinterface 131 3, 877, false) ∧ NL_law 877 = some (.aload 2, 878, false) ∧ NL_law 878 = some (.aload 0, 879, false) ∧ NL_law 879 = some (.iload 4, 881, false)) ∧ (NL_law 881 = some (.ret 1, 882, false) ∧ NL_law 882 = some (.iadd, 883, false) ∧ NL_law 883 = some (.iaload, 884, false) ∧ NL_law 884 = some (.aload 0, 885, false) ∧ NL_law 885 = some (.iload 4, 887, false)) ∧ (NL_law 887 = some (.ret 2, 888, false) ∧ NL_law 888 = some (.iadd, 889, false) ∧ NL_law 889 = some (.iaload, 890, false) ∧ NL_law 890 = some (.invokeinterface 189 3, 893, false) ∧ NL_law 893 = some (.if_icmp .eq 1580, 896, false)) ∧ (NL_law 896 = some (.ret 0, 897, false) ∧ NL_law 897 = some (.ireturn, 898, false)) := ⟨by decide +kernel, by decide +kernel, by decide +kernel, by decide +kernel, by decide +kernel, by decide +kernel⟩
set_option maxHeartbeats 4000000 in
set_option maxRecDepth 100000 in
theorem op_13 (K : Option Value → sm_G → Prop) (J : Nat → sm_Lo → List Value → sm_G → Prop) (S : Nat → Nat → sm_Lo → List Value → sm_G → Prop) (cs : Nat → sm_SP) (Ls : Nat) (xs : Nat → Int32) (hW : sm_walk lay NL_law cs (some (Ls, xs)) 1 K J S) (hS0 : ∀ pc ls st g, S 0 pc ls st g = J pc ls st g)
    (c1 : cs 131 = spM sp_X9_fit) (c2 : cs 189 = spM (spE sp_X10_fit)) (i : Nat) (hi : i + 5 ≤ Ls) (hL : Ls ≤ 2560) (g : sm_G) (a b : Option Value) (hg : CP g g) (next : ∀ u, CP u u → J 1580 [some (.ref 1000), some (.ref 0), some (.ref 53), some (.ref 52), some (.int (nI i)), a, b] [] u) : J 861 [some (.ref 1000), some (.ref 0), some (.ref 53), some (.ref 52), some (.int (nI i)), a, b] [] g := by
  have hn := nl_13
  have hf := fd_all
  have ha := ar_all
  generalize NL_law = N at hn hW
  generalize lay = L at hf ha hW
  obtain ⟨hS, hR⟩ := hW
  apply hR 11
  simp (maxSteps := 10000000) (disch := omega) only [hS, hn, sm_eqs, hf, ha, sm_b0, Int.reduceToNat, ↓reduceIte, Nat.reduceEqDiff, true_and, and_true, List.length_nil, List.length_cons, Nat.reduceAdd, Nat.reduceLeDiff, Nat.zero_le, false_implies, true_implies, not_true_eq_false, not_false_eq_true, implies_true, Nat.reduceSub, Nat.reduceMul, Nat.reduceDiv, reduceCtorEq, tn_clamp, nI_t, tn_nI, nI_add, pk_mul, rS_gS, rS_gA, rS_gL, rA_gS, rA_gA, rA_gL, rL_gS, rL_gA, rL_gL, and_self, and_false, false_and, if_true, if_false, true_or, or_true, or_false, false_or, sm_in, eqI, sI_s, Int32.toInt_zero, Int.natCast_zero, Int.natCast_one, Int.cast_ofNat_Int, Int.reduceEq, Int.reduceLT, Int.reduceLE, Int.reduceNeg, Int.reduceNe, ne_eq, n_up, g_up, e_cat, fr_A, fr_O, fr_P, fr_L, hS0, c1]
  repeat' (with_reducible refine And.intro ?_ ?_)
  all_goals (first | omega | skip)
  refine ⟨_, co_fit _ _ g hg, fun v u hv => ?_⟩
  obtain ⟨x, rfl, hm⟩ := hv
  show J 877 [some (.ref 1000), some (.ref 0), some (.ref 53), some (.ref 52), some (.int (nI i)), a, b] [.int x] u
  apply hR 11
  simp (maxSteps := 10000000) (disch := omega) only [hS, hn, sm_eqs, hf, ha, sm_b0, Int.reduceToNat, ↓reduceIte, Nat.reduceEqDiff, true_and, and_true, List.length_nil, List.length_cons, Nat.reduceAdd, Nat.reduceLeDiff, Nat.zero_le, false_implies, true_implies, not_true_eq_false, not_false_eq_true, implies_true, Nat.reduceSub, Nat.reduceMul, Nat.reduceDiv, reduceCtorEq, tn_clamp, nI_t, tn_nI, nI_add, pk_mul, rS_gS, rS_gA, rS_gL, rA_gS, rA_gA, rA_gL, rL_gS, rL_gA, rL_gL, and_self, and_false, false_and, if_true, if_false, true_or, or_true, or_false, false_or, sm_in, eqI, sI_s, Int32.toInt_zero, Int.natCast_zero, Int.natCast_one, Int.cast_ofNat_Int, Int.reduceEq, Int.reduceLT, Int.reduceLE, Int.reduceNeg, Int.reduceNe, ne_eq, n_up, g_up, e_cat, fr_A, fr_O, fr_P, fr_L, hS0, c2]
  repeat' (with_reducible refine And.intro ?_ ?_)
  all_goals (first | omega | skip)
  refine ⟨_, hm, fun v u2 hv => ?_⟩
  obtain ⟨rfl, hc⟩ := hv
  show J 893 [some (.ref 1000), some (.ref 0), some (.ref 53), some (.ref 52), some (.int (nI i)), a, b] [.int x, .int x] u2
  apply hR 0
  simp (maxSteps := 10000000) (disch := omega) only [hS, hn, sm_eqs, hf, ha, sm_b0, Int.reduceToNat, ↓reduceIte, Nat.reduceEqDiff, true_and, and_true, List.length_nil, List.length_cons, Nat.reduceAdd, Nat.reduceLeDiff, Nat.zero_le, false_implies, true_implies, not_true_eq_false, not_false_eq_true, implies_true, Nat.reduceSub, Nat.reduceMul, Nat.reduceDiv, reduceCtorEq, tn_clamp, nI_t, tn_nI, nI_add, pk_mul, rS_gS, rS_gA, rS_gL, rA_gS, rA_gA, rA_gL, rL_gS, rL_gA, rL_gL, and_self, and_false, false_and, if_true, if_false, true_or, or_true, or_false, false_or, sm_in, eqI, sI_s, Int32.toInt_zero, Int.natCast_zero, Int.natCast_one, Int.cast_ofNat_Int, Int.reduceEq, Int.reduceLT, Int.reduceLE, Int.reduceNeg, Int.reduceNe, ne_eq, n_up, g_up, e_cat, fr_A, fr_O, fr_P, fr_L, hS0]
  exact next u2 hc

theorem nl_14 : (NL_law 898 = some (.aload 1, 899, false) ∧ NL_law 899 = some (.aload 0, 900, false) ∧ NL_law 900 = some (.iload 4, 902, false) ∧ NL_law 902 = some (.ret 1, 903, false) ∧ NL_law 903 = some (.iadd, 904, false)) ∧ (NL_law 904 = some (.iaload, 905, false) ∧ NL_law 905 = some (.invokeinterface 133 2, 908, false) ∧ NL_law 908 = some (.aload 2, 909, false) ∧ NL_law 909 = some (.aload 0, 910, false) ∧ NL_law 910 = some (.iload 4, 912, false)) ∧ (NL_law 912 = some (.ret 1, 913, false) ∧ NL_law 913 = some (.iadd, 914, false) ∧ NL_law 914 = some (.iaload, 915, false) ∧ NL_law 915 = some (.invokeinterface 196 2, 918, false) ∧ NL_law 918 = some (.if_icmp .eq 1580, 921, false)) ∧ (NL_law 921 = some (.ret 0, 922, false) ∧ NL_law 922 = some (.ireturn, 923, false)) := ⟨by decide +kernel, by decide +kernel, by decide +kernel, by decide +kernel⟩
set_option maxHeartbeats 4000000 in
set_option maxRecDepth 100000 in
theorem op_14 (K : Option Value → sm_G → Prop) (J : Nat → sm_Lo → List Value → sm_G → Prop) (S : Nat → Nat → sm_Lo → List Value → sm_G → Prop) (cs : Nat → sm_SP) (Ls : Nat) (xs : Nat → Int32) (hW : sm_walk lay NL_law cs (some (Ls, xs)) 1 K J S) (hS0 : ∀ pc ls st g, S 0 pc ls st g = J pc ls st g)
    (c1 : cs 133 = spM sp_X9_best) (c2 : cs 196 = spM (spE sp_X10_best)) (i : Nat) (hi : i + 5 ≤ Ls) (hL : Ls ≤ 2560) (g : sm_G) (a b : Option Value) (hg : CP g g) (next : ∀ u, CP u u → J 1580 [some (.ref 1000), some (.ref 0), some (.ref 53), some (.ref 52), some (.int (nI i)), a, b] [] u) : J 898 [some (.ref 1000), some (.ref 0), some (.ref 53), some (.ref 52), some (.int (nI i)), a, b] [] g := by
  have hn := nl_14
  have hf := fd_all
  have ha := ar_all
  generalize NL_law = N at hn hW
  generalize lay = L at hf ha hW
  obtain ⟨hS, hR⟩ := hW
  apply hR 6
  simp (maxSteps := 10000000) (disch := omega) only [hS, hn, sm_eqs, hf, ha, sm_b0, Int.reduceToNat, ↓reduceIte, Nat.reduceEqDiff, true_and, and_true, List.length_nil, List.length_cons, Nat.reduceAdd, Nat.reduceLeDiff, Nat.zero_le, false_implies, true_implies, not_true_eq_false, not_false_eq_true, implies_true, Nat.reduceSub, Nat.reduceMul, Nat.reduceDiv, reduceCtorEq, tn_clamp, nI_t, tn_nI, nI_add, pk_mul, rS_gS, rS_gA, rS_gL, rA_gS, rA_gA, rA_gL, rL_gS, rL_gA, rL_gL, and_self, and_false, false_and, if_true, if_false, true_or, or_true, or_false, false_or, sm_in, eqI, sI_s, Int32.toInt_zero, Int.natCast_zero, Int.natCast_one, Int.cast_ofNat_Int, Int.reduceEq, Int.reduceLT, Int.reduceLE, Int.reduceNeg, Int.reduceNe, ne_eq, n_up, g_up, e_cat, fr_A, fr_O, fr_P, fr_L, hS0, c1]
  repeat' (with_reducible refine And.intro ?_ ?_)
  all_goals (first | omega | skip)
  refine ⟨_, co_best _ g hg, fun v u hv => ?_⟩
  obtain ⟨x, rfl, hm⟩ := hv
  show J 908 [some (.ref 1000), some (.ref 0), some (.ref 53), some (.ref 52), some (.int (nI i)), a, b] [.int x] u
  apply hR 6
  simp (maxSteps := 10000000) (disch := omega) only [hS, hn, sm_eqs, hf, ha, sm_b0, Int.reduceToNat, ↓reduceIte, Nat.reduceEqDiff, true_and, and_true, List.length_nil, List.length_cons, Nat.reduceAdd, Nat.reduceLeDiff, Nat.zero_le, false_implies, true_implies, not_true_eq_false, not_false_eq_true, implies_true, Nat.reduceSub, Nat.reduceMul, Nat.reduceDiv, reduceCtorEq, tn_clamp, nI_t, tn_nI, nI_add, pk_mul, rS_gS, rS_gA, rS_gL, rA_gS, rA_gA, rA_gL, rL_gS, rL_gA, rL_gL, and_self, and_false, false_and, if_true, if_false, true_or, or_true, or_false, false_or, sm_in, eqI, sI_s, Int32.toInt_zero, Int.natCast_zero, Int.natCast_one, Int.cast_ofNat_Int, Int.reduceEq, Int.reduceLT, Int.reduceLE, Int.reduceNeg, Int.reduceNe, ne_eq, n_up, g_up, e_cat, fr_A, fr_O, fr_P, fr_L, hS0, c2]
  repeat' (with_reducible refine And.intro ?_ ?_)
  all_goals (first | omega | skip)
  refine ⟨_, hm, fun v u2 hv => ?_⟩
  obtain ⟨rfl, hc⟩ := hv
  show J 918 [some (.ref 1000), some (.ref 0), some (.ref 53), some (.ref 52), some (.int (nI i)), a, b] [.int x, .int x] u2
  apply hR 0
  simp (maxSteps := 10000000) (disch := omega) only [hS, hn, sm_eqs, hf, ha, sm_b0, Int.reduceToNat, ↓reduceIte, Nat.reduceEqDiff, true_and, and_true, List.length_nil, List.length_cons, Nat.reduceAdd, Nat.reduceLeDiff, Nat.zero_le, false_implies, true_implies, not_true_eq_false, not_false_eq_true, implies_true, Nat.reduceSub, Nat.reduceMul, Nat.reduceDiv, reduceCtorEq, tn_clamp, nI_t, tn_nI, nI_add, pk_mul, rS_gS, rS_gA, rS_gL, rA_gS, rA_gA, rA_gL, rL_gS, rL_gA, rL_gL, and_self, and_false, false_and, if_true, if_false, true_or, or_true, or_false, false_or, sm_in, eqI, sI_s, Int32.toInt_zero, Int.natCast_zero, Int.natCast_one, Int.cast_ofNat_Int, Int.reduceEq, Int.reduceLT, Int.reduceLE, Int.reduceNeg, Int.reduceNe, ne_eq, n_up, g_up, e_cat, fr_A, fr_O, fr_P, fr_L, hS0]
  exact next u2 hc

theorem nl_15 : (NL_law 923 = some (.aload 1, 924, false) ∧ NL_law 924 = some (.aload 0, 925, false) ∧ NL_law 925 = some (.iload 4, 927, false) ∧ NL_law 927 = some (.ret 1, 928, false) ∧ NL_law 928 = some (.iadd, 929, false)) ∧ (NL_law 929 = some (.iaload, 930, false) ∧ NL_law 930 = some (.invokeinterface 134 2, 933, false) ∧ NL_law 933 = some (.aload 2, 934, false) ∧ NL_law 934 = some (.aload 0, 935, false) ∧ NL_law 935 = some (.iload 4, 937, false)) ∧ (NL_law 937 = some (.ret 1, 938, false) ∧ NL_law 938 = some (.iadd, 939, false) ∧ NL_law 939 = some (.iaload, 940, false) ∧ NL_law 940 = some (.invokeinterface 197 2, 943, false) ∧ NL_law 943 = some (.if_icmp .eq 1580, 946, false)) ∧ (NL_law 946 = some (.ret 0, 947, false) ∧ NL_law 947 = some (.ireturn, 948, false)) := ⟨by decide +kernel, by decide +kernel, by decide +kernel, by decide +kernel⟩
set_option maxHeartbeats 4000000 in
set_option maxRecDepth 100000 in
theorem op_15 (K : Option Value → sm_G → Prop) (J : Nat → sm_Lo → List Value → sm_G → Prop) (S : Nat → Nat → sm_Lo → List Value → sm_G → Prop) (cs : Nat → sm_SP) (Ls : Nat) (xs : Nat → Int32) (hW : sm_walk lay NL_law cs (some (Ls, xs)) 1 K J S) (hS0 : ∀ pc ls st g, S 0 pc ls st g = J pc ls st g)
    (c1 : cs 134 = spM sp_X9_sum) (c2 : cs 197 = spM (spE sp_X10_sum)) (i : Nat) (hi : i + 5 ≤ Ls) (hL : Ls ≤ 2560) (g : sm_G) (a b : Option Value) (hg : CP g g) (next : ∀ u, CP u u → J 1580 [some (.ref 1000), some (.ref 0), some (.ref 53), some (.ref 52), some (.int (nI i)), a, b] [] u) : J 923 [some (.ref 1000), some (.ref 0), some (.ref 53), some (.ref 52), some (.int (nI i)), a, b] [] g := by
  have hn := nl_15
  have hf := fd_all
  have ha := ar_all
  generalize NL_law = N at hn hW
  generalize lay = L at hf ha hW
  obtain ⟨hS, hR⟩ := hW
  apply hR 6
  simp (maxSteps := 10000000) (disch := omega) only [hS, hn, sm_eqs, hf, ha, sm_b0, Int.reduceToNat, ↓reduceIte, Nat.reduceEqDiff, true_and, and_true, List.length_nil, List.length_cons, Nat.reduceAdd, Nat.reduceLeDiff, Nat.zero_le, false_implies, true_implies, not_true_eq_false, not_false_eq_true, implies_true, Nat.reduceSub, Nat.reduceMul, Nat.reduceDiv, reduceCtorEq, tn_clamp, nI_t, tn_nI, nI_add, pk_mul, rS_gS, rS_gA, rS_gL, rA_gS, rA_gA, rA_gL, rL_gS, rL_gA, rL_gL, and_self, and_false, false_and, if_true, if_false, true_or, or_true, or_false, false_or, sm_in, eqI, sI_s, Int32.toInt_zero, Int.natCast_zero, Int.natCast_one, Int.cast_ofNat_Int, Int.reduceEq, Int.reduceLT, Int.reduceLE, Int.reduceNeg, Int.reduceNe, ne_eq, n_up, g_up, e_cat, fr_A, fr_O, fr_P, fr_L, hS0, c1]
  repeat' (with_reducible refine And.intro ?_ ?_)
  all_goals (first | omega | skip)
  refine ⟨_, co_sum _ g hg, fun v u hv => ?_⟩
  obtain ⟨x, rfl, hm⟩ := hv
  show J 933 [some (.ref 1000), some (.ref 0), some (.ref 53), some (.ref 52), some (.int (nI i)), a, b] [.int x] u
  apply hR 6
  simp (maxSteps := 10000000) (disch := omega) only [hS, hn, sm_eqs, hf, ha, sm_b0, Int.reduceToNat, ↓reduceIte, Nat.reduceEqDiff, true_and, and_true, List.length_nil, List.length_cons, Nat.reduceAdd, Nat.reduceLeDiff, Nat.zero_le, false_implies, true_implies, not_true_eq_false, not_false_eq_true, implies_true, Nat.reduceSub, Nat.reduceMul, Nat.reduceDiv, reduceCtorEq, tn_clamp, nI_t, tn_nI, nI_add, pk_mul, rS_gS, rS_gA, rS_gL, rA_gS, rA_gA, rA_gL, rL_gS, rL_gA, rL_gL, and_self, and_false, false_and, if_true, if_false, true_or, or_true, or_false, false_or, sm_in, eqI, sI_s, Int32.toInt_zero, Int.natCast_zero, Int.natCast_one, Int.cast_ofNat_Int, Int.reduceEq, Int.reduceLT, Int.reduceLE, Int.reduceNeg, Int.reduceNe, ne_eq, n_up, g_up, e_cat, fr_A, fr_O, fr_P, fr_L, hS0, c2]
  repeat' (with_reducible refine And.intro ?_ ?_)
  all_goals (first | omega | skip)
  refine ⟨_, hm, fun v u2 hv => ?_⟩
  obtain ⟨rfl, hc⟩ := hv
  show J 943 [some (.ref 1000), some (.ref 0), some (.ref 53), some (.ref 52), some (.int (nI i)), a, b] [.int x, .int x] u2
  apply hR 0
  simp (maxSteps := 10000000) (disch := omega) only [hS, hn, sm_eqs, hf, ha, sm_b0, Int.reduceToNat, ↓reduceIte, Nat.reduceEqDiff, true_and, and_true, List.length_nil, List.length_cons, Nat.reduceAdd, Nat.reduceLeDiff, Nat.zero_le, false_implies, true_implies, not_true_eq_false, not_false_eq_true, implies_true, Nat.reduceSub, Nat.reduceMul, Nat.reduceDiv, reduceCtorEq, tn_clamp, nI_t, tn_nI, nI_add, pk_mul, rS_gS, rS_gA, rS_gL, rA_gS, rA_gA, rA_gL, rL_gS, rL_gA, rL_gL, and_self, and_false, false_and, if_true, if_false, true_or, or_true, or_false, false_or, sm_in, eqI, sI_s, Int32.toInt_zero, Int.natCast_zero, Int.natCast_one, Int.cast_ofNat_Int, Int.reduceEq, Int.reduceLT, Int.reduceLE, Int.reduceNeg, Int.reduceNe, ne_eq, n_up, g_up, e_cat, fr_A, fr_O, fr_P, fr_L, hS0]
  exact next u2 hc

theorem nl_16 : (NL_law 948 = some (.aload 1, 949, false) ∧ NL_law 949 = some (.aload 0, 950, false) ∧ NL_law 950 = some (.iload 4, 952, false) ∧ NL_law 952 = some (.ret 1, 953, false) ∧ NL_law 953 = some (.iadd, 954, false)) ∧ (NL_law 954 = some (.iaload, 955, false) ∧ NL_law 955 = some (.invokeinterface 135 2, 958, false) ∧ NL_law 958 = some (.aload 2, 959, false) ∧ NL_law 959 = some (.aload 0, 960, false) ∧ NL_law 960 = some (.iload 4, 962, false)) ∧ (NL_law 962 = some (.ret 1, 963, false) ∧ NL_law 963 = some (.iadd, 964, false) ∧ NL_law 964 = some (.iaload, 965, false) ∧ NL_law 965 = some (.invokeinterface 198 2, 968, false) ∧ NL_law 968 = some (.if_icmp .eq 1580, 971, false)) ∧ (NL_law 971 = some (.ret 0, 972, false) ∧ NL_law 972 = some (.ireturn, 973, false)) := ⟨by decide +kernel, by decide +kernel, by decide +kernel, by decide +kernel⟩
set_option maxHeartbeats 4000000 in
set_option maxRecDepth 100000 in
theorem op_16 (K : Option Value → sm_G → Prop) (J : Nat → sm_Lo → List Value → sm_G → Prop) (S : Nat → Nat → sm_Lo → List Value → sm_G → Prop) (cs : Nat → sm_SP) (Ls : Nat) (xs : Nat → Int32) (hW : sm_walk lay NL_law cs (some (Ls, xs)) 1 K J S) (hS0 : ∀ pc ls st g, S 0 pc ls st g = J pc ls st g)
    (c1 : cs 135 = spM sp_X9_also) (c2 : cs 198 = spM (spE sp_X10_also)) (i : Nat) (hi : i + 5 ≤ Ls) (hL : Ls ≤ 2560) (g : sm_G) (a b : Option Value) (hg : CP g g) (next : ∀ u, CP u u → J 1580 [some (.ref 1000), some (.ref 0), some (.ref 53), some (.ref 52), some (.int (nI i)), a, b] [] u) : J 948 [some (.ref 1000), some (.ref 0), some (.ref 53), some (.ref 52), some (.int (nI i)), a, b] [] g := by
  have hn := nl_16
  have hf := fd_all
  have ha := ar_all
  generalize NL_law = N at hn hW
  generalize lay = L at hf ha hW
  obtain ⟨hS, hR⟩ := hW
  apply hR 6
  simp (maxSteps := 10000000) (disch := omega) only [hS, hn, sm_eqs, hf, ha, sm_b0, Int.reduceToNat, ↓reduceIte, Nat.reduceEqDiff, true_and, and_true, List.length_nil, List.length_cons, Nat.reduceAdd, Nat.reduceLeDiff, Nat.zero_le, false_implies, true_implies, not_true_eq_false, not_false_eq_true, implies_true, Nat.reduceSub, Nat.reduceMul, Nat.reduceDiv, reduceCtorEq, tn_clamp, nI_t, tn_nI, nI_add, pk_mul, rS_gS, rS_gA, rS_gL, rA_gS, rA_gA, rA_gL, rL_gS, rL_gA, rL_gL, and_self, and_false, false_and, if_true, if_false, true_or, or_true, or_false, false_or, sm_in, eqI, sI_s, Int32.toInt_zero, Int.natCast_zero, Int.natCast_one, Int.cast_ofNat_Int, Int.reduceEq, Int.reduceLT, Int.reduceLE, Int.reduceNeg, Int.reduceNe, ne_eq, n_up, g_up, e_cat, fr_A, fr_O, fr_P, fr_L, hS0, c1]
  repeat' (with_reducible refine And.intro ?_ ?_)
  all_goals (first | omega | skip)
  refine ⟨_, co_also _ g hg, fun v u hv => ?_⟩
  obtain ⟨x, rfl, hm⟩ := hv
  show J 958 [some (.ref 1000), some (.ref 0), some (.ref 53), some (.ref 52), some (.int (nI i)), a, b] [.int x] u
  apply hR 6
  simp (maxSteps := 10000000) (disch := omega) only [hS, hn, sm_eqs, hf, ha, sm_b0, Int.reduceToNat, ↓reduceIte, Nat.reduceEqDiff, true_and, and_true, List.length_nil, List.length_cons, Nat.reduceAdd, Nat.reduceLeDiff, Nat.zero_le, false_implies, true_implies, not_true_eq_false, not_false_eq_true, implies_true, Nat.reduceSub, Nat.reduceMul, Nat.reduceDiv, reduceCtorEq, tn_clamp, nI_t, tn_nI, nI_add, pk_mul, rS_gS, rS_gA, rS_gL, rA_gS, rA_gA, rA_gL, rL_gS, rL_gA, rL_gL, and_self, and_false, false_and, if_true, if_false, true_or, or_true, or_false, false_or, sm_in, eqI, sI_s, Int32.toInt_zero, Int.natCast_zero, Int.natCast_one, Int.cast_ofNat_Int, Int.reduceEq, Int.reduceLT, Int.reduceLE, Int.reduceNeg, Int.reduceNe, ne_eq, n_up, g_up, e_cat, fr_A, fr_O, fr_P, fr_L, hS0, c2]
  repeat' (with_reducible refine And.intro ?_ ?_)
  all_goals (first | omega | skip)
  refine ⟨_, hm, fun v u2 hv => ?_⟩
  obtain ⟨rfl, hc⟩ := hv
  show J 968 [some (.ref 1000), some (.ref 0), some (.ref 53), some (.ref 52), some (.int (nI i)), a, b] [.int x, .int x] u2
  apply hR 0
  simp (maxSteps := 10000000) (disch := omega) only [hS, hn, sm_eqs, hf, ha, sm_b0, Int.reduceToNat, ↓reduceIte, Nat.reduceEqDiff, true_and, and_true, List.length_nil, List.length_cons, Nat.reduceAdd, Nat.reduceLeDiff, Nat.zero_le, false_implies, true_implies, not_true_eq_false, not_false_eq_true, implies_true, Nat.reduceSub, Nat.reduceMul, Nat.reduceDiv, reduceCtorEq, tn_clamp, nI_t, tn_nI, nI_add, pk_mul, rS_gS, rS_gA, rS_gL, rA_gS, rA_gA, rA_gL, rL_gS, rL_gA, rL_gL, and_self, and_false, false_and, if_true, if_false, true_or, or_true, or_false, false_or, sm_in, eqI, sI_s, Int32.toInt_zero, Int.natCast_zero, Int.natCast_one, Int.cast_ofNat_Int, Int.reduceEq, Int.reduceLT, Int.reduceLE, Int.reduceNeg, Int.reduceNe, ne_eq, n_up, g_up, e_cat, fr_A, fr_O, fr_P, fr_L, hS0]
  exact next u2 hc

theorem nl_17 : (NL_law 973 = some (.aload 1, 974, false) ∧ NL_law 974 = some (.aload 0, 975, false) ∧ NL_law 975 = some (.iload 4, 977, false) ∧ NL_law 977 = some (.ret 1, 978, false) ∧ NL_law 978 = some (.iadd, 979, false)) ∧ (NL_law 979 = some (.iaload, 980, false) ∧ NL_law 980 = some (.aload 0, 981, false) ∧ NL_law 981 = some (.iload 4, 983, false) ∧ NL_law 983 = some (.ret 2, 984, false) ∧ NL_law 984 = some (.iadd, 985, false)) ∧ (NL_law 985 = some (.iaload, 986, false) ∧ NL_law 986 = some (.invokeinterface 137 3, 989, false) ∧ NL_law 989 = some (.aload 2, 990, false) ∧ NL_law 990 = some (.aload 0, 991, false) ∧ NL_law 991 = some (.iload 4, 993, false)) ∧ (NL_law 993 = some (.ret 1, 994, false) ∧ NL_law 994 = some (.iadd, 995, false) ∧ NL_law 995 = some (.iaload, 996, false) ∧ NL_law 996 = some (.aload 0, 997, false) ∧ NL_law 997 = some (.iload 4, 999, false)) ∧ (NL_law 999 = some (.ret 2, 1000, false) ∧ NL_law 1000 = some (.iadd, 1001, false) ∧ NL_law 1001 = some (.iaload, 1002, false) ∧ NL_law 1002 = some (.invokeinterface 199 3, 1005, false) ∧ NL_law 1005 = some (.if_icmp .eq 1580, 1008, false)) ∧ (NL_law 1008 = some (.ret 0, 1009, false) ∧ NL_law 1009 = some (.ireturn, 1010, false)) := ⟨by decide +kernel, by decide +kernel, by decide +kernel, by decide +kernel, by decide +kernel, by decide +kernel⟩
set_option maxHeartbeats 4000000 in
set_option maxRecDepth 100000 in
theorem op_17 (K : Option Value → sm_G → Prop) (J : Nat → sm_Lo → List Value → sm_G → Prop) (S : Nat → Nat → sm_Lo → List Value → sm_G → Prop) (cs : Nat → sm_SP) (Ls : Nat) (xs : Nat → Int32) (hW : sm_walk lay NL_law cs (some (Ls, xs)) 1 K J S) (hS0 : ∀ pc ls st g, S 0 pc ls st g = J pc ls st g)
    (c1 : cs 137 = spM sp_X9_group) (c2 : cs 199 = spM (spE sp_X10_group)) (i : Nat) (hi : i + 5 ≤ Ls) (hL : Ls ≤ 2560) (g : sm_G) (a b : Option Value) (hg : CP g g) (next : ∀ u, CP u u → J 1580 [some (.ref 1000), some (.ref 0), some (.ref 53), some (.ref 52), some (.int (nI i)), a, b] [] u) : J 973 [some (.ref 1000), some (.ref 0), some (.ref 53), some (.ref 52), some (.int (nI i)), a, b] [] g := by
  have hn := nl_17
  have hf := fd_all
  have ha := ar_all
  generalize NL_law = N at hn hW
  generalize lay = L at hf ha hW
  obtain ⟨hS, hR⟩ := hW
  apply hR 11
  simp (maxSteps := 10000000) (disch := omega) only [hS, hn, sm_eqs, hf, ha, sm_b0, Int.reduceToNat, ↓reduceIte, Nat.reduceEqDiff, true_and, and_true, List.length_nil, List.length_cons, Nat.reduceAdd, Nat.reduceLeDiff, Nat.zero_le, false_implies, true_implies, not_true_eq_false, not_false_eq_true, implies_true, Nat.reduceSub, Nat.reduceMul, Nat.reduceDiv, reduceCtorEq, tn_clamp, nI_t, tn_nI, nI_add, pk_mul, rS_gS, rS_gA, rS_gL, rA_gS, rA_gA, rA_gL, rL_gS, rL_gA, rL_gL, and_self, and_false, false_and, if_true, if_false, true_or, or_true, or_false, false_or, sm_in, eqI, sI_s, Int32.toInt_zero, Int.natCast_zero, Int.natCast_one, Int.cast_ofNat_Int, Int.reduceEq, Int.reduceLT, Int.reduceLE, Int.reduceNeg, Int.reduceNe, ne_eq, n_up, g_up, e_cat, fr_A, fr_O, fr_P, fr_L, hS0, c1]
  repeat' (with_reducible refine And.intro ?_ ?_)
  all_goals (first | omega | skip)
  refine ⟨_, co_group _ _ g hg, fun v u hv => ?_⟩
  obtain ⟨x, rfl, hm⟩ := hv
  show J 989 [some (.ref 1000), some (.ref 0), some (.ref 53), some (.ref 52), some (.int (nI i)), a, b] [.int x] u
  apply hR 11
  simp (maxSteps := 10000000) (disch := omega) only [hS, hn, sm_eqs, hf, ha, sm_b0, Int.reduceToNat, ↓reduceIte, Nat.reduceEqDiff, true_and, and_true, List.length_nil, List.length_cons, Nat.reduceAdd, Nat.reduceLeDiff, Nat.zero_le, false_implies, true_implies, not_true_eq_false, not_false_eq_true, implies_true, Nat.reduceSub, Nat.reduceMul, Nat.reduceDiv, reduceCtorEq, tn_clamp, nI_t, tn_nI, nI_add, pk_mul, rS_gS, rS_gA, rS_gL, rA_gS, rA_gA, rA_gL, rL_gS, rL_gA, rL_gL, and_self, and_false, false_and, if_true, if_false, true_or, or_true, or_false, false_or, sm_in, eqI, sI_s, Int32.toInt_zero, Int.natCast_zero, Int.natCast_one, Int.cast_ofNat_Int, Int.reduceEq, Int.reduceLT, Int.reduceLE, Int.reduceNeg, Int.reduceNe, ne_eq, n_up, g_up, e_cat, fr_A, fr_O, fr_P, fr_L, hS0, c2]
  repeat' (with_reducible refine And.intro ?_ ?_)
  all_goals (first | omega | skip)
  refine ⟨_, hm, fun v u2 hv => ?_⟩
  obtain ⟨rfl, hc⟩ := hv
  show J 1005 [some (.ref 1000), some (.ref 0), some (.ref 53), some (.ref 52), some (.int (nI i)), a, b] [.int x, .int x] u2
  apply hR 0
  simp (maxSteps := 10000000) (disch := omega) only [hS, hn, sm_eqs, hf, ha, sm_b0, Int.reduceToNat, ↓reduceIte, Nat.reduceEqDiff, true_and, and_true, List.length_nil, List.length_cons, Nat.reduceAdd, Nat.reduceLeDiff, Nat.zero_le, false_implies, true_implies, not_true_eq_false, not_false_eq_true, implies_true, Nat.reduceSub, Nat.reduceMul, Nat.reduceDiv, reduceCtorEq, tn_clamp, nI_t, tn_nI, nI_add, pk_mul, rS_gS, rS_gA, rS_gL, rA_gS, rA_gA, rA_gL, rL_gS, rL_gA, rL_gL, and_self, and_false, false_and, if_true, if_false, true_or, or_true, or_false, false_or, sm_in, eqI, sI_s, Int32.toInt_zero, Int.natCast_zero, Int.natCast_one, Int.cast_ofNat_Int, Int.reduceEq, Int.reduceLT, Int.reduceLE, Int.reduceNeg, Int.reduceNe, ne_eq, n_up, g_up, e_cat, fr_A, fr_O, fr_P, fr_L, hS0]
  exact next u2 hc

theorem nl_18 : (NL_law 1010 = some (.aload 1, 1011, false) ∧ NL_law 1011 = some (.aload 0, 1012, false) ∧ NL_law 1012 = some (.iload 4, 1014, false) ∧ NL_law 1014 = some (.ret 1, 1015, false) ∧ NL_law 1015 = some (.iadd, 1016, false)) ∧ (NL_law 1016 = some (.iaload, 1017, false) ∧ NL_law 1017 = some (.aload 0, 1018, false) ∧ NL_law 1018 = some (.iload 4, 1020, false) ∧ NL_law 1020 = some (.ret 2, 1021, false) ∧ NL_law 1021 = some (.iadd, 1022, false)) ∧ (NL_law 1022 = some (.iaload, 1023, false) ∧ NL_law 1023 = some (.invokeinterface 138 3, 1026, false) ∧ NL_law 1026 = some (.aload 2, 1027, false) ∧ NL_law 1027 = some (.aload 0, 1028, false) ∧ NL_law 1028 = some (.iload 4, 1030, false)) ∧ (NL_law 1030 = some (.ret 1, 1031, false) ∧ NL_law 1031 = some (.iadd, 1032, false) ∧ NL_law 1032 = some (.iaload, 1033, false) ∧ NL_law 1033 = some (.aload 0, 1034, false) ∧ NL_law 1034 = some (.iload 4, 1036, false)) ∧ (NL_law 1036 = some (.ret 2, 1037, false) ∧ NL_law 1037 = some (.iadd, 1038, false) ∧ NL_law 1038 = some (.iaload, 1039, false) ∧ NL_law 1039 = some (.invokeinterface 200 3, 1042, false) ∧ NL_law 1042 = some (.if_icmp .eq 1580, 1045, false)) ∧ (NL_law 1045 = some (.ret 0, 1046, false) ∧ NL_law 1046 = some (.ireturn, 1047, false)) := ⟨by decide +kernel, by decide +kernel, by decide +kernel, by decide +kernel, by decide +kernel, by decide +kernel⟩
set_option maxHeartbeats 4000000 in
set_option maxRecDepth 100000 in
theorem op_18 (K : Option Value → sm_G → Prop) (J : Nat → sm_Lo → List Value → sm_G → Prop) (S : Nat → Nat → sm_Lo → List Value → sm_G → Prop) (cs : Nat → sm_SP) (Ls : Nat) (xs : Nat → Int32) (hW : sm_walk lay NL_law cs (some (Ls, xs)) 1 K J S) (hS0 : ∀ pc ls st g, S 0 pc ls st g = J pc ls st g)
    (c1 : cs 138 = spM sp_X9_like) (c2 : cs 200 = spM (spE sp_X10_like)) (i : Nat) (hi : i + 5 ≤ Ls) (hL : Ls ≤ 2560) (g : sm_G) (a b : Option Value) (hg : CP g g) (next : ∀ u, CP u u → J 1580 [some (.ref 1000), some (.ref 0), some (.ref 53), some (.ref 52), some (.int (nI i)), a, b] [] u) : J 1010 [some (.ref 1000), some (.ref 0), some (.ref 53), some (.ref 52), some (.int (nI i)), a, b] [] g := by
  have hn := nl_18
  have hf := fd_all
  have ha := ar_all
  generalize NL_law = N at hn hW
  generalize lay = L at hf ha hW
  obtain ⟨hS, hR⟩ := hW
  apply hR 11
  simp (maxSteps := 10000000) (disch := omega) only [hS, hn, sm_eqs, hf, ha, sm_b0, Int.reduceToNat, ↓reduceIte, Nat.reduceEqDiff, true_and, and_true, List.length_nil, List.length_cons, Nat.reduceAdd, Nat.reduceLeDiff, Nat.zero_le, false_implies, true_implies, not_true_eq_false, not_false_eq_true, implies_true, Nat.reduceSub, Nat.reduceMul, Nat.reduceDiv, reduceCtorEq, tn_clamp, nI_t, tn_nI, nI_add, pk_mul, rS_gS, rS_gA, rS_gL, rA_gS, rA_gA, rA_gL, rL_gS, rL_gA, rL_gL, and_self, and_false, false_and, if_true, if_false, true_or, or_true, or_false, false_or, sm_in, eqI, sI_s, Int32.toInt_zero, Int.natCast_zero, Int.natCast_one, Int.cast_ofNat_Int, Int.reduceEq, Int.reduceLT, Int.reduceLE, Int.reduceNeg, Int.reduceNe, ne_eq, n_up, g_up, e_cat, fr_A, fr_O, fr_P, fr_L, hS0, c1]
  repeat' (with_reducible refine And.intro ?_ ?_)
  all_goals (first | omega | skip)
  refine ⟨_, co_like _ _ g hg, fun v u hv => ?_⟩
  obtain ⟨x, rfl, hm⟩ := hv
  show J 1026 [some (.ref 1000), some (.ref 0), some (.ref 53), some (.ref 52), some (.int (nI i)), a, b] [.int x] u
  apply hR 11
  simp (maxSteps := 10000000) (disch := omega) only [hS, hn, sm_eqs, hf, ha, sm_b0, Int.reduceToNat, ↓reduceIte, Nat.reduceEqDiff, true_and, and_true, List.length_nil, List.length_cons, Nat.reduceAdd, Nat.reduceLeDiff, Nat.zero_le, false_implies, true_implies, not_true_eq_false, not_false_eq_true, implies_true, Nat.reduceSub, Nat.reduceMul, Nat.reduceDiv, reduceCtorEq, tn_clamp, nI_t, tn_nI, nI_add, pk_mul, rS_gS, rS_gA, rS_gL, rA_gS, rA_gA, rA_gL, rL_gS, rL_gA, rL_gL, and_self, and_false, false_and, if_true, if_false, true_or, or_true, or_false, false_or, sm_in, eqI, sI_s, Int32.toInt_zero, Int.natCast_zero, Int.natCast_one, Int.cast_ofNat_Int, Int.reduceEq, Int.reduceLT, Int.reduceLE, Int.reduceNeg, Int.reduceNe, ne_eq, n_up, g_up, e_cat, fr_A, fr_O, fr_P, fr_L, hS0, c2]
  repeat' (with_reducible refine And.intro ?_ ?_)
  all_goals (first | omega | skip)
  refine ⟨_, hm, fun v u2 hv => ?_⟩
  obtain ⟨rfl, hc⟩ := hv
  show J 1042 [some (.ref 1000), some (.ref 0), some (.ref 53), some (.ref 52), some (.int (nI i)), a, b] [.int x, .int x] u2
  apply hR 0
  simp (maxSteps := 10000000) (disch := omega) only [hS, hn, sm_eqs, hf, ha, sm_b0, Int.reduceToNat, ↓reduceIte, Nat.reduceEqDiff, true_and, and_true, List.length_nil, List.length_cons, Nat.reduceAdd, Nat.reduceLeDiff, Nat.zero_le, false_implies, true_implies, not_true_eq_false, not_false_eq_true, implies_true, Nat.reduceSub, Nat.reduceMul, Nat.reduceDiv, reduceCtorEq, tn_clamp, nI_t, tn_nI, nI_add, pk_mul, rS_gS, rS_gA, rS_gL, rA_gS, rA_gA, rA_gL, rL_gS, rL_gA, rL_gL, and_self, and_false, false_and, if_true, if_false, true_or, or_true, or_false, false_or, sm_in, eqI, sI_s, Int32.toInt_zero, Int.natCast_zero, Int.natCast_one, Int.cast_ofNat_Int, Int.reduceEq, Int.reduceLT, Int.reduceLE, Int.reduceNeg, Int.reduceNe, ne_eq, n_up, g_up, e_cat, fr_A, fr_O, fr_P, fr_L, hS0]
  exact next u2 hc

theorem nl_19 : (NL_law 1047 = some (.aload 1, 1048, false) ∧ NL_law 1048 = some (.aload 0, 1049, false) ∧ NL_law 1049 = some (.iload 4, 1051, false) ∧ NL_law 1051 = some (.ret 1, 1052, false) ∧ NL_law 1052 = some (.iadd, 1053, false)) ∧ (NL_law 1053 = some (.iaload, 1054, false) ∧ NL_law 1054 = some (.aload 0, 1055, false) ∧ NL_law 1055 = some (.iload 4, 1057, false) ∧ NL_law 1057 = some (.ret 2, 1058, false) ∧ NL_law 1058 = some (.iadd, 1059, false)) ∧ (NL_law 1059 = some (.iaload, 1060, false) ∧ NL_law 1060 = some (.invokeinterface 139 3, 1063, false) ∧ NL_law 1063 = some (.aload 2, 1064, false) ∧ NL_law 1064 = some (.aload 0, 1065, false) ∧ NL_law 1065 = some (.iload 4, 1067, false)) ∧ (NL_law 1067 = some (.ret 1, 1068, false) ∧ NL_law 1068 = some (.iadd, 1069, false) ∧ NL_law 1069 = some (.iaload, 1070, false) ∧ NL_law 1070 = some (.aload 0, 1071, false) ∧ NL_law 1071 = some (.iload 4, 1073, false)) ∧ (NL_law 1073 = some (.ret 2, 1074, false) ∧ NL_law 1074 = some (.iadd, 1075, false) ∧ NL_law 1075 = some (.iaload, 1076, false) ∧ NL_law 1076 = some (.invokeinterface 203 3, 1079, false) ∧ NL_law 1079 = some (.if_icmp .eq 1580, 1082, false)) ∧ (NL_law 1082 = some (.ret 0, 1083, false) ∧ NL_law 1083 = some (.ireturn, 1084, false)) := ⟨by decide +kernel, by decide +kernel, by decide +kernel, by decide +kernel, by decide +kernel, by decide +kernel⟩
set_option maxHeartbeats 4000000 in
set_option maxRecDepth 100000 in
theorem op_19 (K : Option Value → sm_G → Prop) (J : Nat → sm_Lo → List Value → sm_G → Prop) (S : Nat → Nat → sm_Lo → List Value → sm_G → Prop) (cs : Nat → sm_SP) (Ls : Nat) (xs : Nat → Int32) (hW : sm_walk lay NL_law cs (some (Ls, xs)) 1 K J S) (hS0 : ∀ pc ls st g, S 0 pc ls st g = J pc ls st g)
    (c1 : cs 139 = spM sp_X9_parts) (c2 : cs 203 = spM (spE sp_X10_parts)) (i : Nat) (hi : i + 5 ≤ Ls) (hL : Ls ≤ 2560) (g : sm_G) (a b : Option Value) (hg : CP g g) (next : ∀ u, CP u u → J 1580 [some (.ref 1000), some (.ref 0), some (.ref 53), some (.ref 52), some (.int (nI i)), a, b] [] u) : J 1047 [some (.ref 1000), some (.ref 0), some (.ref 53), some (.ref 52), some (.int (nI i)), a, b] [] g := by
  have hn := nl_19
  have hf := fd_all
  have ha := ar_all
  generalize NL_law = N at hn hW
  generalize lay = L at hf ha hW
  obtain ⟨hS, hR⟩ := hW
  apply hR 11
  simp (maxSteps := 10000000) (disch := omega) only [hS, hn, sm_eqs, hf, ha, sm_b0, Int.reduceToNat, ↓reduceIte, Nat.reduceEqDiff, true_and, and_true, List.length_nil, List.length_cons, Nat.reduceAdd, Nat.reduceLeDiff, Nat.zero_le, false_implies, true_implies, not_true_eq_false, not_false_eq_true, implies_true, Nat.reduceSub, Nat.reduceMul, Nat.reduceDiv, reduceCtorEq, tn_clamp, nI_t, tn_nI, nI_add, pk_mul, rS_gS, rS_gA, rS_gL, rA_gS, rA_gA, rA_gL, rL_gS, rL_gA, rL_gL, and_self, and_false, false_and, if_true, if_false, true_or, or_true, or_false, false_or, sm_in, eqI, sI_s, Int32.toInt_zero, Int.natCast_zero, Int.natCast_one, Int.cast_ofNat_Int, Int.reduceEq, Int.reduceLT, Int.reduceLE, Int.reduceNeg, Int.reduceNe, ne_eq, n_up, g_up, e_cat, fr_A, fr_O, fr_P, fr_L, hS0, c1]
  repeat' (with_reducible refine And.intro ?_ ?_)
  all_goals (first | omega | skip)
  refine ⟨_, co_parts _ _ g hg, fun v u hv => ?_⟩
  obtain ⟨x, rfl, hm⟩ := hv
  show J 1063 [some (.ref 1000), some (.ref 0), some (.ref 53), some (.ref 52), some (.int (nI i)), a, b] [.int x] u
  apply hR 11
  simp (maxSteps := 10000000) (disch := omega) only [hS, hn, sm_eqs, hf, ha, sm_b0, Int.reduceToNat, ↓reduceIte, Nat.reduceEqDiff, true_and, and_true, List.length_nil, List.length_cons, Nat.reduceAdd, Nat.reduceLeDiff, Nat.zero_le, false_implies, true_implies, not_true_eq_false, not_false_eq_true, implies_true, Nat.reduceSub, Nat.reduceMul, Nat.reduceDiv, reduceCtorEq, tn_clamp, nI_t, tn_nI, nI_add, pk_mul, rS_gS, rS_gA, rS_gL, rA_gS, rA_gA, rA_gL, rL_gS, rL_gA, rL_gL, and_self, and_false, false_and, if_true, if_false, true_or, or_true, or_false, false_or, sm_in, eqI, sI_s, Int32.toInt_zero, Int.natCast_zero, Int.natCast_one, Int.cast_ofNat_Int, Int.reduceEq, Int.reduceLT, Int.reduceLE, Int.reduceNeg, Int.reduceNe, ne_eq, n_up, g_up, e_cat, fr_A, fr_O, fr_P, fr_L, hS0, c2]
  repeat' (with_reducible refine And.intro ?_ ?_)
  all_goals (first | omega | skip)
  refine ⟨_, hm, fun v u2 hv => ?_⟩
  obtain ⟨rfl, hc⟩ := hv
  show J 1079 [some (.ref 1000), some (.ref 0), some (.ref 53), some (.ref 52), some (.int (nI i)), a, b] [.int x, .int x] u2
  apply hR 0
  simp (maxSteps := 10000000) (disch := omega) only [hS, hn, sm_eqs, hf, ha, sm_b0, Int.reduceToNat, ↓reduceIte, Nat.reduceEqDiff, true_and, and_true, List.length_nil, List.length_cons, Nat.reduceAdd, Nat.reduceLeDiff, Nat.zero_le, false_implies, true_implies, not_true_eq_false, not_false_eq_true, implies_true, Nat.reduceSub, Nat.reduceMul, Nat.reduceDiv, reduceCtorEq, tn_clamp, nI_t, tn_nI, nI_add, pk_mul, rS_gS, rS_gA, rS_gL, rA_gS, rA_gA, rA_gL, rL_gS, rL_gA, rL_gL, and_self, and_false, false_and, if_true, if_false, true_or, or_true, or_false, false_or, sm_in, eqI, sI_s, Int32.toInt_zero, Int.natCast_zero, Int.natCast_one, Int.cast_ofNat_Int, Int.reduceEq, Int.reduceLT, Int.reduceLE, Int.reduceNeg, Int.reduceNe, ne_eq, n_up, g_up, e_cat, fr_A, fr_O, fr_P, fr_L, hS0]
  exact next u2 hc

theorem nl_20 : (NL_law 1084 = some (.aload 1, 1085, false) ∧ NL_law 1085 = some (.aload 0, 1086, false) ∧ NL_law 1086 = some (.iload 4, 1088, false) ∧ NL_law 1088 = some (.ret 1, 1089, false) ∧ NL_law 1089 = some (.iadd, 1090, false)) ∧ (NL_law 1090 = some (.iaload, 1091, false) ∧ NL_law 1091 = some (.invokeinterface 140 2, 1094, false) ∧ NL_law 1094 = some (.aload 2, 1095, false) ∧ NL_law 1095 = some (.aload 0, 1096, false) ∧ NL_law 1096 = some (.iload 4, 1098, false)) ∧ (NL_law 1098 = some (.ret 1, 1099, false) ∧ NL_law 1099 = some (.iadd, 1100, false) ∧ NL_law 1100 = some (.iaload, 1101, false) ∧ NL_law 1101 = some (.invokeinterface 204 2, 1104, false) ∧ NL_law 1104 = some (.if_icmp .eq 1580, 1107, false)) ∧ (NL_law 1107 = some (.ret 0, 1108, false) ∧ NL_law 1108 = some (.ireturn, 1109, false)) := ⟨by decide +kernel, by decide +kernel, by decide +kernel, by decide +kernel⟩
set_option maxHeartbeats 4000000 in
set_option maxRecDepth 100000 in
theorem op_20 (K : Option Value → sm_G → Prop) (J : Nat → sm_Lo → List Value → sm_G → Prop) (S : Nat → Nat → sm_Lo → List Value → sm_G → Prop) (cs : Nat → sm_SP) (Ls : Nat) (xs : Nat → Int32) (hW : sm_walk lay NL_law cs (some (Ls, xs)) 1 K J S) (hS0 : ∀ pc ls st g, S 0 pc ls st g = J pc ls st g)
    (c1 : cs 140 = spM sp_X9_ask) (c2 : cs 204 = spM (spE sp_X10_ask)) (i : Nat) (hi : i + 5 ≤ Ls) (hL : Ls ≤ 2560) (g : sm_G) (a b : Option Value) (hg : CP g g) (next : ∀ u, CP u u → J 1580 [some (.ref 1000), some (.ref 0), some (.ref 53), some (.ref 52), some (.int (nI i)), a, b] [] u) : J 1084 [some (.ref 1000), some (.ref 0), some (.ref 53), some (.ref 52), some (.int (nI i)), a, b] [] g := by
  have hn := nl_20
  have hf := fd_all
  have ha := ar_all
  generalize NL_law = N at hn hW
  generalize lay = L at hf ha hW
  obtain ⟨hS, hR⟩ := hW
  apply hR 6
  simp (maxSteps := 10000000) (disch := omega) only [hS, hn, sm_eqs, hf, ha, sm_b0, Int.reduceToNat, ↓reduceIte, Nat.reduceEqDiff, true_and, and_true, List.length_nil, List.length_cons, Nat.reduceAdd, Nat.reduceLeDiff, Nat.zero_le, false_implies, true_implies, not_true_eq_false, not_false_eq_true, implies_true, Nat.reduceSub, Nat.reduceMul, Nat.reduceDiv, reduceCtorEq, tn_clamp, nI_t, tn_nI, nI_add, pk_mul, rS_gS, rS_gA, rS_gL, rA_gS, rA_gA, rA_gL, rL_gS, rL_gA, rL_gL, and_self, and_false, false_and, if_true, if_false, true_or, or_true, or_false, false_or, sm_in, eqI, sI_s, Int32.toInt_zero, Int.natCast_zero, Int.natCast_one, Int.cast_ofNat_Int, Int.reduceEq, Int.reduceLT, Int.reduceLE, Int.reduceNeg, Int.reduceNe, ne_eq, n_up, g_up, e_cat, fr_A, fr_O, fr_P, fr_L, hS0, c1]
  repeat' (with_reducible refine And.intro ?_ ?_)
  all_goals (first | omega | skip)
  refine ⟨_, co_ask _ g hg, fun v u hv => ?_⟩
  obtain ⟨x, rfl, hm⟩ := hv
  show J 1094 [some (.ref 1000), some (.ref 0), some (.ref 53), some (.ref 52), some (.int (nI i)), a, b] [.int x] u
  apply hR 6
  simp (maxSteps := 10000000) (disch := omega) only [hS, hn, sm_eqs, hf, ha, sm_b0, Int.reduceToNat, ↓reduceIte, Nat.reduceEqDiff, true_and, and_true, List.length_nil, List.length_cons, Nat.reduceAdd, Nat.reduceLeDiff, Nat.zero_le, false_implies, true_implies, not_true_eq_false, not_false_eq_true, implies_true, Nat.reduceSub, Nat.reduceMul, Nat.reduceDiv, reduceCtorEq, tn_clamp, nI_t, tn_nI, nI_add, pk_mul, rS_gS, rS_gA, rS_gL, rA_gS, rA_gA, rA_gL, rL_gS, rL_gA, rL_gL, and_self, and_false, false_and, if_true, if_false, true_or, or_true, or_false, false_or, sm_in, eqI, sI_s, Int32.toInt_zero, Int.natCast_zero, Int.natCast_one, Int.cast_ofNat_Int, Int.reduceEq, Int.reduceLT, Int.reduceLE, Int.reduceNeg, Int.reduceNe, ne_eq, n_up, g_up, e_cat, fr_A, fr_O, fr_P, fr_L, hS0, c2]
  repeat' (with_reducible refine And.intro ?_ ?_)
  all_goals (first | omega | skip)
  refine ⟨_, hm, fun v u2 hv => ?_⟩
  obtain ⟨rfl, hc⟩ := hv
  show J 1104 [some (.ref 1000), some (.ref 0), some (.ref 53), some (.ref 52), some (.int (nI i)), a, b] [.int x, .int x] u2
  apply hR 0
  simp (maxSteps := 10000000) (disch := omega) only [hS, hn, sm_eqs, hf, ha, sm_b0, Int.reduceToNat, ↓reduceIte, Nat.reduceEqDiff, true_and, and_true, List.length_nil, List.length_cons, Nat.reduceAdd, Nat.reduceLeDiff, Nat.zero_le, false_implies, true_implies, not_true_eq_false, not_false_eq_true, implies_true, Nat.reduceSub, Nat.reduceMul, Nat.reduceDiv, reduceCtorEq, tn_clamp, nI_t, tn_nI, nI_add, pk_mul, rS_gS, rS_gA, rS_gL, rA_gS, rA_gA, rA_gL, rL_gS, rL_gA, rL_gL, and_self, and_false, false_and, if_true, if_false, true_or, or_true, or_false, false_or, sm_in, eqI, sI_s, Int32.toInt_zero, Int.natCast_zero, Int.natCast_one, Int.cast_ofNat_Int, Int.reduceEq, Int.reduceLT, Int.reduceLE, Int.reduceNeg, Int.reduceNe, ne_eq, n_up, g_up, e_cat, fr_A, fr_O, fr_P, fr_L, hS0]
  exact next u2 hc

theorem nl_21 : (NL_law 1109 = some (.aload 1, 1110, false) ∧ NL_law 1110 = some (.aload 0, 1111, false) ∧ NL_law 1111 = some (.iload 4, 1113, false) ∧ NL_law 1113 = some (.ret 1, 1114, false) ∧ NL_law 1114 = some (.iadd, 1115, false)) ∧ (NL_law 1115 = some (.iaload, 1116, false) ∧ NL_law 1116 = some (.invokeinterface 141 2, 1119, false) ∧ NL_law 1119 = some (.aload 2, 1120, false) ∧ NL_law 1120 = some (.aload 0, 1121, false) ∧ NL_law 1121 = some (.iload 4, 1123, false)) ∧ (NL_law 1123 = some (.ret 1, 1124, false) ∧ NL_law 1124 = some (.iadd, 1125, false) ∧ NL_law 1125 = some (.iaload, 1126, false) ∧ NL_law 1126 = some (.invokeinterface 207 2, 1129, false) ∧ NL_law 1129 = some (.if_icmp .eq 1580, 1132, false)) ∧ (NL_law 1132 = some (.ret 0, 1133, false) ∧ NL_law 1133 = some (.ireturn, 1134, false)) := ⟨by decide +kernel, by decide +kernel, by decide +kernel, by decide +kernel⟩
set_option maxHeartbeats 4000000 in
set_option maxRecDepth 100000 in
theorem op_21 (K : Option Value → sm_G → Prop) (J : Nat → sm_Lo → List Value → sm_G → Prop) (S : Nat → Nat → sm_Lo → List Value → sm_G → Prop) (cs : Nat → sm_SP) (Ls : Nat) (xs : Nat → Int32) (hW : sm_walk lay NL_law cs (some (Ls, xs)) 1 K J S) (hS0 : ∀ pc ls st g, S 0 pc ls st g = J pc ls st g)
    (c1 : cs 141 = spM sp_X9_fewest) (c2 : cs 207 = spM (spE sp_X10_fewest)) (i : Nat) (hi : i + 5 ≤ Ls) (hL : Ls ≤ 2560) (g : sm_G) (a b : Option Value) (hg : CP g g) (next : ∀ u, CP u u → J 1580 [some (.ref 1000), some (.ref 0), some (.ref 53), some (.ref 52), some (.int (nI i)), a, b] [] u) : J 1109 [some (.ref 1000), some (.ref 0), some (.ref 53), some (.ref 52), some (.int (nI i)), a, b] [] g := by
  have hn := nl_21
  have hf := fd_all
  have ha := ar_all
  generalize NL_law = N at hn hW
  generalize lay = L at hf ha hW
  obtain ⟨hS, hR⟩ := hW
  apply hR 6
  simp (maxSteps := 10000000) (disch := omega) only [hS, hn, sm_eqs, hf, ha, sm_b0, Int.reduceToNat, ↓reduceIte, Nat.reduceEqDiff, true_and, and_true, List.length_nil, List.length_cons, Nat.reduceAdd, Nat.reduceLeDiff, Nat.zero_le, false_implies, true_implies, not_true_eq_false, not_false_eq_true, implies_true, Nat.reduceSub, Nat.reduceMul, Nat.reduceDiv, reduceCtorEq, tn_clamp, nI_t, tn_nI, nI_add, pk_mul, rS_gS, rS_gA, rS_gL, rA_gS, rA_gA, rA_gL, rL_gS, rL_gA, rL_gL, and_self, and_false, false_and, if_true, if_false, true_or, or_true, or_false, false_or, sm_in, eqI, sI_s, Int32.toInt_zero, Int.natCast_zero, Int.natCast_one, Int.cast_ofNat_Int, Int.reduceEq, Int.reduceLT, Int.reduceLE, Int.reduceNeg, Int.reduceNe, ne_eq, n_up, g_up, e_cat, fr_A, fr_O, fr_P, fr_L, hS0, c1]
  repeat' (with_reducible refine And.intro ?_ ?_)
  all_goals (first | omega | skip)
  refine ⟨_, co_fewest _ g hg, fun v u hv => ?_⟩
  obtain ⟨x, rfl, hm⟩ := hv
  show J 1119 [some (.ref 1000), some (.ref 0), some (.ref 53), some (.ref 52), some (.int (nI i)), a, b] [.int x] u
  apply hR 6
  simp (maxSteps := 10000000) (disch := omega) only [hS, hn, sm_eqs, hf, ha, sm_b0, Int.reduceToNat, ↓reduceIte, Nat.reduceEqDiff, true_and, and_true, List.length_nil, List.length_cons, Nat.reduceAdd, Nat.reduceLeDiff, Nat.zero_le, false_implies, true_implies, not_true_eq_false, not_false_eq_true, implies_true, Nat.reduceSub, Nat.reduceMul, Nat.reduceDiv, reduceCtorEq, tn_clamp, nI_t, tn_nI, nI_add, pk_mul, rS_gS, rS_gA, rS_gL, rA_gS, rA_gA, rA_gL, rL_gS, rL_gA, rL_gL, and_self, and_false, false_and, if_true, if_false, true_or, or_true, or_false, false_or, sm_in, eqI, sI_s, Int32.toInt_zero, Int.natCast_zero, Int.natCast_one, Int.cast_ofNat_Int, Int.reduceEq, Int.reduceLT, Int.reduceLE, Int.reduceNeg, Int.reduceNe, ne_eq, n_up, g_up, e_cat, fr_A, fr_O, fr_P, fr_L, hS0, c2]
  repeat' (with_reducible refine And.intro ?_ ?_)
  all_goals (first | omega | skip)
  refine ⟨_, hm, fun v u2 hv => ?_⟩
  obtain ⟨rfl, hc⟩ := hv
  show J 1129 [some (.ref 1000), some (.ref 0), some (.ref 53), some (.ref 52), some (.int (nI i)), a, b] [.int x, .int x] u2
  apply hR 0
  simp (maxSteps := 10000000) (disch := omega) only [hS, hn, sm_eqs, hf, ha, sm_b0, Int.reduceToNat, ↓reduceIte, Nat.reduceEqDiff, true_and, and_true, List.length_nil, List.length_cons, Nat.reduceAdd, Nat.reduceLeDiff, Nat.zero_le, false_implies, true_implies, not_true_eq_false, not_false_eq_true, implies_true, Nat.reduceSub, Nat.reduceMul, Nat.reduceDiv, reduceCtorEq, tn_clamp, nI_t, tn_nI, nI_add, pk_mul, rS_gS, rS_gA, rS_gL, rA_gS, rA_gA, rA_gL, rL_gS, rL_gA, rL_gL, and_self, and_false, false_and, if_true, if_false, true_or, or_true, or_false, false_or, sm_in, eqI, sI_s, Int32.toInt_zero, Int.natCast_zero, Int.natCast_one, Int.cast_ofNat_Int, Int.reduceEq, Int.reduceLT, Int.reduceLE, Int.reduceNeg, Int.reduceNe, ne_eq, n_up, g_up, e_cat, fr_A, fr_O, fr_P, fr_L, hS0]
  exact next u2 hc

theorem nl_22 : (NL_law 1134 = some (.aload 1, 1135, false) ∧ NL_law 1135 = some (.aload 0, 1136, false) ∧ NL_law 1136 = some (.iload 4, 1138, false) ∧ NL_law 1138 = some (.ret 1, 1139, false) ∧ NL_law 1139 = some (.iadd, 1140, false)) ∧ (NL_law 1140 = some (.iaload, 1141, false) ∧ NL_law 1141 = some (.aload 0, 1142, false) ∧ NL_law 1142 = some (.iload 4, 1144, false) ∧ NL_law 1144 = some (.ret 2, 1145, false) ∧ NL_law 1145 = some (.iadd, 1146, false)) ∧ (NL_law 1146 = some (.iaload, 1147, false) ∧ NL_law 1147 = some (.invokeinterface 142 3, 1150, false) ∧ NL_law 1150 = some (.aload 2, 1151, false) ∧ NL_law 1151 = some (.aload 0, 1152, false) ∧ NL_law 1152 = some (.iload 4, 1154, false)) ∧ (NL_law 1154 = some (.ret 1, 1155, false) ∧ NL_law 1155 = some (.iadd, 1156, false) ∧ NL_law 1156 = some (.iaload, 1157, false) ∧ NL_law 1157 = some (.aload 0, 1158, false) ∧ NL_law 1158 = some (.iload 4, 1160, false)) ∧ (NL_law 1160 = some (.ret 2, 1161, false) ∧ NL_law 1161 = some (.iadd, 1162, false) ∧ NL_law 1162 = some (.iaload, 1163, false) ∧ NL_law 1163 = some (.invokeinterface 210 3, 1166, false) ∧ NL_law 1166 = some (.if_icmp .eq 1580, 1169, false)) ∧ (NL_law 1169 = some (.ret 0, 1170, false) ∧ NL_law 1170 = some (.ireturn, 1171, false)) := ⟨by decide +kernel, by decide +kernel, by decide +kernel, by decide +kernel, by decide +kernel, by decide +kernel⟩
set_option maxHeartbeats 4000000 in
set_option maxRecDepth 100000 in
theorem op_22 (K : Option Value → sm_G → Prop) (J : Nat → sm_Lo → List Value → sm_G → Prop) (S : Nat → Nat → sm_Lo → List Value → sm_G → Prop) (cs : Nat → sm_SP) (Ls : Nat) (xs : Nat → Int32) (hW : sm_walk lay NL_law cs (some (Ls, xs)) 1 K J S) (hS0 : ∀ pc ls st g, S 0 pc ls st g = J pc ls st g)
    (c1 : cs 142 = spM sp_X9_claim) (c2 : cs 210 = spM (spE sp_X10_claim)) (i : Nat) (hi : i + 5 ≤ Ls) (hL : Ls ≤ 2560) (g : sm_G) (a b : Option Value) (hg : CP g g) (next : ∀ u, CP u u → J 1580 [some (.ref 1000), some (.ref 0), some (.ref 53), some (.ref 52), some (.int (nI i)), a, b] [] u) : J 1134 [some (.ref 1000), some (.ref 0), some (.ref 53), some (.ref 52), some (.int (nI i)), a, b] [] g := by
  have hn := nl_22
  have hf := fd_all
  have ha := ar_all
  generalize NL_law = N at hn hW
  generalize lay = L at hf ha hW
  obtain ⟨hS, hR⟩ := hW
  apply hR 11
  simp (maxSteps := 10000000) (disch := omega) only [hS, hn, sm_eqs, hf, ha, sm_b0, Int.reduceToNat, ↓reduceIte, Nat.reduceEqDiff, true_and, and_true, List.length_nil, List.length_cons, Nat.reduceAdd, Nat.reduceLeDiff, Nat.zero_le, false_implies, true_implies, not_true_eq_false, not_false_eq_true, implies_true, Nat.reduceSub, Nat.reduceMul, Nat.reduceDiv, reduceCtorEq, tn_clamp, nI_t, tn_nI, nI_add, pk_mul, rS_gS, rS_gA, rS_gL, rA_gS, rA_gA, rA_gL, rL_gS, rL_gA, rL_gL, and_self, and_false, false_and, if_true, if_false, true_or, or_true, or_false, false_or, sm_in, eqI, sI_s, Int32.toInt_zero, Int.natCast_zero, Int.natCast_one, Int.cast_ofNat_Int, Int.reduceEq, Int.reduceLT, Int.reduceLE, Int.reduceNeg, Int.reduceNe, ne_eq, n_up, g_up, e_cat, fr_A, fr_O, fr_P, fr_L, hS0, c1]
  repeat' (with_reducible refine And.intro ?_ ?_)
  all_goals (first | omega | skip)
  refine ⟨_, co_claim _ _ g hg, fun v u hv => ?_⟩
  obtain ⟨x, rfl, hm⟩ := hv
  show J 1150 [some (.ref 1000), some (.ref 0), some (.ref 53), some (.ref 52), some (.int (nI i)), a, b] [.int x] u
  apply hR 11
  simp (maxSteps := 10000000) (disch := omega) only [hS, hn, sm_eqs, hf, ha, sm_b0, Int.reduceToNat, ↓reduceIte, Nat.reduceEqDiff, true_and, and_true, List.length_nil, List.length_cons, Nat.reduceAdd, Nat.reduceLeDiff, Nat.zero_le, false_implies, true_implies, not_true_eq_false, not_false_eq_true, implies_true, Nat.reduceSub, Nat.reduceMul, Nat.reduceDiv, reduceCtorEq, tn_clamp, nI_t, tn_nI, nI_add, pk_mul, rS_gS, rS_gA, rS_gL, rA_gS, rA_gA, rA_gL, rL_gS, rL_gA, rL_gL, and_self, and_false, false_and, if_true, if_false, true_or, or_true, or_false, false_or, sm_in, eqI, sI_s, Int32.toInt_zero, Int.natCast_zero, Int.natCast_one, Int.cast_ofNat_Int, Int.reduceEq, Int.reduceLT, Int.reduceLE, Int.reduceNeg, Int.reduceNe, ne_eq, n_up, g_up, e_cat, fr_A, fr_O, fr_P, fr_L, hS0, c2]
  repeat' (with_reducible refine And.intro ?_ ?_)
  all_goals (first | omega | skip)
  refine ⟨_, hm, fun v u2 hv => ?_⟩
  obtain ⟨rfl, hc⟩ := hv
  show J 1166 [some (.ref 1000), some (.ref 0), some (.ref 53), some (.ref 52), some (.int (nI i)), a, b] [.int x, .int x] u2
  apply hR 0
  simp (maxSteps := 10000000) (disch := omega) only [hS, hn, sm_eqs, hf, ha, sm_b0, Int.reduceToNat, ↓reduceIte, Nat.reduceEqDiff, true_and, and_true, List.length_nil, List.length_cons, Nat.reduceAdd, Nat.reduceLeDiff, Nat.zero_le, false_implies, true_implies, not_true_eq_false, not_false_eq_true, implies_true, Nat.reduceSub, Nat.reduceMul, Nat.reduceDiv, reduceCtorEq, tn_clamp, nI_t, tn_nI, nI_add, pk_mul, rS_gS, rS_gA, rS_gL, rA_gS, rA_gA, rA_gL, rL_gS, rL_gA, rL_gL, and_self, and_false, false_and, if_true, if_false, true_or, or_true, or_false, false_or, sm_in, eqI, sI_s, Int32.toInt_zero, Int.natCast_zero, Int.natCast_one, Int.cast_ofNat_Int, Int.reduceEq, Int.reduceLT, Int.reduceLE, Int.reduceNeg, Int.reduceNe, ne_eq, n_up, g_up, e_cat, fr_A, fr_O, fr_P, fr_L, hS0]
  exact next u2 hc

theorem nl_23 : (NL_law 1171 = some (.aload 1, 1172, false) ∧ NL_law 1172 = some (.aload 0, 1173, false) ∧ NL_law 1173 = some (.iload 4, 1175, false) ∧ NL_law 1175 = some (.ret 1, 1176, false) ∧ NL_law 1176 = some (.iadd, 1177, false)) ∧ (NL_law 1177 = some (.iaload, 1178, false) ∧ NL_law 1178 = some (.aload 0, 1179, false) ∧ NL_law 1179 = some (.iload 4, 1181, false) ∧ NL_law 1181 = some (.ret 2, 1182, false) ∧ NL_law 1182 = some (.iadd, 1183, false)) ∧ (NL_law 1183 = some (.iaload, 1184, false) ∧ NL_law 1184 = some (.aload 0, 1185, false) ∧ NL_law 1185 = some (.iload 4, 1187, false) ∧ NL_law 1187 = some (.ret 3, 1188, false) ∧ NL_law 1188 = some (.iadd, 1189, false)) ∧ (NL_law 1189 = some (.iaload, 1190, false) ∧ NL_law 1190 = some (.invokeinterface 143 4, 1193, false) ∧ NL_law 1193 = some (.aload 2, 1194, false) ∧ NL_law 1194 = some (.aload 0, 1195, false) ∧ NL_law 1195 = some (.iload 4, 1197, false)) ∧ (NL_law 1197 = some (.ret 1, 1198, false) ∧ NL_law 1198 = some (.iadd, 1199, false) ∧ NL_law 1199 = some (.iaload, 1200, false) ∧ NL_law 1200 = some (.aload 0, 1201, false) ∧ NL_law 1201 = some (.iload 4, 1203, false)) ∧ (NL_law 1203 = some (.ret 2, 1204, false) ∧ NL_law 1204 = some (.iadd, 1205, false) ∧ NL_law 1205 = some (.iaload, 1206, false) ∧ NL_law 1206 = some (.aload 0, 1207, false) ∧ NL_law 1207 = some (.iload 4, 1209, false)) ∧ (NL_law 1209 = some (.ret 3, 1210, false) ∧ NL_law 1210 = some (.iadd, 1211, false) ∧ NL_law 1211 = some (.iaload, 1212, false) ∧ NL_law 1212 = some (.invokeinterface 211 4, 1215, false) ∧ NL_law 1215 = some (.if_icmp .eq 1580, 1218, false)) ∧ (NL_law 1218 = some (.ret 0, 1219, false) ∧ NL_law 1219 = some (.ireturn, 1220, false)) := ⟨by decide +kernel, by decide +kernel, by decide +kernel, by decide +kernel, by decide +kernel, by decide +kernel, by decide +kernel, by decide +kernel⟩
set_option maxHeartbeats 4000000 in
set_option maxRecDepth 100000 in
theorem op_23 (K : Option Value → sm_G → Prop) (J : Nat → sm_Lo → List Value → sm_G → Prop) (S : Nat → Nat → sm_Lo → List Value → sm_G → Prop) (cs : Nat → sm_SP) (Ls : Nat) (xs : Nat → Int32) (hW : sm_walk lay NL_law cs (some (Ls, xs)) 1 K J S) (hS0 : ∀ pc ls st g, S 0 pc ls st g = J pc ls st g)
    (c1 : cs 143 = spM sp_X9_prove) (c2 : cs 211 = spM (spE sp_X10_prove)) (i : Nat) (hi : i + 5 ≤ Ls) (hL : Ls ≤ 2560) (g : sm_G) (a b : Option Value) (hg : CP g g) (next : ∀ u, CP u u → J 1580 [some (.ref 1000), some (.ref 0), some (.ref 53), some (.ref 52), some (.int (nI i)), a, b] [] u) : J 1171 [some (.ref 1000), some (.ref 0), some (.ref 53), some (.ref 52), some (.int (nI i)), a, b] [] g := by
  have hn := nl_23
  have hf := fd_all
  have ha := ar_all
  generalize NL_law = N at hn hW
  generalize lay = L at hf ha hW
  obtain ⟨hS, hR⟩ := hW
  apply hR 16
  simp (maxSteps := 10000000) (disch := omega) only [hS, hn, sm_eqs, hf, ha, sm_b0, Int.reduceToNat, ↓reduceIte, Nat.reduceEqDiff, true_and, and_true, List.length_nil, List.length_cons, Nat.reduceAdd, Nat.reduceLeDiff, Nat.zero_le, false_implies, true_implies, not_true_eq_false, not_false_eq_true, implies_true, Nat.reduceSub, Nat.reduceMul, Nat.reduceDiv, reduceCtorEq, tn_clamp, nI_t, tn_nI, nI_add, pk_mul, rS_gS, rS_gA, rS_gL, rA_gS, rA_gA, rA_gL, rL_gS, rL_gA, rL_gL, and_self, and_false, false_and, if_true, if_false, true_or, or_true, or_false, false_or, sm_in, eqI, sI_s, Int32.toInt_zero, Int.natCast_zero, Int.natCast_one, Int.cast_ofNat_Int, Int.reduceEq, Int.reduceLT, Int.reduceLE, Int.reduceNeg, Int.reduceNe, ne_eq, n_up, g_up, e_cat, fr_A, fr_O, fr_P, fr_L, hS0, c1]
  repeat' (with_reducible refine And.intro ?_ ?_)
  all_goals (first | omega | skip)
  refine ⟨_, co_prove _ _ _ g hg, fun v u hv => ?_⟩
  obtain ⟨x, rfl, hm⟩ := hv
  show J 1193 [some (.ref 1000), some (.ref 0), some (.ref 53), some (.ref 52), some (.int (nI i)), a, b] [.int x] u
  apply hR 16
  simp (maxSteps := 10000000) (disch := omega) only [hS, hn, sm_eqs, hf, ha, sm_b0, Int.reduceToNat, ↓reduceIte, Nat.reduceEqDiff, true_and, and_true, List.length_nil, List.length_cons, Nat.reduceAdd, Nat.reduceLeDiff, Nat.zero_le, false_implies, true_implies, not_true_eq_false, not_false_eq_true, implies_true, Nat.reduceSub, Nat.reduceMul, Nat.reduceDiv, reduceCtorEq, tn_clamp, nI_t, tn_nI, nI_add, pk_mul, rS_gS, rS_gA, rS_gL, rA_gS, rA_gA, rA_gL, rL_gS, rL_gA, rL_gL, and_self, and_false, false_and, if_true, if_false, true_or, or_true, or_false, false_or, sm_in, eqI, sI_s, Int32.toInt_zero, Int.natCast_zero, Int.natCast_one, Int.cast_ofNat_Int, Int.reduceEq, Int.reduceLT, Int.reduceLE, Int.reduceNeg, Int.reduceNe, ne_eq, n_up, g_up, e_cat, fr_A, fr_O, fr_P, fr_L, hS0, c2]
  repeat' (with_reducible refine And.intro ?_ ?_)
  all_goals (first | omega | skip)
  refine ⟨_, hm, fun v u2 hv => ?_⟩
  obtain ⟨rfl, hc⟩ := hv
  show J 1215 [some (.ref 1000), some (.ref 0), some (.ref 53), some (.ref 52), some (.int (nI i)), a, b] [.int x, .int x] u2
  apply hR 0
  simp (maxSteps := 10000000) (disch := omega) only [hS, hn, sm_eqs, hf, ha, sm_b0, Int.reduceToNat, ↓reduceIte, Nat.reduceEqDiff, true_and, and_true, List.length_nil, List.length_cons, Nat.reduceAdd, Nat.reduceLeDiff, Nat.zero_le, false_implies, true_implies, not_true_eq_false, not_false_eq_true, implies_true, Nat.reduceSub, Nat.reduceMul, Nat.reduceDiv, reduceCtorEq, tn_clamp, nI_t, tn_nI, nI_add, pk_mul, rS_gS, rS_gA, rS_gL, rA_gS, rA_gA, rA_gL, rL_gS, rL_gA, rL_gL, and_self, and_false, false_and, if_true, if_false, true_or, or_true, or_false, false_or, sm_in, eqI, sI_s, Int32.toInt_zero, Int.natCast_zero, Int.natCast_one, Int.cast_ofNat_Int, Int.reduceEq, Int.reduceLT, Int.reduceLE, Int.reduceNeg, Int.reduceNe, ne_eq, n_up, g_up, e_cat, fr_A, fr_O, fr_P, fr_L, hS0]
  exact next u2 hc

theorem nl_24 : (NL_law 1220 = some (.aload 1, 1221, false) ∧ NL_law 1221 = some (.aload 0, 1222, false) ∧ NL_law 1222 = some (.iload 4, 1224, false) ∧ NL_law 1224 = some (.ret 1, 1225, false) ∧ NL_law 1225 = some (.iadd, 1226, false)) ∧ (NL_law 1226 = some (.iaload, 1227, false) ∧ NL_law 1227 = some (.invokeinterface 144 2, 1230, false) ∧ NL_law 1230 = some (.aload 2, 1231, false) ∧ NL_law 1231 = some (.aload 0, 1232, false) ∧ NL_law 1232 = some (.iload 4, 1234, false)) ∧ (NL_law 1234 = some (.ret 1, 1235, false) ∧ NL_law 1235 = some (.iadd, 1236, false) ∧ NL_law 1236 = some (.iaload, 1237, false) ∧ NL_law 1237 = some (.invokeinterface 214 2, 1240, false) ∧ NL_law 1240 = some (.if_icmp .eq 1580, 1243, false)) ∧ (NL_law 1243 = some (.ret 0, 1244, false) ∧ NL_law 1244 = some (.ireturn, 1245, false)) := ⟨by decide +kernel, by decide +kernel, by decide +kernel, by decide +kernel⟩
set_option maxHeartbeats 4000000 in
set_option maxRecDepth 100000 in
theorem op_24 (K : Option Value → sm_G → Prop) (J : Nat → sm_Lo → List Value → sm_G → Prop) (S : Nat → Nat → sm_Lo → List Value → sm_G → Prop) (cs : Nat → sm_SP) (Ls : Nat) (xs : Nat → Int32) (hW : sm_walk lay NL_law cs (some (Ls, xs)) 1 K J S) (hS0 : ∀ pc ls st g, S 0 pc ls st g = J pc ls st g)
    (c1 : cs 144 = spM sp_X9_give) (c2 : cs 214 = spM (spE sp_X10_give)) (i : Nat) (hi : i + 5 ≤ Ls) (hL : Ls ≤ 2560) (g : sm_G) (a b : Option Value) (hg : CP g g) (next : ∀ u, CP u u → J 1580 [some (.ref 1000), some (.ref 0), some (.ref 53), some (.ref 52), some (.int (nI i)), a, b] [] u) : J 1220 [some (.ref 1000), some (.ref 0), some (.ref 53), some (.ref 52), some (.int (nI i)), a, b] [] g := by
  have hn := nl_24
  have hf := fd_all
  have ha := ar_all
  generalize NL_law = N at hn hW
  generalize lay = L at hf ha hW
  obtain ⟨hS, hR⟩ := hW
  apply hR 6
  simp (maxSteps := 10000000) (disch := omega) only [hS, hn, sm_eqs, hf, ha, sm_b0, Int.reduceToNat, ↓reduceIte, Nat.reduceEqDiff, true_and, and_true, List.length_nil, List.length_cons, Nat.reduceAdd, Nat.reduceLeDiff, Nat.zero_le, false_implies, true_implies, not_true_eq_false, not_false_eq_true, implies_true, Nat.reduceSub, Nat.reduceMul, Nat.reduceDiv, reduceCtorEq, tn_clamp, nI_t, tn_nI, nI_add, pk_mul, rS_gS, rS_gA, rS_gL, rA_gS, rA_gA, rA_gL, rL_gS, rL_gA, rL_gL, and_self, and_false, false_and, if_true, if_false, true_or, or_true, or_false, false_or, sm_in, eqI, sI_s, Int32.toInt_zero, Int.natCast_zero, Int.natCast_one, Int.cast_ofNat_Int, Int.reduceEq, Int.reduceLT, Int.reduceLE, Int.reduceNeg, Int.reduceNe, ne_eq, n_up, g_up, e_cat, fr_A, fr_O, fr_P, fr_L, hS0, c1]
  repeat' (with_reducible refine And.intro ?_ ?_)
  all_goals (first | omega | skip)
  refine ⟨_, co_give _ g hg, fun v u hv => ?_⟩
  obtain ⟨x, rfl, hm⟩ := hv
  show J 1230 [some (.ref 1000), some (.ref 0), some (.ref 53), some (.ref 52), some (.int (nI i)), a, b] [.int x] u
  apply hR 6
  simp (maxSteps := 10000000) (disch := omega) only [hS, hn, sm_eqs, hf, ha, sm_b0, Int.reduceToNat, ↓reduceIte, Nat.reduceEqDiff, true_and, and_true, List.length_nil, List.length_cons, Nat.reduceAdd, Nat.reduceLeDiff, Nat.zero_le, false_implies, true_implies, not_true_eq_false, not_false_eq_true, implies_true, Nat.reduceSub, Nat.reduceMul, Nat.reduceDiv, reduceCtorEq, tn_clamp, nI_t, tn_nI, nI_add, pk_mul, rS_gS, rS_gA, rS_gL, rA_gS, rA_gA, rA_gL, rL_gS, rL_gA, rL_gL, and_self, and_false, false_and, if_true, if_false, true_or, or_true, or_false, false_or, sm_in, eqI, sI_s, Int32.toInt_zero, Int.natCast_zero, Int.natCast_one, Int.cast_ofNat_Int, Int.reduceEq, Int.reduceLT, Int.reduceLE, Int.reduceNeg, Int.reduceNe, ne_eq, n_up, g_up, e_cat, fr_A, fr_O, fr_P, fr_L, hS0, c2]
  repeat' (with_reducible refine And.intro ?_ ?_)
  all_goals (first | omega | skip)
  refine ⟨_, hm, fun v u2 hv => ?_⟩
  obtain ⟨rfl, hc⟩ := hv
  show J 1240 [some (.ref 1000), some (.ref 0), some (.ref 53), some (.ref 52), some (.int (nI i)), a, b] [.int x, .int x] u2
  apply hR 0
  simp (maxSteps := 10000000) (disch := omega) only [hS, hn, sm_eqs, hf, ha, sm_b0, Int.reduceToNat, ↓reduceIte, Nat.reduceEqDiff, true_and, and_true, List.length_nil, List.length_cons, Nat.reduceAdd, Nat.reduceLeDiff, Nat.zero_le, false_implies, true_implies, not_true_eq_false, not_false_eq_true, implies_true, Nat.reduceSub, Nat.reduceMul, Nat.reduceDiv, reduceCtorEq, tn_clamp, nI_t, tn_nI, nI_add, pk_mul, rS_gS, rS_gA, rS_gL, rA_gS, rA_gA, rA_gL, rL_gS, rL_gA, rL_gL, and_self, and_false, false_and, if_true, if_false, true_or, or_true, or_false, false_or, sm_in, eqI, sI_s, Int32.toInt_zero, Int.natCast_zero, Int.natCast_one, Int.cast_ofNat_Int, Int.reduceEq, Int.reduceLT, Int.reduceLE, Int.reduceNeg, Int.reduceNe, ne_eq, n_up, g_up, e_cat, fr_A, fr_O, fr_P, fr_L, hS0]
  exact next u2 hc

theorem nl_25 : (NL_law 1245 = some (.aload 1, 1246, false) ∧ NL_law 1246 = some (.aload 0, 1247, false) ∧ NL_law 1247 = some (.iload 4, 1249, false) ∧ NL_law 1249 = some (.ret 1, 1250, false) ∧ NL_law 1250 = some (.iadd, 1251, false)) ∧ (NL_law 1251 = some (.iaload, 1252, false) ∧ NL_law 1252 = some (.invokeinterface 145 2, 1255, false) ∧ NL_law 1255 = some (.aload 2, 1256, false) ∧ NL_law 1256 = some (.aload 0, 1257, false) ∧ NL_law 1257 = some (.iload 4, 1259, false)) ∧ (NL_law 1259 = some (.ret 1, 1260, false) ∧ NL_law 1260 = some (.iadd, 1261, false) ∧ NL_law 1261 = some (.iaload, 1262, false) ∧ NL_law 1262 = some (.invokeinterface 215 2, 1265, false) ∧ NL_law 1265 = some (.if_icmp .eq 1580, 1268, false)) ∧ (NL_law 1268 = some (.ret 0, 1269, false) ∧ NL_law 1269 = some (.ireturn, 1270, false)) := ⟨by decide +kernel, by decide +kernel, by decide +kernel, by decide +kernel⟩
set_option maxHeartbeats 4000000 in
set_option maxRecDepth 100000 in
theorem op_25 (K : Option Value → sm_G → Prop) (J : Nat → sm_Lo → List Value → sm_G → Prop) (S : Nat → Nat → sm_Lo → List Value → sm_G → Prop) (cs : Nat → sm_SP) (Ls : Nat) (xs : Nat → Int32) (hW : sm_walk lay NL_law cs (some (Ls, xs)) 1 K J S) (hS0 : ∀ pc ls st g, S 0 pc ls st g = J pc ls st g)
    (c1 : cs 145 = spM sp_X9_withdraw) (c2 : cs 215 = spM (spE sp_X10_withdraw)) (i : Nat) (hi : i + 5 ≤ Ls) (hL : Ls ≤ 2560) (g : sm_G) (a b : Option Value) (hg : CP g g) (next : ∀ u, CP u u → J 1580 [some (.ref 1000), some (.ref 0), some (.ref 53), some (.ref 52), some (.int (nI i)), a, b] [] u) : J 1245 [some (.ref 1000), some (.ref 0), some (.ref 53), some (.ref 52), some (.int (nI i)), a, b] [] g := by
  have hn := nl_25
  have hf := fd_all
  have ha := ar_all
  generalize NL_law = N at hn hW
  generalize lay = L at hf ha hW
  obtain ⟨hS, hR⟩ := hW
  apply hR 6
  simp (maxSteps := 10000000) (disch := omega) only [hS, hn, sm_eqs, hf, ha, sm_b0, Int.reduceToNat, ↓reduceIte, Nat.reduceEqDiff, true_and, and_true, List.length_nil, List.length_cons, Nat.reduceAdd, Nat.reduceLeDiff, Nat.zero_le, false_implies, true_implies, not_true_eq_false, not_false_eq_true, implies_true, Nat.reduceSub, Nat.reduceMul, Nat.reduceDiv, reduceCtorEq, tn_clamp, nI_t, tn_nI, nI_add, pk_mul, rS_gS, rS_gA, rS_gL, rA_gS, rA_gA, rA_gL, rL_gS, rL_gA, rL_gL, and_self, and_false, false_and, if_true, if_false, true_or, or_true, or_false, false_or, sm_in, eqI, sI_s, Int32.toInt_zero, Int.natCast_zero, Int.natCast_one, Int.cast_ofNat_Int, Int.reduceEq, Int.reduceLT, Int.reduceLE, Int.reduceNeg, Int.reduceNe, ne_eq, n_up, g_up, e_cat, fr_A, fr_O, fr_P, fr_L, hS0, c1]
  repeat' (with_reducible refine And.intro ?_ ?_)
  all_goals (first | omega | skip)
  refine ⟨_, co_withdraw _ g hg, fun v u hv => ?_⟩
  obtain ⟨x, rfl, hm⟩ := hv
  show J 1255 [some (.ref 1000), some (.ref 0), some (.ref 53), some (.ref 52), some (.int (nI i)), a, b] [.int x] u
  apply hR 6
  simp (maxSteps := 10000000) (disch := omega) only [hS, hn, sm_eqs, hf, ha, sm_b0, Int.reduceToNat, ↓reduceIte, Nat.reduceEqDiff, true_and, and_true, List.length_nil, List.length_cons, Nat.reduceAdd, Nat.reduceLeDiff, Nat.zero_le, false_implies, true_implies, not_true_eq_false, not_false_eq_true, implies_true, Nat.reduceSub, Nat.reduceMul, Nat.reduceDiv, reduceCtorEq, tn_clamp, nI_t, tn_nI, nI_add, pk_mul, rS_gS, rS_gA, rS_gL, rA_gS, rA_gA, rA_gL, rL_gS, rL_gA, rL_gL, and_self, and_false, false_and, if_true, if_false, true_or, or_true, or_false, false_or, sm_in, eqI, sI_s, Int32.toInt_zero, Int.natCast_zero, Int.natCast_one, Int.cast_ofNat_Int, Int.reduceEq, Int.reduceLT, Int.reduceLE, Int.reduceNeg, Int.reduceNe, ne_eq, n_up, g_up, e_cat, fr_A, fr_O, fr_P, fr_L, hS0, c2]
  repeat' (with_reducible refine And.intro ?_ ?_)
  all_goals (first | omega | skip)
  refine ⟨_, hm, fun v u2 hv => ?_⟩
  obtain ⟨rfl, hc⟩ := hv
  show J 1265 [some (.ref 1000), some (.ref 0), some (.ref 53), some (.ref 52), some (.int (nI i)), a, b] [.int x, .int x] u2
  apply hR 0
  simp (maxSteps := 10000000) (disch := omega) only [hS, hn, sm_eqs, hf, ha, sm_b0, Int.reduceToNat, ↓reduceIte, Nat.reduceEqDiff, true_and, and_true, List.length_nil, List.length_cons, Nat.reduceAdd, Nat.reduceLeDiff, Nat.zero_le, false_implies, true_implies, not_true_eq_false, not_false_eq_true, implies_true, Nat.reduceSub, Nat.reduceMul, Nat.reduceDiv, reduceCtorEq, tn_clamp, nI_t, tn_nI, nI_add, pk_mul, rS_gS, rS_gA, rS_gL, rA_gS, rA_gA, rA_gL, rL_gS, rL_gA, rL_gL, and_self, and_false, false_and, if_true, if_false, true_or, or_true, or_false, false_or, sm_in, eqI, sI_s, Int32.toInt_zero, Int.natCast_zero, Int.natCast_one, Int.cast_ofNat_Int, Int.reduceEq, Int.reduceLT, Int.reduceLE, Int.reduceNeg, Int.reduceNe, ne_eq, n_up, g_up, e_cat, fr_A, fr_O, fr_P, fr_L, hS0]
  exact next u2 hc

theorem nl_26 : (NL_law 1270 = some (.aload 1, 1271, false) ∧ NL_law 1271 = some (.aload 0, 1272, false) ∧ NL_law 1272 = some (.iload 4, 1274, false) ∧ NL_law 1274 = some (.ret 1, 1275, false) ∧ NL_law 1275 = some (.iadd, 1276, false)) ∧ (NL_law 1276 = some (.iaload, 1277, false) ∧ NL_law 1277 = some (.invokeinterface 146 2, 1280, false) ∧ NL_law 1280 = some (.aload 2, 1281, false) ∧ NL_law 1281 = some (.aload 0, 1282, false) ∧ NL_law 1282 = some (.iload 4, 1284, false)) ∧ (NL_law 1284 = some (.ret 1, 1285, false) ∧ NL_law 1285 = some (.iadd, 1286, false) ∧ NL_law 1286 = some (.iaload, 1287, false) ∧ NL_law 1287 = some (.invokeinterface 216 2, 1290, false) ∧ NL_law 1290 = some (.if_icmp .eq 1580, 1293, false)) ∧ (NL_law 1293 = some (.ret 0, 1294, false) ∧ NL_law 1294 = some (.ireturn, 1295, false)) := ⟨by decide +kernel, by decide +kernel, by decide +kernel, by decide +kernel⟩
set_option maxHeartbeats 4000000 in
set_option maxRecDepth 100000 in
theorem op_26 (K : Option Value → sm_G → Prop) (J : Nat → sm_Lo → List Value → sm_G → Prop) (S : Nat → Nat → sm_Lo → List Value → sm_G → Prop) (cs : Nat → sm_SP) (Ls : Nat) (xs : Nat → Int32) (hW : sm_walk lay NL_law cs (some (Ls, xs)) 1 K J S) (hS0 : ∀ pc ls st g, S 0 pc ls st g = J pc ls st g)
    (c1 : cs 146 = spM sp_X9_close) (c2 : cs 216 = spM (spE sp_X10_close)) (i : Nat) (hi : i + 5 ≤ Ls) (hL : Ls ≤ 2560) (g : sm_G) (a b : Option Value) (hg : CP g g) (next : ∀ u, CP u u → J 1580 [some (.ref 1000), some (.ref 0), some (.ref 53), some (.ref 52), some (.int (nI i)), a, b] [] u) : J 1270 [some (.ref 1000), some (.ref 0), some (.ref 53), some (.ref 52), some (.int (nI i)), a, b] [] g := by
  have hn := nl_26
  have hf := fd_all
  have ha := ar_all
  generalize NL_law = N at hn hW
  generalize lay = L at hf ha hW
  obtain ⟨hS, hR⟩ := hW
  apply hR 6
  simp (maxSteps := 10000000) (disch := omega) only [hS, hn, sm_eqs, hf, ha, sm_b0, Int.reduceToNat, ↓reduceIte, Nat.reduceEqDiff, true_and, and_true, List.length_nil, List.length_cons, Nat.reduceAdd, Nat.reduceLeDiff, Nat.zero_le, false_implies, true_implies, not_true_eq_false, not_false_eq_true, implies_true, Nat.reduceSub, Nat.reduceMul, Nat.reduceDiv, reduceCtorEq, tn_clamp, nI_t, tn_nI, nI_add, pk_mul, rS_gS, rS_gA, rS_gL, rA_gS, rA_gA, rA_gL, rL_gS, rL_gA, rL_gL, and_self, and_false, false_and, if_true, if_false, true_or, or_true, or_false, false_or, sm_in, eqI, sI_s, Int32.toInt_zero, Int.natCast_zero, Int.natCast_one, Int.cast_ofNat_Int, Int.reduceEq, Int.reduceLT, Int.reduceLE, Int.reduceNeg, Int.reduceNe, ne_eq, n_up, g_up, e_cat, fr_A, fr_O, fr_P, fr_L, hS0, c1]
  repeat' (with_reducible refine And.intro ?_ ?_)
  all_goals (first | omega | skip)
  refine ⟨_, co_close _ g hg, fun v u hv => ?_⟩
  obtain ⟨x, rfl, hm⟩ := hv
  show J 1280 [some (.ref 1000), some (.ref 0), some (.ref 53), some (.ref 52), some (.int (nI i)), a, b] [.int x] u
  apply hR 6
  simp (maxSteps := 10000000) (disch := omega) only [hS, hn, sm_eqs, hf, ha, sm_b0, Int.reduceToNat, ↓reduceIte, Nat.reduceEqDiff, true_and, and_true, List.length_nil, List.length_cons, Nat.reduceAdd, Nat.reduceLeDiff, Nat.zero_le, false_implies, true_implies, not_true_eq_false, not_false_eq_true, implies_true, Nat.reduceSub, Nat.reduceMul, Nat.reduceDiv, reduceCtorEq, tn_clamp, nI_t, tn_nI, nI_add, pk_mul, rS_gS, rS_gA, rS_gL, rA_gS, rA_gA, rA_gL, rL_gS, rL_gA, rL_gL, and_self, and_false, false_and, if_true, if_false, true_or, or_true, or_false, false_or, sm_in, eqI, sI_s, Int32.toInt_zero, Int.natCast_zero, Int.natCast_one, Int.cast_ofNat_Int, Int.reduceEq, Int.reduceLT, Int.reduceLE, Int.reduceNeg, Int.reduceNe, ne_eq, n_up, g_up, e_cat, fr_A, fr_O, fr_P, fr_L, hS0, c2]
  repeat' (with_reducible refine And.intro ?_ ?_)
  all_goals (first | omega | skip)
  refine ⟨_, hm, fun v u2 hv => ?_⟩
  obtain ⟨rfl, hc⟩ := hv
  show J 1290 [some (.ref 1000), some (.ref 0), some (.ref 53), some (.ref 52), some (.int (nI i)), a, b] [.int x, .int x] u2
  apply hR 0
  simp (maxSteps := 10000000) (disch := omega) only [hS, hn, sm_eqs, hf, ha, sm_b0, Int.reduceToNat, ↓reduceIte, Nat.reduceEqDiff, true_and, and_true, List.length_nil, List.length_cons, Nat.reduceAdd, Nat.reduceLeDiff, Nat.zero_le, false_implies, true_implies, not_true_eq_false, not_false_eq_true, implies_true, Nat.reduceSub, Nat.reduceMul, Nat.reduceDiv, reduceCtorEq, tn_clamp, nI_t, tn_nI, nI_add, pk_mul, rS_gS, rS_gA, rS_gL, rA_gS, rA_gA, rA_gL, rL_gS, rL_gA, rL_gL, and_self, and_false, false_and, if_true, if_false, true_or, or_true, or_false, false_or, sm_in, eqI, sI_s, Int32.toInt_zero, Int.natCast_zero, Int.natCast_one, Int.cast_ofNat_Int, Int.reduceEq, Int.reduceLT, Int.reduceLE, Int.reduceNeg, Int.reduceNe, ne_eq, n_up, g_up, e_cat, fr_A, fr_O, fr_P, fr_L, hS0]
  exact next u2 hc

theorem nl_28 : (NL_law 1363 = some (.aload 1, 1364, false) ∧ NL_law 1364 = some (.aload 0, 1365, false) ∧ NL_law 1365 = some (.iload 4, 1367, false) ∧ NL_law 1367 = some (.ret 1, 1368, false) ∧ NL_law 1368 = some (.iadd, 1369, false)) ∧ (NL_law 1369 = some (.iaload, 1370, false) ∧ NL_law 1370 = some (.aload 0, 1371, false) ∧ NL_law 1371 = some (.iload 4, 1373, false) ∧ NL_law 1373 = some (.ret 2, 1374, false) ∧ NL_law 1374 = some (.iadd, 1375, false)) ∧ (NL_law 1375 = some (.iaload, 1376, false) ∧ NL_law 1376 = some (.invokeinterface 149 3, 1379, false) ∧ NL_law 1379 = some (.aload 2, 1380, false) ∧ NL_law 1380 = some (.aload 0, 1381, false) ∧ NL_law 1381 = some (.iload 4, 1383, false)) ∧ (NL_law 1383 = some (.ret 1, 1384, false) ∧ NL_law 1384 = some (.iadd, 1385, false) ∧ NL_law 1385 = some (.iaload, 1386, false) ∧ NL_law 1386 = some (.aload 0, 1387, false) ∧ NL_law 1387 = some (.iload 4, 1389, false)) ∧ (NL_law 1389 = some (.ret 2, 1390, false) ∧ NL_law 1390 = some (.iadd, 1391, false) ∧ NL_law 1391 = some (.iaload, 1392, false) ∧ NL_law 1392 = some (.invokeinterface 218 3, 1395, false) ∧ NL_law 1395 = some (.if_icmp .eq 1580, 1398, false)) ∧ (NL_law 1398 = some (.ret 0, 1399, false) ∧ NL_law 1399 = some (.ireturn, 1400, false)) := ⟨by decide +kernel, by decide +kernel, by decide +kernel, by decide +kernel, by decide +kernel, by decide +kernel⟩
set_option maxHeartbeats 4000000 in
set_option maxRecDepth 100000 in
theorem op_28 (K : Option Value → sm_G → Prop) (J : Nat → sm_Lo → List Value → sm_G → Prop) (S : Nat → Nat → sm_Lo → List Value → sm_G → Prop) (cs : Nat → sm_SP) (Ls : Nat) (xs : Nat → Int32) (hW : sm_walk lay NL_law cs (some (Ls, xs)) 1 K J S) (hS0 : ∀ pc ls st g, S 0 pc ls st g = J pc ls st g)
    (c1 : cs 149 = spM sp_X9_into) (c2 : cs 218 = spM (spE sp_X10_into)) (i : Nat) (hi : i + 5 ≤ Ls) (hL : Ls ≤ 2560) (g : sm_G) (a b : Option Value) (hg : CP g g) (next : ∀ u, CP u u → J 1580 [some (.ref 1000), some (.ref 0), some (.ref 53), some (.ref 52), some (.int (nI i)), a, b] [] u) : J 1363 [some (.ref 1000), some (.ref 0), some (.ref 53), some (.ref 52), some (.int (nI i)), a, b] [] g := by
  have hn := nl_28
  have hf := fd_all
  have ha := ar_all
  generalize NL_law = N at hn hW
  generalize lay = L at hf ha hW
  obtain ⟨hS, hR⟩ := hW
  apply hR 11
  simp (maxSteps := 10000000) (disch := omega) only [hS, hn, sm_eqs, hf, ha, sm_b0, Int.reduceToNat, ↓reduceIte, Nat.reduceEqDiff, true_and, and_true, List.length_nil, List.length_cons, Nat.reduceAdd, Nat.reduceLeDiff, Nat.zero_le, false_implies, true_implies, not_true_eq_false, not_false_eq_true, implies_true, Nat.reduceSub, Nat.reduceMul, Nat.reduceDiv, reduceCtorEq, tn_clamp, nI_t, tn_nI, nI_add, pk_mul, rS_gS, rS_gA, rS_gL, rA_gS, rA_gA, rA_gL, rL_gS, rL_gA, rL_gL, and_self, and_false, false_and, if_true, if_false, true_or, or_true, or_false, false_or, sm_in, eqI, sI_s, Int32.toInt_zero, Int.natCast_zero, Int.natCast_one, Int.cast_ofNat_Int, Int.reduceEq, Int.reduceLT, Int.reduceLE, Int.reduceNeg, Int.reduceNe, ne_eq, n_up, g_up, e_cat, fr_A, fr_O, fr_P, fr_L, hS0, c1]
  repeat' (with_reducible refine And.intro ?_ ?_)
  all_goals (first | omega | skip)
  refine ⟨_, co_into _ _ g hg, fun v u hv => ?_⟩
  obtain ⟨x, rfl, hm⟩ := hv
  show J 1379 [some (.ref 1000), some (.ref 0), some (.ref 53), some (.ref 52), some (.int (nI i)), a, b] [.int x] u
  apply hR 11
  simp (maxSteps := 10000000) (disch := omega) only [hS, hn, sm_eqs, hf, ha, sm_b0, Int.reduceToNat, ↓reduceIte, Nat.reduceEqDiff, true_and, and_true, List.length_nil, List.length_cons, Nat.reduceAdd, Nat.reduceLeDiff, Nat.zero_le, false_implies, true_implies, not_true_eq_false, not_false_eq_true, implies_true, Nat.reduceSub, Nat.reduceMul, Nat.reduceDiv, reduceCtorEq, tn_clamp, nI_t, tn_nI, nI_add, pk_mul, rS_gS, rS_gA, rS_gL, rA_gS, rA_gA, rA_gL, rL_gS, rL_gA, rL_gL, and_self, and_false, false_and, if_true, if_false, true_or, or_true, or_false, false_or, sm_in, eqI, sI_s, Int32.toInt_zero, Int.natCast_zero, Int.natCast_one, Int.cast_ofNat_Int, Int.reduceEq, Int.reduceLT, Int.reduceLE, Int.reduceNeg, Int.reduceNe, ne_eq, n_up, g_up, e_cat, fr_A, fr_O, fr_P, fr_L, hS0, c2]
  repeat' (with_reducible refine And.intro ?_ ?_)
  all_goals (first | omega | skip)
  refine ⟨_, hm, fun v u2 hv => ?_⟩
  obtain ⟨rfl, hc⟩ := hv
  show J 1395 [some (.ref 1000), some (.ref 0), some (.ref 53), some (.ref 52), some (.int (nI i)), a, b] [.int x, .int x] u2
  apply hR 0
  simp (maxSteps := 10000000) (disch := omega) only [hS, hn, sm_eqs, hf, ha, sm_b0, Int.reduceToNat, ↓reduceIte, Nat.reduceEqDiff, true_and, and_true, List.length_nil, List.length_cons, Nat.reduceAdd, Nat.reduceLeDiff, Nat.zero_le, false_implies, true_implies, not_true_eq_false, not_false_eq_true, implies_true, Nat.reduceSub, Nat.reduceMul, Nat.reduceDiv, reduceCtorEq, tn_clamp, nI_t, tn_nI, nI_add, pk_mul, rS_gS, rS_gA, rS_gL, rA_gS, rA_gA, rA_gL, rL_gS, rL_gA, rL_gL, and_self, and_false, false_and, if_true, if_false, true_or, or_true, or_false, false_or, sm_in, eqI, sI_s, Int32.toInt_zero, Int.natCast_zero, Int.natCast_one, Int.cast_ofNat_Int, Int.reduceEq, Int.reduceLT, Int.reduceLE, Int.reduceNeg, Int.reduceNe, ne_eq, n_up, g_up, e_cat, fr_A, fr_O, fr_P, fr_L, hS0]
  exact next u2 hc

theorem nl_30 : (NL_law 1468 = some (.aload 1, 1469, false) ∧ NL_law 1469 = some (.aload 0, 1470, false) ∧ NL_law 1470 = some (.iload 4, 1472, false) ∧ NL_law 1472 = some (.ret 1, 1473, false) ∧ NL_law 1473 = some (.iadd, 1474, false)) ∧ (NL_law 1474 = some (.iaload, 1475, false) ∧ NL_law 1475 = some (.aload 0, 1476, false) ∧ NL_law 1476 = some (.iload 4, 1478, false) ∧ NL_law 1478 = some (.ret 2, 1479, false) ∧ NL_law 1479 = some (.iadd, 1480, false)) ∧ (NL_law 1480 = some (.iaload, 1481, false) ∧ NL_law 1481 = some (.invokeinterface 151 3, 1484, false) ∧ NL_law 1484 = some (.aload 2, 1485, false) ∧ NL_law 1485 = some (.aload 0, 1486, false) ∧ NL_law 1486 = some (.iload 4, 1488, false)) ∧ (NL_law 1488 = some (.ret 1, 1489, false) ∧ NL_law 1489 = some (.iadd, 1490, false) ∧ NL_law 1490 = some (.iaload, 1491, false) ∧ NL_law 1491 = some (.aload 0, 1492, false) ∧ NL_law 1492 = some (.iload 4, 1494, false)) ∧ (NL_law 1494 = some (.ret 2, 1495, false) ∧ NL_law 1495 = some (.iadd, 1496, false) ∧ NL_law 1496 = some (.iaload, 1497, false) ∧ NL_law 1497 = some (.invokeinterface 221 3, 1500, false) ∧ NL_law 1500 = some (.if_icmp .eq 1580, 1503, false)) ∧ (NL_law 1503 = some (.ret 0, 1504, false) ∧ NL_law 1504 = some (.ireturn, 1505, false)) := ⟨by decide +kernel, by decide +kernel, by decide +kernel, by decide +kernel, by decide +kernel, by decide +kernel⟩
set_option maxHeartbeats 4000000 in
set_option maxRecDepth 100000 in
theorem op_30 (K : Option Value → sm_G → Prop) (J : Nat → sm_Lo → List Value → sm_G → Prop) (S : Nat → Nat → sm_Lo → List Value → sm_G → Prop) (cs : Nat → sm_SP) (Ls : Nat) (xs : Nat → Int32) (hW : sm_walk lay NL_law cs (some (Ls, xs)) 1 K J S) (hS0 : ∀ pc ls st g, S 0 pc ls st g = J pc ls st g)
    (c1 : cs 151 = spM sp_X9_days) (c2 : cs 221 = spM (spE sp_X10_days)) (i : Nat) (hi : i + 5 ≤ Ls) (hL : Ls ≤ 2560) (g : sm_G) (a b : Option Value) (hg : CP g g) (next : ∀ u, CP u u → J 1580 [some (.ref 1000), some (.ref 0), some (.ref 53), some (.ref 52), some (.int (nI i)), a, b] [] u) : J 1468 [some (.ref 1000), some (.ref 0), some (.ref 53), some (.ref 52), some (.int (nI i)), a, b] [] g := by
  have hn := nl_30
  have hf := fd_all
  have ha := ar_all
  generalize NL_law = N at hn hW
  generalize lay = L at hf ha hW
  obtain ⟨hS, hR⟩ := hW
  apply hR 11
  simp (maxSteps := 10000000) (disch := omega) only [hS, hn, sm_eqs, hf, ha, sm_b0, Int.reduceToNat, ↓reduceIte, Nat.reduceEqDiff, true_and, and_true, List.length_nil, List.length_cons, Nat.reduceAdd, Nat.reduceLeDiff, Nat.zero_le, false_implies, true_implies, not_true_eq_false, not_false_eq_true, implies_true, Nat.reduceSub, Nat.reduceMul, Nat.reduceDiv, reduceCtorEq, tn_clamp, nI_t, tn_nI, nI_add, pk_mul, rS_gS, rS_gA, rS_gL, rA_gS, rA_gA, rA_gL, rL_gS, rL_gA, rL_gL, and_self, and_false, false_and, if_true, if_false, true_or, or_true, or_false, false_or, sm_in, eqI, sI_s, Int32.toInt_zero, Int.natCast_zero, Int.natCast_one, Int.cast_ofNat_Int, Int.reduceEq, Int.reduceLT, Int.reduceLE, Int.reduceNeg, Int.reduceNe, ne_eq, n_up, g_up, e_cat, fr_A, fr_O, fr_P, fr_L, hS0, c1]
  repeat' (with_reducible refine And.intro ?_ ?_)
  all_goals (first | omega | skip)
  refine ⟨_, co_days _ _ g hg, fun v u hv => ?_⟩
  obtain ⟨x, rfl, hm⟩ := hv
  show J 1484 [some (.ref 1000), some (.ref 0), some (.ref 53), some (.ref 52), some (.int (nI i)), a, b] [.int x] u
  apply hR 11
  simp (maxSteps := 10000000) (disch := omega) only [hS, hn, sm_eqs, hf, ha, sm_b0, Int.reduceToNat, ↓reduceIte, Nat.reduceEqDiff, true_and, and_true, List.length_nil, List.length_cons, Nat.reduceAdd, Nat.reduceLeDiff, Nat.zero_le, false_implies, true_implies, not_true_eq_false, not_false_eq_true, implies_true, Nat.reduceSub, Nat.reduceMul, Nat.reduceDiv, reduceCtorEq, tn_clamp, nI_t, tn_nI, nI_add, pk_mul, rS_gS, rS_gA, rS_gL, rA_gS, rA_gA, rA_gL, rL_gS, rL_gA, rL_gL, and_self, and_false, false_and, if_true, if_false, true_or, or_true, or_false, false_or, sm_in, eqI, sI_s, Int32.toInt_zero, Int.natCast_zero, Int.natCast_one, Int.cast_ofNat_Int, Int.reduceEq, Int.reduceLT, Int.reduceLE, Int.reduceNeg, Int.reduceNe, ne_eq, n_up, g_up, e_cat, fr_A, fr_O, fr_P, fr_L, hS0, c2]
  repeat' (with_reducible refine And.intro ?_ ?_)
  all_goals (first | omega | skip)
  refine ⟨_, hm, fun v u2 hv => ?_⟩
  obtain ⟨rfl, hc⟩ := hv
  show J 1500 [some (.ref 1000), some (.ref 0), some (.ref 53), some (.ref 52), some (.int (nI i)), a, b] [.int x, .int x] u2
  apply hR 0
  simp (maxSteps := 10000000) (disch := omega) only [hS, hn, sm_eqs, hf, ha, sm_b0, Int.reduceToNat, ↓reduceIte, Nat.reduceEqDiff, true_and, and_true, List.length_nil, List.length_cons, Nat.reduceAdd, Nat.reduceLeDiff, Nat.zero_le, false_implies, true_implies, not_true_eq_false, not_false_eq_true, implies_true, Nat.reduceSub, Nat.reduceMul, Nat.reduceDiv, reduceCtorEq, tn_clamp, nI_t, tn_nI, nI_add, pk_mul, rS_gS, rS_gA, rS_gL, rA_gS, rA_gA, rA_gL, rL_gS, rL_gA, rL_gL, and_self, and_false, false_and, if_true, if_false, true_or, or_true, or_false, false_or, sm_in, eqI, sI_s, Int32.toInt_zero, Int.natCast_zero, Int.natCast_one, Int.cast_ofNat_Int, Int.reduceEq, Int.reduceLT, Int.reduceLE, Int.reduceNeg, Int.reduceNe, ne_eq, n_up, g_up, e_cat, fr_A, fr_O, fr_P, fr_L, hS0]
  exact next u2 hc

theorem nl_31 : (NL_law 1505 = some (.aload 1, 1506, false) ∧ NL_law 1506 = some (.aload 0, 1507, false) ∧ NL_law 1507 = some (.iload 4, 1509, false) ∧ NL_law 1509 = some (.ret 1, 1510, false) ∧ NL_law 1510 = some (.iadd, 1511, false)) ∧ (NL_law 1511 = some (.iaload, 1512, false) ∧ NL_law 1512 = some (.invokeinterface 152 2, 1515, false) ∧ NL_law 1515 = some (.aload 2, 1516, false) ∧ NL_law 1516 = some (.aload 0, 1517, false) ∧ NL_law 1517 = some (.iload 4, 1519, false)) ∧ (NL_law 1519 = some (.ret 1, 1520, false) ∧ NL_law 1520 = some (.iadd, 1521, false) ∧ NL_law 1521 = some (.iaload, 1522, false) ∧ NL_law 1522 = some (.invokeinterface 223 2, 1525, false) ∧ NL_law 1525 = some (.if_icmp .eq 1580, 1528, false)) ∧ (NL_law 1528 = some (.ret 0, 1529, false) ∧ NL_law 1529 = some (.ireturn, 1530, false)) := ⟨by decide +kernel, by decide +kernel, by decide +kernel, by decide +kernel⟩
set_option maxHeartbeats 4000000 in
set_option maxRecDepth 100000 in
theorem op_31 (K : Option Value → sm_G → Prop) (J : Nat → sm_Lo → List Value → sm_G → Prop) (S : Nat → Nat → sm_Lo → List Value → sm_G → Prop) (cs : Nat → sm_SP) (Ls : Nat) (xs : Nat → Int32) (hW : sm_walk lay NL_law cs (some (Ls, xs)) 1 K J S) (hS0 : ∀ pc ls st g, S 0 pc ls st g = J pc ls st g)
    (c1 : cs 152 = spM sp_X9_day) (c2 : cs 223 = spM (spE sp_X10_day)) (i : Nat) (hi : i + 5 ≤ Ls) (hL : Ls ≤ 2560) (g : sm_G) (a b : Option Value) (hg : CP g g) (next : ∀ u, CP u u → J 1580 [some (.ref 1000), some (.ref 0), some (.ref 53), some (.ref 52), some (.int (nI i)), a, b] [] u) : J 1505 [some (.ref 1000), some (.ref 0), some (.ref 53), some (.ref 52), some (.int (nI i)), a, b] [] g := by
  have hn := nl_31
  have hf := fd_all
  have ha := ar_all
  generalize NL_law = N at hn hW
  generalize lay = L at hf ha hW
  obtain ⟨hS, hR⟩ := hW
  apply hR 6
  simp (maxSteps := 10000000) (disch := omega) only [hS, hn, sm_eqs, hf, ha, sm_b0, Int.reduceToNat, ↓reduceIte, Nat.reduceEqDiff, true_and, and_true, List.length_nil, List.length_cons, Nat.reduceAdd, Nat.reduceLeDiff, Nat.zero_le, false_implies, true_implies, not_true_eq_false, not_false_eq_true, implies_true, Nat.reduceSub, Nat.reduceMul, Nat.reduceDiv, reduceCtorEq, tn_clamp, nI_t, tn_nI, nI_add, pk_mul, rS_gS, rS_gA, rS_gL, rA_gS, rA_gA, rA_gL, rL_gS, rL_gA, rL_gL, and_self, and_false, false_and, if_true, if_false, true_or, or_true, or_false, false_or, sm_in, eqI, sI_s, Int32.toInt_zero, Int.natCast_zero, Int.natCast_one, Int.cast_ofNat_Int, Int.reduceEq, Int.reduceLT, Int.reduceLE, Int.reduceNeg, Int.reduceNe, ne_eq, n_up, g_up, e_cat, fr_A, fr_O, fr_P, fr_L, hS0, c1]
  repeat' (with_reducible refine And.intro ?_ ?_)
  all_goals (first | omega | skip)
  refine ⟨_, co_day _ g hg, fun v u hv => ?_⟩
  obtain ⟨x, rfl, hm⟩ := hv
  show J 1515 [some (.ref 1000), some (.ref 0), some (.ref 53), some (.ref 52), some (.int (nI i)), a, b] [.int x] u
  apply hR 6
  simp (maxSteps := 10000000) (disch := omega) only [hS, hn, sm_eqs, hf, ha, sm_b0, Int.reduceToNat, ↓reduceIte, Nat.reduceEqDiff, true_and, and_true, List.length_nil, List.length_cons, Nat.reduceAdd, Nat.reduceLeDiff, Nat.zero_le, false_implies, true_implies, not_true_eq_false, not_false_eq_true, implies_true, Nat.reduceSub, Nat.reduceMul, Nat.reduceDiv, reduceCtorEq, tn_clamp, nI_t, tn_nI, nI_add, pk_mul, rS_gS, rS_gA, rS_gL, rA_gS, rA_gA, rA_gL, rL_gS, rL_gA, rL_gL, and_self, and_false, false_and, if_true, if_false, true_or, or_true, or_false, false_or, sm_in, eqI, sI_s, Int32.toInt_zero, Int.natCast_zero, Int.natCast_one, Int.cast_ofNat_Int, Int.reduceEq, Int.reduceLT, Int.reduceLE, Int.reduceNeg, Int.reduceNe, ne_eq, n_up, g_up, e_cat, fr_A, fr_O, fr_P, fr_L, hS0, c2]
  repeat' (with_reducible refine And.intro ?_ ?_)
  all_goals (first | omega | skip)
  refine ⟨_, hm, fun v u2 hv => ?_⟩
  obtain ⟨rfl, hc⟩ := hv
  show J 1525 [some (.ref 1000), some (.ref 0), some (.ref 53), some (.ref 52), some (.int (nI i)), a, b] [.int x, .int x] u2
  apply hR 0
  simp (maxSteps := 10000000) (disch := omega) only [hS, hn, sm_eqs, hf, ha, sm_b0, Int.reduceToNat, ↓reduceIte, Nat.reduceEqDiff, true_and, and_true, List.length_nil, List.length_cons, Nat.reduceAdd, Nat.reduceLeDiff, Nat.zero_le, false_implies, true_implies, not_true_eq_false, not_false_eq_true, implies_true, Nat.reduceSub, Nat.reduceMul, Nat.reduceDiv, reduceCtorEq, tn_clamp, nI_t, tn_nI, nI_add, pk_mul, rS_gS, rS_gA, rS_gL, rA_gS, rA_gA, rA_gL, rL_gS, rL_gA, rL_gL, and_self, and_false, false_and, if_true, if_false, true_or, or_true, or_false, false_or, sm_in, eqI, sI_s, Int32.toInt_zero, Int.natCast_zero, Int.natCast_one, Int.cast_ofNat_Int, Int.reduceEq, Int.reduceLT, Int.reduceLE, Int.reduceNeg, Int.reduceNe, ne_eq, n_up, g_up, e_cat, fr_A, fr_O, fr_P, fr_L, hS0]
  exact next u2 hc

theorem nl_32 : (NL_law 1530 = some (.aload 1, 1531, false) ∧ NL_law 1531 = some (.aload 0, 1532, false) ∧ NL_law 1532 = some (.iload 4, 1534, false) ∧ NL_law 1534 = some (.ret 1, 1535, false) ∧ NL_law 1535 = some (.iadd, 1536, false)) ∧ (NL_law 1536 = some (.iaload, 1537, false) ∧ NL_law 1537 = some (.invokeinterface 157 2, 1540, false) ∧ NL_law 1540 = some (.aload 2, 1541, false) ∧ NL_law 1541 = some (.aload 0, 1542, false) ∧ NL_law 1542 = some (.iload 4, 1544, false)) ∧ (NL_law 1544 = some (.ret 1, 1545, false) ∧ NL_law 1545 = some (.iadd, 1546, false) ∧ NL_law 1546 = some (.iaload, 1547, false) ∧ NL_law 1547 = some (.invokeinterface 224 2, 1550, false) ∧ NL_law 1550 = some (.if_icmp .eq 1580, 1553, false)) ∧ (NL_law 1553 = some (.ret 0, 1554, false) ∧ NL_law 1554 = some (.ireturn, 1555, false)) := ⟨by decide +kernel, by decide +kernel, by decide +kernel, by decide +kernel⟩
set_option maxHeartbeats 4000000 in
set_option maxRecDepth 100000 in
theorem op_32 (K : Option Value → sm_G → Prop) (J : Nat → sm_Lo → List Value → sm_G → Prop) (S : Nat → Nat → sm_Lo → List Value → sm_G → Prop) (cs : Nat → sm_SP) (Ls : Nat) (xs : Nat → Int32) (hW : sm_walk lay NL_law cs (some (Ls, xs)) 1 K J S) (hS0 : ∀ pc ls st g, S 0 pc ls st g = J pc ls st g)
    (c1 : cs 157 = spM sp_X9_count) (c2 : cs 224 = spM (spE sp_X10_count)) (i : Nat) (hi : i + 5 ≤ Ls) (hL : Ls ≤ 2560) (g : sm_G) (a b : Option Value) (hg : CP g g) (next : ∀ u, CP u u → J 1580 [some (.ref 1000), some (.ref 0), some (.ref 53), some (.ref 52), some (.int (nI i)), a, b] [] u) : J 1530 [some (.ref 1000), some (.ref 0), some (.ref 53), some (.ref 52), some (.int (nI i)), a, b] [] g := by
  have hn := nl_32
  have hf := fd_all
  have ha := ar_all
  generalize NL_law = N at hn hW
  generalize lay = L at hf ha hW
  obtain ⟨hS, hR⟩ := hW
  apply hR 6
  simp (maxSteps := 10000000) (disch := omega) only [hS, hn, sm_eqs, hf, ha, sm_b0, Int.reduceToNat, ↓reduceIte, Nat.reduceEqDiff, true_and, and_true, List.length_nil, List.length_cons, Nat.reduceAdd, Nat.reduceLeDiff, Nat.zero_le, false_implies, true_implies, not_true_eq_false, not_false_eq_true, implies_true, Nat.reduceSub, Nat.reduceMul, Nat.reduceDiv, reduceCtorEq, tn_clamp, nI_t, tn_nI, nI_add, pk_mul, rS_gS, rS_gA, rS_gL, rA_gS, rA_gA, rA_gL, rL_gS, rL_gA, rL_gL, and_self, and_false, false_and, if_true, if_false, true_or, or_true, or_false, false_or, sm_in, eqI, sI_s, Int32.toInt_zero, Int.natCast_zero, Int.natCast_one, Int.cast_ofNat_Int, Int.reduceEq, Int.reduceLT, Int.reduceLE, Int.reduceNeg, Int.reduceNe, ne_eq, n_up, g_up, e_cat, fr_A, fr_O, fr_P, fr_L, hS0, c1]
  repeat' (with_reducible refine And.intro ?_ ?_)
  all_goals (first | omega | skip)
  refine ⟨_, co_count _ g hg, fun v u hv => ?_⟩
  obtain ⟨x, rfl, hm⟩ := hv
  show J 1540 [some (.ref 1000), some (.ref 0), some (.ref 53), some (.ref 52), some (.int (nI i)), a, b] [.int x] u
  apply hR 6
  simp (maxSteps := 10000000) (disch := omega) only [hS, hn, sm_eqs, hf, ha, sm_b0, Int.reduceToNat, ↓reduceIte, Nat.reduceEqDiff, true_and, and_true, List.length_nil, List.length_cons, Nat.reduceAdd, Nat.reduceLeDiff, Nat.zero_le, false_implies, true_implies, not_true_eq_false, not_false_eq_true, implies_true, Nat.reduceSub, Nat.reduceMul, Nat.reduceDiv, reduceCtorEq, tn_clamp, nI_t, tn_nI, nI_add, pk_mul, rS_gS, rS_gA, rS_gL, rA_gS, rA_gA, rA_gL, rL_gS, rL_gA, rL_gL, and_self, and_false, false_and, if_true, if_false, true_or, or_true, or_false, false_or, sm_in, eqI, sI_s, Int32.toInt_zero, Int.natCast_zero, Int.natCast_one, Int.cast_ofNat_Int, Int.reduceEq, Int.reduceLT, Int.reduceLE, Int.reduceNeg, Int.reduceNe, ne_eq, n_up, g_up, e_cat, fr_A, fr_O, fr_P, fr_L, hS0, c2]
  repeat' (with_reducible refine And.intro ?_ ?_)
  all_goals (first | omega | skip)
  refine ⟨_, hm, fun v u2 hv => ?_⟩
  obtain ⟨rfl, hc⟩ := hv
  show J 1550 [some (.ref 1000), some (.ref 0), some (.ref 53), some (.ref 52), some (.int (nI i)), a, b] [.int x, .int x] u2
  apply hR 0
  simp (maxSteps := 10000000) (disch := omega) only [hS, hn, sm_eqs, hf, ha, sm_b0, Int.reduceToNat, ↓reduceIte, Nat.reduceEqDiff, true_and, and_true, List.length_nil, List.length_cons, Nat.reduceAdd, Nat.reduceLeDiff, Nat.zero_le, false_implies, true_implies, not_true_eq_false, not_false_eq_true, implies_true, Nat.reduceSub, Nat.reduceMul, Nat.reduceDiv, reduceCtorEq, tn_clamp, nI_t, tn_nI, nI_add, pk_mul, rS_gS, rS_gA, rS_gL, rA_gS, rA_gA, rA_gL, rL_gS, rL_gA, rL_gL, and_self, and_false, false_and, if_true, if_false, true_or, or_true, or_false, false_or, sm_in, eqI, sI_s, Int32.toInt_zero, Int.natCast_zero, Int.natCast_one, Int.cast_ofNat_Int, Int.reduceEq, Int.reduceLT, Int.reduceLE, Int.reduceNeg, Int.reduceNe, ne_eq, n_up, g_up, e_cat, fr_A, fr_O, fr_P, fr_L, hS0]
  exact next u2 hc

theorem nl_33 : (NL_law 1555 = some (.aload 1, 1556, false) ∧ NL_law 1556 = some (.aload 0, 1557, false) ∧ NL_law 1557 = some (.iload 4, 1559, false) ∧ NL_law 1559 = some (.ret 1, 1560, false) ∧ NL_law 1560 = some (.iadd, 1561, false)) ∧ (NL_law 1561 = some (.iaload, 1562, false) ∧ NL_law 1562 = some (.invokeinterface 158 2, 1565, false) ∧ NL_law 1565 = some (.aload 2, 1566, false) ∧ NL_law 1566 = some (.aload 0, 1567, false) ∧ NL_law 1567 = some (.iload 4, 1569, false)) ∧ (NL_law 1569 = some (.ret 1, 1570, false) ∧ NL_law 1570 = some (.iadd, 1571, false) ∧ NL_law 1571 = some (.iaload, 1572, false) ∧ NL_law 1572 = some (.invokeinterface 225 2, 1575, false) ∧ NL_law 1575 = some (.if_icmp .eq 1580, 1578, false)) ∧ (NL_law 1578 = some (.ret 0, 1579, false) ∧ NL_law 1579 = some (.ireturn, 1580, false)) := ⟨by decide +kernel, by decide +kernel, by decide +kernel, by decide +kernel⟩
set_option maxHeartbeats 4000000 in
set_option maxRecDepth 100000 in
theorem op_33 (K : Option Value → sm_G → Prop) (J : Nat → sm_Lo → List Value → sm_G → Prop) (S : Nat → Nat → sm_Lo → List Value → sm_G → Prop) (cs : Nat → sm_SP) (Ls : Nat) (xs : Nat → Int32) (hW : sm_walk lay NL_law cs (some (Ls, xs)) 1 K J S) (hS0 : ∀ pc ls st g, S 0 pc ls st g = J pc ls st g)
    (c1 : cs 158 = spM sp_X9_gone) (c2 : cs 225 = spM (spE sp_X10_gone)) (i : Nat) (hi : i + 5 ≤ Ls) (hL : Ls ≤ 2560) (g : sm_G) (a b : Option Value) (hg : CP g g) (next : ∀ u, CP u u → J 1580 [some (.ref 1000), some (.ref 0), some (.ref 53), some (.ref 52), some (.int (nI i)), a, b] [] u) : J 1555 [some (.ref 1000), some (.ref 0), some (.ref 53), some (.ref 52), some (.int (nI i)), a, b] [] g := by
  have hn := nl_33
  have hf := fd_all
  have ha := ar_all
  generalize NL_law = N at hn hW
  generalize lay = L at hf ha hW
  obtain ⟨hS, hR⟩ := hW
  apply hR 6
  simp (maxSteps := 10000000) (disch := omega) only [hS, hn, sm_eqs, hf, ha, sm_b0, Int.reduceToNat, ↓reduceIte, Nat.reduceEqDiff, true_and, and_true, List.length_nil, List.length_cons, Nat.reduceAdd, Nat.reduceLeDiff, Nat.zero_le, false_implies, true_implies, not_true_eq_false, not_false_eq_true, implies_true, Nat.reduceSub, Nat.reduceMul, Nat.reduceDiv, reduceCtorEq, tn_clamp, nI_t, tn_nI, nI_add, pk_mul, rS_gS, rS_gA, rS_gL, rA_gS, rA_gA, rA_gL, rL_gS, rL_gA, rL_gL, and_self, and_false, false_and, if_true, if_false, true_or, or_true, or_false, false_or, sm_in, eqI, sI_s, Int32.toInt_zero, Int.natCast_zero, Int.natCast_one, Int.cast_ofNat_Int, Int.reduceEq, Int.reduceLT, Int.reduceLE, Int.reduceNeg, Int.reduceNe, ne_eq, n_up, g_up, e_cat, fr_A, fr_O, fr_P, fr_L, hS0, c1]
  repeat' (with_reducible refine And.intro ?_ ?_)
  all_goals (first | omega | skip)
  refine ⟨_, co_gone _ g hg, fun v u hv => ?_⟩
  obtain ⟨x, rfl, hm⟩ := hv
  show J 1565 [some (.ref 1000), some (.ref 0), some (.ref 53), some (.ref 52), some (.int (nI i)), a, b] [.int x] u
  apply hR 6
  simp (maxSteps := 10000000) (disch := omega) only [hS, hn, sm_eqs, hf, ha, sm_b0, Int.reduceToNat, ↓reduceIte, Nat.reduceEqDiff, true_and, and_true, List.length_nil, List.length_cons, Nat.reduceAdd, Nat.reduceLeDiff, Nat.zero_le, false_implies, true_implies, not_true_eq_false, not_false_eq_true, implies_true, Nat.reduceSub, Nat.reduceMul, Nat.reduceDiv, reduceCtorEq, tn_clamp, nI_t, tn_nI, nI_add, pk_mul, rS_gS, rS_gA, rS_gL, rA_gS, rA_gA, rA_gL, rL_gS, rL_gA, rL_gL, and_self, and_false, false_and, if_true, if_false, true_or, or_true, or_false, false_or, sm_in, eqI, sI_s, Int32.toInt_zero, Int.natCast_zero, Int.natCast_one, Int.cast_ofNat_Int, Int.reduceEq, Int.reduceLT, Int.reduceLE, Int.reduceNeg, Int.reduceNe, ne_eq, n_up, g_up, e_cat, fr_A, fr_O, fr_P, fr_L, hS0, c2]
  repeat' (with_reducible refine And.intro ?_ ?_)
  all_goals (first | omega | skip)
  refine ⟨_, hm, fun v u2 hv => ?_⟩
  obtain ⟨rfl, hc⟩ := hv
  show J 1575 [some (.ref 1000), some (.ref 0), some (.ref 53), some (.ref 52), some (.int (nI i)), a, b] [.int x, .int x] u2
  apply hR 0
  simp (maxSteps := 10000000) (disch := omega) only [hS, hn, sm_eqs, hf, ha, sm_b0, Int.reduceToNat, ↓reduceIte, Nat.reduceEqDiff, true_and, and_true, List.length_nil, List.length_cons, Nat.reduceAdd, Nat.reduceLeDiff, Nat.zero_le, false_implies, true_implies, not_true_eq_false, not_false_eq_true, implies_true, Nat.reduceSub, Nat.reduceMul, Nat.reduceDiv, reduceCtorEq, tn_clamp, nI_t, tn_nI, nI_add, pk_mul, rS_gS, rS_gA, rS_gL, rA_gS, rA_gA, rA_gL, rL_gS, rL_gA, rL_gL, and_self, and_false, false_and, if_true, if_false, true_or, or_true, or_false, false_or, sm_in, eqI, sI_s, Int32.toInt_zero, Int.natCast_zero, Int.natCast_one, Int.cast_ofNat_Int, Int.reduceEq, Int.reduceLT, Int.reduceLE, Int.reduceNeg, Int.reduceNe, ne_eq, n_up, g_up, e_cat, fr_A, fr_O, fr_P, fr_L, hS0]
  exact next u2 hc

