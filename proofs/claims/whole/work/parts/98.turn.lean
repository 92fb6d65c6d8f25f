/-! The law's two cases that catch, and one turn. -/
theorem eqK85 (g : sm_G) (f : Nat → Int64) : eqK g (gL g 52 f) := ⟨fun _ _ _ _ _ _ => rfl, fun _ _ => rfl, fun a ha => by rw [rL_gL, if_neg (by omega)]⟩
theorem mR85 (g : sm_G) (f : Nat → Int64) : mR g (gL g 52 f) := ⟨fun _ => rfl, fun _ _ _ => rfl, fun a h1 h2 => by rw [rL_gL, if_neg (by omega)]⟩
theorem CP85 {g : sm_G} (f : Nat → Int64) (hg : CP g g) : CP (gL g 52 f) (gL g 52 f) := CP_mR (mR85 g f) (CP_eqK (eqK85 g f) hg)

theorem nl_27 : (NL_law 1295 = some (.aload 1, 1296, false) ∧ NL_law 1296 = some (.aload 0, 1297, false) ∧ NL_law 1297 = some (.iload 4, 1299, false) ∧ NL_law 1299 = some (.ret 1, 1300, false) ∧ NL_law 1300 = some (.iadd, 1301, false)) ∧ (NL_law 1301 = some (.iaload, 1302, false) ∧ NL_law 1302 = some (.aload 0, 1303, false) ∧ NL_law 1303 = some (.iload 4, 1305, false) ∧ NL_law 1305 = some (.ret 2, 1306, false) ∧ NL_law 1306 = some (.iadd, 1307, false)) ∧ (NL_law 1307 = some (.iaload, 1308, false) ∧ NL_law 1308 = some (.aload 3, 1309, false) ∧ NL_law 1312 = some (.istore 5, 1314, false) ∧ NL_law 1314 = some (.aload 2, 1315, false) ∧ NL_law 1315 = some (.aload 0, 1316, false)) ∧ (NL_law 1316 = some (.iload 4, 1318, false) ∧ NL_law 1318 = some (.ret 1, 1319, false) ∧ NL_law 1319 = some (.iadd, 1320, false) ∧ NL_law 1320 = some (.iaload, 1321, false) ∧ NL_law 1321 = some (.aload 0, 1322, false)) ∧ (NL_law 1322 = some (.iload 4, 1324, false) ∧ NL_law 1324 = some (.ret 2, 1325, false) ∧ NL_law 1325 = some (.iadd, 1326, false) ∧ NL_law 1326 = some (.iaload, 1327, false) ∧ NL_law 1327 = some (.invokeinterface 217 3, 1330, false)) ∧ (NL_law 1330 = some (.istore 6, 1332, false) ∧ NL_law 1332 = some (.aload 2, 1333, false) ∧ NL_law 1333 = some (.invokeinterface 160 1, 1336, false) ∧ NL_law 1336 = some (.iload 5, 1338, false) ∧ NL_law 1338 = some (.if_icmp .eq 1343, 1341, false)) ∧ (NL_law 1341 = some (.ret 0, 1342, false) ∧ NL_law 1342 = some (.ireturn, 1343, false) ∧ NL_law 1343 = some (.iload 5, 1345, false) ∧ NL_law 1345 = some (.ifCond .ne 1360, 1348, false) ∧ NL_law 1348 = some (.aload 3, 1349, false)) ∧ (NL_law 1349 = some (.ret 0, 1350, false) ∧ NL_law 1350 = some (.laload, 1351, false) ∧ NL_law 1351 = some (.iload 6, 1353, false) ∧ NL_law 1353 = some (.i2l, 1354, false) ∧ NL_law 1354 = some (.lcmp, 1355, false)) ∧ (NL_law 1355 = some (.ifCond .eq 1360, 1358, false) ∧ NL_law 1358 = some (.ret 0, 1359, false) ∧ NL_law 1359 = some (.ireturn, 1360, false) ∧ NL_law 1360 = some (.goto 1580, 1363, false)) := ⟨by decide +kernel, by decide +kernel, by decide +kernel, by decide +kernel, by decide +kernel, by decide +kernel, by decide +kernel, by decide +kernel, by decide +kernel⟩
set_option maxHeartbeats 4000000 in
set_option maxRecDepth 100000 in
theorem op_27a (K : Option Value → sm_G → Prop) (J : Nat → sm_Lo → List Value → sm_G → Prop) (S : Nat → Nat → sm_Lo → List Value → sm_G → Prop) (cs : Nat → sm_SP) (Ls : Nat) (xs : Nat → Int32) (hW : sm_walk lay NL_law cs (some (Ls, xs)) 1 K J S) (hS0 : ∀ pc ls st g, S 0 pc ls st g = J pc ls st g)
    (i : Nat) (hi : i + 5 ≤ Ls) (hL : Ls ≤ 2560) (g : sm_G) (a b : Option Value) (h : J 1309 [some (.ref 1000), some (.ref 0), some (.ref 53), some (.ref 52), some (.int (nI i)), a, b] [.ref 52, .int (xs (i + 2)), .int (xs (i + 1)), .ref 0] g) : J 1295 [some (.ref 1000), some (.ref 0), some (.ref 53), some (.ref 52), some (.int (nI i)), a, b] [] g := by
  have hn := nl_27
  have hf := fd_all
  have ha := ar_all
  generalize NL_law = N at hn hW
  generalize lay = L at hf ha hW
  obtain ⟨hS, hR⟩ := hW
  apply hR 11
  simp (maxSteps := 10000000) (disch := omega) only [hS, hn, sm_eqs, hf, ha, sm_b0, Int.reduceToNat, ↓reduceIte, Nat.reduceEqDiff, true_and, and_true, List.length_nil, List.length_cons, Nat.reduceAdd, Nat.reduceLeDiff, Nat.zero_le, false_implies, true_implies, not_true_eq_false, not_false_eq_true, implies_true, Nat.reduceSub, Nat.reduceMul, Nat.reduceDiv, reduceCtorEq, tn_clamp, nI_t, tn_nI, nI_add, pk_mul, rS_gS, rS_gA, rS_gL, rA_gS, rA_gA, rA_gL, rL_gS, rL_gA, rL_gL, and_self, and_false, false_and, if_true, if_false, true_or, or_true, or_false, false_or, sm_in, eqI, sI_s, Int32.toInt_zero, Int.natCast_zero, Int.natCast_one, Int.cast_ofNat_Int, Int.reduceEq, Int.reduceLT, Int.reduceLE, Int.reduceNeg, Int.reduceNe, ne_eq, n_up, g_up, e_cat, fr_A, fr_O, fr_P, fr_L, hS0]
  repeat' (with_reducible refine And.intro ?_ ?_)
  all_goals (first | exact h | omega)
set_option maxHeartbeats 4000000 in
set_option maxRecDepth 100000 in
theorem op_27b (K : Option Value → sm_G → Prop) (J : Nat → sm_Lo → List Value → sm_G → Prop) (S : Nat → Nat → sm_Lo → List Value → sm_G → Prop) (cs : Nat → sm_SP) (Ls : Nat) (xs : Nat → Int32) (hW : sm_walk lay NL_law cs (some (Ls, xs)) 1 K J S) (hS0 : ∀ pc ls st g, S 0 pc ls st g = J pc ls st g)
    (c2 : cs 217 = spM (spE sp_X10_claimed)) (c3 : cs 160 = spM sp_X10_thrown) (i : Nat) (hi : i + 5 ≤ Ls) (hL : Ls ≤ 2560) (g h : sm_G) (a b : Option Value) (r : Int32) (hg : CP g g) (hv : xL_K g (claimedR g (xs (i + 1)) (xs (i + 2))) (some (.int r)) h)
    (next : ∀ a b u, CP u u → J 1580 [some (.ref 1000), some (.ref 0), some (.ref 53), some (.ref 52), some (.int (nI i)), a, b] [] u) : J 1312 [some (.ref 1000), some (.ref 0), some (.ref 53), some (.ref 52), some (.int (nI i)), a, b] [.int r] h := by
  have hn := nl_27
  have hf := fd_all
  have ha := ar_all
  generalize NL_law = N at hn hW
  generalize lay = L at hf ha hW
  obtain ⟨hS, hR⟩ := hW
  have hc : CP h h := by
    rcases hv with ⟨x, _, _, rfl⟩ | ⟨_, _, rfl⟩
    · exact CP85 _ hg
    · exact hg
  apply hR 12
  simp (maxSteps := 10000000) (disch := omega) only [hS, hn, sm_eqs, hf, ha, sm_b0, Int.reduceToNat, ↓reduceIte, Nat.reduceEqDiff, true_and, and_true, List.length_nil, List.length_cons, Nat.reduceAdd, Nat.reduceLeDiff, Nat.zero_le, false_implies, true_implies, not_true_eq_false, not_false_eq_true, implies_true, Nat.reduceSub, Nat.reduceMul, Nat.reduceDiv, reduceCtorEq, tn_clamp, nI_t, tn_nI, nI_add, pk_mul, rS_gS, rS_gA, rS_gL, rA_gS, rA_gA, rA_gL, rL_gS, rL_gA, rL_gL, and_self, and_false, false_and, if_true, if_false, true_or, or_true, or_false, false_or, sm_in, eqI, sI_s, Int32.toInt_zero, Int.natCast_zero, Int.natCast_one, Int.cast_ofNat_Int, Int.reduceEq, Int.reduceLT, Int.reduceLE, Int.reduceNeg, Int.reduceNe, ne_eq, n_up, g_up, e_cat, fr_A, fr_O, fr_P, fr_L, hS0, c2]
  repeat' (with_reducible refine And.intro ?_ ?_)
  all_goals (first | omega | skip)
  refine ⟨fun v u => CP u u ∧ rL u 52 = rL h 52 ∧ ((okC h (xs (i + 1)) ∧ 0 ≤ (xs (i + 2)).toInt ∧ (xs (i + 2)).toInt ≤ 2 ∧ rS u 53 1000 = nI 0 ∧ v = some (.int (clmA h (tn (xs (i + 1))) (xs (i + 2))))) ∨ (¬ (okC h (xs (i + 1)) ∧ 0 ≤ (xs (i + 2)).toInt ∧ (xs (i + 2)).toInt ≤ 2) ∧ rS u 53 1000 = nI 1 ∧ v = some (.int (nI 0)))),
    ⟨h, rfl, hc, fun u m hcu => ⟨fun e a1 a2 => ⟨LI_of (eqK_rf h) m hcu, m.2.2 52 (Or.inl (by omega)), Or.inl ⟨a1, a2.1, a2.2, e, rfl⟩⟩, fun e a1 => ⟨LI_of (eqK_rf h) m hcu, m.2.2 52 (Or.inl (by omega)), Or.inr ⟨a1, e, rfl⟩⟩⟩⟩, fun v u hv2 => ?_⟩
  obtain ⟨hcu, e85, hv2⟩ := hv2
  have nx := fun a b => next a b u hcu
  clear next
  rcases hv with ⟨x, hx, er, rfl⟩ | ⟨hx, er, rfl⟩
  · obtain rfl : r = nI 0 := by cases er; rfl
    unfold claimedR at hx
    split at hx
    · rename_i ok
      have ok := dc_t.mp ok
      cases hx
      rcases hv2 with ⟨k1, k2, k3, e0, rfl⟩ | ⟨k1, e0, rfl⟩
      · show J 1330 [some (.ref 1000), some (.ref 0), some (.ref 53), some (.ref 52), some (.int (nI i)), some (.int (nI 0)), b] [.int (clmA g (tn (xs (i + 1))) (xs (i + 2)))] u
        have e85 : rL u 52 = vp_updL (rL g 52) 0 (clmA g (tn (xs (i + 1))) (xs (i + 2))).toInt64 := by rw [e85, rL_gL, if_pos rfl]
        apply hR 2
        simp (maxSteps := 10000000) (disch := omega) only [hS, hn, sm_eqs, hf, ha, sm_b0, Int.reduceToNat, ↓reduceIte, Nat.reduceEqDiff, true_and, and_true, List.length_nil, List.length_cons, Nat.reduceAdd, Nat.reduceLeDiff, Nat.zero_le, false_implies, true_implies, not_true_eq_false, not_false_eq_true, implies_true, Nat.reduceSub, Nat.reduceMul, Nat.reduceDiv, reduceCtorEq, tn_clamp, nI_t, tn_nI, nI_add, pk_mul, rS_gS, rS_gA, rS_gL, rA_gS, rA_gA, rA_gL, rL_gS, rL_gA, rL_gL, and_self, and_false, false_and, if_true, if_false, true_or, or_true, or_false, false_or, sm_in, eqI, sI_s, Int32.toInt_zero, Int.natCast_zero, Int.natCast_one, Int.cast_ofNat_Int, Int.reduceEq, Int.reduceLT, Int.reduceLE, Int.reduceNeg, Int.reduceNe, ne_eq, n_up, g_up, e_cat, fr_A, fr_O, fr_P, fr_L, hS0, c3]
        refine ⟨fun v u' => v = some (.int (rS u 53 1000)) ∧ u' = u, ⟨rfl, rfl, rfl⟩, fun v u' hv3 => ?_⟩
        obtain ⟨rfl, rfl⟩ := hv3
        rw [e0]
        show J 1336 [some (.ref 1000), some (.ref 0), some (.ref 53), some (.ref 52), some (.int (nI i)), some (.int (nI 0)), some (.int (clmA g (tn (xs (i + 1))) (xs (i + 2))))] [.int (nI 0)] u'
        apply hR 11
        simp (maxSteps := 10000000) (disch := omega) only [hS, hn, sm_eqs, hf, ha, sm_b0, Int.reduceToNat, ↓reduceIte, Nat.reduceEqDiff, true_and, and_true, List.length_nil, List.length_cons, Nat.reduceAdd, Nat.reduceLeDiff, Nat.zero_le, false_implies, true_implies, not_true_eq_false, not_false_eq_true, implies_true, Nat.reduceSub, Nat.reduceMul, Nat.reduceDiv, reduceCtorEq, tn_clamp, nI_t, tn_nI, nI_add, pk_mul, rS_gS, rS_gA, rS_gL, rA_gS, rA_gA, rA_gL, rL_gS, rL_gA, rL_gL, and_self, and_false, false_and, if_true, if_false, true_or, or_true, or_false, false_or, sm_in, eqI, sI_s, Int32.toInt_zero, Int.natCast_zero, Int.natCast_one, Int.cast_ofNat_Int, Int.reduceEq, Int.reduceLT, Int.reduceLE, Int.reduceNeg, Int.reduceNe, ne_eq, n_up, g_up, e_cat, fr_A, fr_O, fr_P, fr_L, hS0, e85, updL_s, lgc_0]
        first
        | exact nx _ _
        | fail "G"
      · exact (k1 ok).elim
    · cases hx
  · obtain rfl : r = nI 1 := by cases er; rfl
    unfold claimedR at hx
    split at hx
    · cases hx
    · rename_i ok
      have ok := fun z => ok (dc_t.mpr z)
      rcases hv2 with ⟨k1, k2, k3, e0, rfl⟩ | ⟨k1, e0, rfl⟩
      · exact (ok ⟨k1, k2, k3⟩).elim
      · show J 1330 [some (.ref 1000), some (.ref 0), some (.ref 53), some (.ref 52), some (.int (nI i)), some (.int (nI 1)), b] [.int (nI 0)] u
        apply hR 2
        simp (maxSteps := 10000000) (disch := omega) only [hS, hn, sm_eqs, hf, ha, sm_b0, Int.reduceToNat, ↓reduceIte, Nat.reduceEqDiff, true_and, and_true, List.length_nil, List.length_cons, Nat.reduceAdd, Nat.reduceLeDiff, Nat.zero_le, false_implies, true_implies, not_true_eq_false, not_false_eq_true, implies_true, Nat.reduceSub, Nat.reduceMul, Nat.reduceDiv, reduceCtorEq, tn_clamp, nI_t, tn_nI, nI_add, pk_mul, rS_gS, rS_gA, rS_gL, rA_gS, rA_gA, rA_gL, rL_gS, rL_gA, rL_gL, and_self, and_false, false_and, if_true, if_false, true_or, or_true, or_false, false_or, sm_in, eqI, sI_s, Int32.toInt_zero, Int.natCast_zero, Int.natCast_one, Int.cast_ofNat_Int, Int.reduceEq, Int.reduceLT, Int.reduceLE, Int.reduceNeg, Int.reduceNe, ne_eq, n_up, g_up, e_cat, fr_A, fr_O, fr_P, fr_L, hS0, c3]
        refine ⟨fun v u' => v = some (.int (rS u 53 1000)) ∧ u' = u, ⟨rfl, rfl, rfl⟩, fun v u' hv3 => ?_⟩
        obtain ⟨rfl, rfl⟩ := hv3
        rw [e0]
        show J 1336 [some (.ref 1000), some (.ref 0), some (.ref 53), some (.ref 52), some (.int (nI i)), some (.int (nI 1)), some (.int (nI 0))] [.int (nI 1)] u'
        apply hR 4
        simp (maxSteps := 10000000) (disch := omega) only [hS, hn, sm_eqs, hf, ha, sm_b0, Int.reduceToNat, ↓reduceIte, Nat.reduceEqDiff, true_and, and_true, List.length_nil, List.length_cons, Nat.reduceAdd, Nat.reduceLeDiff, Nat.zero_le, false_implies, true_implies, not_true_eq_false, not_false_eq_true, implies_true, Nat.reduceSub, Nat.reduceMul, Nat.reduceDiv, reduceCtorEq, tn_clamp, nI_t, tn_nI, nI_add, pk_mul, rS_gS, rS_gA, rS_gL, rA_gS, rA_gA, rA_gL, rL_gS, rL_gA, rL_gL, and_self, and_false, false_and, if_true, if_false, true_or, or_true, or_false, false_or, sm_in, eqI, sI_s, Int32.toInt_zero, Int.natCast_zero, Int.natCast_one, Int.cast_ofNat_Int, Int.reduceEq, Int.reduceLT, Int.reduceLE, Int.reduceNeg, Int.reduceNe, ne_eq, n_up, g_up, e_cat, fr_A, fr_O, fr_P, fr_L, hS0]
        first
        | exact nx _ _
        | fail "G"

theorem nl_29 : (NL_law 1400 = some (.aload 1, 1401, false) ∧ NL_law 1401 = some (.aload 0, 1402, false) ∧ NL_law 1402 = some (.iload 4, 1404, false) ∧ NL_law 1404 = some (.ret 1, 1405, false) ∧ NL_law 1405 = some (.iadd, 1406, false)) ∧ (NL_law 1406 = some (.iaload, 1407, false) ∧ NL_law 1407 = some (.aload 0, 1408, false) ∧ NL_law 1408 = some (.iload 4, 1410, false) ∧ NL_law 1410 = some (.ret 2, 1411, false) ∧ NL_law 1411 = some (.iadd, 1412, false)) ∧ (NL_law 1412 = some (.iaload, 1413, false) ∧ NL_law 1413 = some (.aload 3, 1414, false) ∧ NL_law 1417 = some (.istore 5, 1419, false) ∧ NL_law 1419 = some (.aload 2, 1420, false) ∧ NL_law 1420 = some (.aload 0, 1421, false)) ∧ (NL_law 1421 = some (.iload 4, 1423, false) ∧ NL_law 1423 = some (.ret 1, 1424, false) ∧ NL_law 1424 = some (.iadd, 1425, false) ∧ NL_law 1425 = some (.iaload, 1426, false) ∧ NL_law 1426 = some (.aload 0, 1427, false)) ∧ (NL_law 1427 = some (.iload 4, 1429, false) ∧ NL_law 1429 = some (.ret 2, 1430, false) ∧ NL_law 1430 = some (.iadd, 1431, false) ∧ NL_law 1431 = some (.iaload, 1432, false) ∧ NL_law 1432 = some (.invokeinterface 220 3, 1435, false)) ∧ (NL_law 1435 = some (.istore 6, 1437, false) ∧ NL_law 1437 = some (.aload 2, 1438, false) ∧ NL_law 1438 = some (.invokeinterface 160 1, 1441, false) ∧ NL_law 1441 = some (.iload 5, 1443, false) ∧ NL_law 1443 = some (.if_icmp .eq 1448, 1446, false)) ∧ (NL_law 1446 = some (.ret 0, 1447, false) ∧ NL_law 1447 = some (.ireturn, 1448, false) ∧ NL_law 1448 = some (.iload 5, 1450, false) ∧ NL_law 1450 = some (.ifCond .ne 1465, 1453, false) ∧ NL_law 1453 = some (.aload 3, 1454, false)) ∧ (NL_law 1454 = some (.ret 0, 1455, false) ∧ NL_law 1455 = some (.laload, 1456, false) ∧ NL_law 1456 = some (.iload 6, 1458, false) ∧ NL_law 1458 = some (.i2l, 1459, false) ∧ NL_law 1459 = some (.lcmp, 1460, false)) ∧ (NL_law 1460 = some (.ifCond .eq 1465, 1463, false) ∧ NL_law 1463 = some (.ret 0, 1464, false) ∧ NL_law 1464 = some (.ireturn, 1465, false) ∧ NL_law 1465 = some (.goto 1580, 1468, false)) := ⟨by decide +kernel, by decide +kernel, by decide +kernel, by decide +kernel, by decide +kernel, by decide +kernel, by decide +kernel, by decide +kernel, by decide +kernel⟩
set_option maxHeartbeats 4000000 in
set_option maxRecDepth 100000 in
theorem op_29a (K : Option Value → sm_G → Prop) (J : Nat → sm_Lo → List Value → sm_G → Prop) (S : Nat → Nat → sm_Lo → List Value → sm_G → Prop) (cs : Nat → sm_SP) (Ls : Nat) (xs : Nat → Int32) (hW : sm_walk lay NL_law cs (some (Ls, xs)) 1 K J S) (hS0 : ∀ pc ls st g, S 0 pc ls st g = J pc ls st g)
    (i : Nat) (hi : i + 5 ≤ Ls) (hL : Ls ≤ 2560) (g : sm_G) (a b : Option Value) (h : J 1414 [some (.ref 1000), some (.ref 0), some (.ref 53), some (.ref 52), some (.int (nI i)), a, b] [.ref 52, .int (xs (i + 2)), .int (xs (i + 1)), .ref 0] g) : J 1400 [some (.ref 1000), some (.ref 0), some (.ref 53), some (.ref 52), some (.int (nI i)), a, b] [] g := by
  have hn := nl_29
  have hf := fd_all
  have ha := ar_all
  generalize NL_law = N at hn hW
  generalize lay = L at hf ha hW
  obtain ⟨hS, hR⟩ := hW
  apply hR 11
  simp (maxSteps := 10000000) (disch := omega) only [hS, hn, sm_eqs, hf, ha, sm_b0, Int.reduceToNat, ↓reduceIte, Nat.reduceEqDiff, true_and, and_true, List.length_nil, List.length_cons, Nat.reduceAdd, Nat.reduceLeDiff, Nat.zero_le, false_implies, true_implies, not_true_eq_false, not_false_eq_true, implies_true, Nat.reduceSub, Nat.reduceMul, Nat.reduceDiv, reduceCtorEq, tn_clamp, nI_t, tn_nI, nI_add, pk_mul, rS_gS, rS_gA, rS_gL, rA_gS, rA_gA, rA_gL, rL_gS, rL_gA, rL_gL, and_self, and_false, false_and, if_true, if_false, true_or, or_true, or_false, false_or, sm_in, eqI, sI_s, Int32.toInt_zero, Int.natCast_zero, Int.natCast_one, Int.cast_ofNat_Int, Int.reduceEq, Int.reduceLT, Int.reduceLE, Int.reduceNeg, Int.reduceNe, ne_eq, n_up, g_up, e_cat, fr_A, fr_O, fr_P, fr_L, hS0]
  repeat' (with_reducible refine And.intro ?_ ?_)
  all_goals (first | exact h | omega)
set_option maxHeartbeats 4000000 in
set_option maxRecDepth 100000 in
theorem op_29b (K : Option Value → sm_G → Prop) (J : Nat → sm_Lo → List Value → sm_G → Prop) (S : Nat → Nat → sm_Lo → List Value → sm_G → Prop) (cs : Nat → sm_SP) (Ls : Nat) (xs : Nat → Int32) (hW : sm_walk lay NL_law cs (some (Ls, xs)) 1 K J S) (hS0 : ∀ pc ls st g, S 0 pc ls st g = J pc ls st g)
    (c2 : cs 220 = spM (spE sp_X10_place)) (c3 : cs 160 = spM sp_X10_thrown) (i : Nat) (hi : i + 5 ≤ Ls) (hL : Ls ≤ 2560) (g h : sm_G) (a b : Option Value) (r : Int32) (hg : CP g g) (hv : xL_K g (placeR g (xs (i + 1)) (xs (i + 2))) (some (.int r)) h)
    (next : ∀ a b u, CP u u → J 1580 [some (.ref 1000), some (.ref 0), some (.ref 53), some (.ref 52), some (.int (nI i)), a, b] [] u) : J 1417 [some (.ref 1000), some (.ref 0), some (.ref 53), some (.ref 52), some (.int (nI i)), a, b] [.int r] h := by
  have hn := nl_29
  have hf := fd_all
  have ha := ar_all
  generalize NL_law = N at hn hW
  generalize lay = L at hf ha hW
  obtain ⟨hS, hR⟩ := hW
  have hc : CP h h := by
    rcases hv with ⟨x, _, _, rfl⟩ | ⟨_, _, rfl⟩
    · exact CP85 _ hg
    · exact hg
  apply hR 12
  simp (maxSteps := 10000000) (disch := omega) only [hS, hn, sm_eqs, hf, ha, sm_b0, Int.reduceToNat, ↓reduceIte, Nat.reduceEqDiff, true_and, and_true, List.length_nil, List.length_cons, Nat.reduceAdd, Nat.reduceLeDiff, Nat.zero_le, false_implies, true_implies, not_true_eq_false, not_false_eq_true, implies_true, Nat.reduceSub, Nat.reduceMul, Nat.reduceDiv, reduceCtorEq, tn_clamp, nI_t, tn_nI, nI_add, pk_mul, rS_gS, rS_gA, rS_gL, rA_gS, rA_gA, rA_gL, rL_gS, rL_gA, rL_gL, and_self, and_false, false_and, if_true, if_false, true_or, or_true, or_false, false_or, sm_in, eqI, sI_s, Int32.toInt_zero, Int.natCast_zero, Int.natCast_one, Int.cast_ofNat_Int, Int.reduceEq, Int.reduceLT, Int.reduceLE, Int.reduceNeg, Int.reduceNe, ne_eq, n_up, g_up, e_cat, fr_A, fr_O, fr_P, fr_L, hS0, c2]
  repeat' (with_reducible refine And.intro ?_ ?_)
  all_goals (first | omega | skip)
  refine ⟨fun v u => CP u u ∧ rL u 52 = rL h 52 ∧ ((okT h (xs (i + 1)) ∧ 0 ≤ (xs (i + 2)).toInt ∧ (xs (i + 2)).toInt ≤ 9 ∧ rS u 53 1000 = nI 0 ∧ v = some (.int (plcA h (tn (xs (i + 1))) (xs (i + 2))))) ∨ (¬ (okT h (xs (i + 1)) ∧ 0 ≤ (xs (i + 2)).toInt ∧ (xs (i + 2)).toInt ≤ 9) ∧ rS u 53 1000 = nI 1 ∧ v = some (.int (nI 0)))),
    ⟨h, rfl, hc, fun u m hcu => ⟨fun e a1 a2 => ⟨LI_of (eqK_rf h) m hcu, m.2.2 52 (Or.inl (by omega)), Or.inl ⟨a1, a2.1, a2.2, e, rfl⟩⟩, fun e a1 => ⟨LI_of (eqK_rf h) m hcu, m.2.2 52 (Or.inl (by omega)), Or.inr ⟨a1, e, rfl⟩⟩⟩⟩, fun v u hv2 => ?_⟩
  obtain ⟨hcu, e85, hv2⟩ := hv2
  have nx := fun a b => next a b u hcu
  clear next
  rcases hv with ⟨x, hx, er, rfl⟩ | ⟨hx, er, rfl⟩
  · obtain rfl : r = nI 0 := by cases er; rfl
    unfold placeR at hx
    split at hx
    · rename_i ok
      have ok := dc_t.mp ok
      cases hx
      rcases hv2 with ⟨k1, k2, k3, e0, rfl⟩ | ⟨k1, e0, rfl⟩
      · show J 1435 [some (.ref 1000), some (.ref 0), some (.ref 53), some (.ref 52), some (.int (nI i)), some (.int (nI 0)), b] [.int (plcA g (tn (xs (i + 1))) (xs (i + 2)))] u
        have e85 : rL u 52 = vp_updL (rL g 52) 0 (plcA g (tn (xs (i + 1))) (xs (i + 2))).toInt64 := by rw [e85, rL_gL, if_pos rfl]
        apply hR 2
        simp (maxSteps := 10000000) (disch := omega) only [hS, hn, sm_eqs, hf, ha, sm_b0, Int.reduceToNat, ↓reduceIte, Nat.reduceEqDiff, true_and, and_true, List.length_nil, List.length_cons, Nat.reduceAdd, Nat.reduceLeDiff, Nat.zero_le, false_implies, true_implies, not_true_eq_false, not_false_eq_true, implies_true, Nat.reduceSub, Nat.reduceMul, Nat.reduceDiv, reduceCtorEq, tn_clamp, nI_t, tn_nI, nI_add, pk_mul, rS_gS, rS_gA, rS_gL, rA_gS, rA_gA, rA_gL, rL_gS, rL_gA, rL_gL, and_self, and_false, false_and, if_true, if_false, true_or, or_true, or_false, false_or, sm_in, eqI, sI_s, Int32.toInt_zero, Int.natCast_zero, Int.natCast_one, Int.cast_ofNat_Int, Int.reduceEq, Int.reduceLT, Int.reduceLE, Int.reduceNeg, Int.reduceNe, ne_eq, n_up, g_up, e_cat, fr_A, fr_O, fr_P, fr_L, hS0, c3]
        refine ⟨fun v u' => v = some (.int (rS u 53 1000)) ∧ u' = u, ⟨rfl, rfl, rfl⟩, fun v u' hv3 => ?_⟩
        obtain ⟨rfl, rfl⟩ := hv3
        rw [e0]
        show J 1441 [some (.ref 1000), some (.ref 0), some (.ref 53), some (.ref 52), some (.int (nI i)), some (.int (nI 0)), some (.int (plcA g (tn (xs (i + 1))) (xs (i + 2))))] [.int (nI 0)] u'
        apply hR 11
        simp (maxSteps := 10000000) (disch := omega) only [hS, hn, sm_eqs, hf, ha, sm_b0, Int.reduceToNat, ↓reduceIte, Nat.reduceEqDiff, true_and, and_true, List.length_nil, List.length_cons, Nat.reduceAdd, Nat.reduceLeDiff, Nat.zero_le, false_implies, true_implies, not_true_eq_false, not_false_eq_true, implies_true, Nat.reduceSub, Nat.reduceMul, Nat.reduceDiv, reduceCtorEq, tn_clamp, nI_t, tn_nI, nI_add, pk_mul, rS_gS, rS_gA, rS_gL, rA_gS, rA_gA, rA_gL, rL_gS, rL_gA, rL_gL, and_self, and_false, false_and, if_true, if_false, true_or, or_true, or_false, false_or, sm_in, eqI, sI_s, Int32.toInt_zero, Int.natCast_zero, Int.natCast_one, Int.cast_ofNat_Int, Int.reduceEq, Int.reduceLT, Int.reduceLE, Int.reduceNeg, Int.reduceNe, ne_eq, n_up, g_up, e_cat, fr_A, fr_O, fr_P, fr_L, hS0, e85, updL_s, lgc_0]
        first
        | exact nx _ _
        | fail "G"
      · exact (k1 ok).elim
    · cases hx
  · obtain rfl : r = nI 1 := by cases er; rfl
    unfold placeR at hx
    split at hx
    · cases hx
    · rename_i ok
      have ok := fun z => ok (dc_t.mpr z)
      rcases hv2 with ⟨k1, k2, k3, e0, rfl⟩ | ⟨k1, e0, rfl⟩
      · exact (ok ⟨k1, k2, k3⟩).elim
      · show J 1435 [some (.ref 1000), some (.ref 0), some (.ref 53), some (.ref 52), some (.int (nI i)), some (.int (nI 1)), b] [.int (nI 0)] u
        apply hR 2
        simp (maxSteps := 10000000) (disch := omega) only [hS, hn, sm_eqs, hf, ha, sm_b0, Int.reduceToNat, ↓reduceIte, Nat.reduceEqDiff, true_and, and_true, List.length_nil, List.length_cons, Nat.reduceAdd, Nat.reduceLeDiff, Nat.zero_le, false_implies, true_implies, not_true_eq_false, not_false_eq_true, implies_true, Nat.reduceSub, Nat.reduceMul, Nat.reduceDiv, reduceCtorEq, tn_clamp, nI_t, tn_nI, nI_add, pk_mul, rS_gS, rS_gA, rS_gL, rA_gS, rA_gA, rA_gL, rL_gS, rL_gA, rL_gL, and_self, and_false, false_and, if_true, if_false, true_or, or_true, or_false, false_or, sm_in, eqI, sI_s, Int32.toInt_zero, Int.natCast_zero, Int.natCast_one, Int.cast_ofNat_Int, Int.reduceEq, Int.reduceLT, Int.reduceLE, Int.reduceNeg, Int.reduceNe, ne_eq, n_up, g_up, e_cat, fr_A, fr_O, fr_P, fr_L, hS0, c3]
        refine ⟨fun v u' => v = some (.int (rS u 53 1000)) ∧ u' = u, ⟨rfl, rfl, rfl⟩, fun v u' hv3 => ?_⟩
        obtain ⟨rfl, rfl⟩ := hv3
        rw [e0]
        show J 1441 [some (.ref 1000), some (.ref 0), some (.ref 53), some (.ref 52), some (.int (nI i)), some (.int (nI 1)), some (.int (nI 0))] [.int (nI 1)] u'
        apply hR 4
        simp (maxSteps := 10000000) (disch := omega) only [hS, hn, sm_eqs, hf, ha, sm_b0, Int.reduceToNat, ↓reduceIte, Nat.reduceEqDiff, true_and, and_true, List.length_nil, List.length_cons, Nat.reduceAdd, Nat.reduceLeDiff, Nat.zero_le, false_implies, true_implies, not_true_eq_false, not_false_eq_true, implies_true, Nat.reduceSub, Nat.reduceMul, Nat.reduceDiv, reduceCtorEq, tn_clamp, nI_t, tn_nI, nI_add, pk_mul, rS_gS, rS_gA, rS_gL, rA_gS, rA_gA, rA_gL, rL_gS, rL_gA, rL_gL, and_self, and_false, false_and, if_true, if_false, true_or, or_true, or_false, false_or, sm_in, eqI, sI_s, Int32.toInt_zero, Int.natCast_zero, Int.natCast_one, Int.cast_ofNat_Int, Int.reduceEq, Int.reduceLT, Int.reduceLE, Int.reduceNeg, Int.reduceNe, ne_eq, n_up, g_up, e_cat, fr_A, fr_O, fr_P, fr_L, hS0]
        first
        | exact nx _ _
        | fail "G"

theorem nl_t : (NL_law 23 = some (.iload 4, 25, true) ∧ NL_law 25 = some (.aload 0, 26, false) ∧ NL_law 26 = some (.arraylength, 27, false) ∧ NL_law 27 = some (.ret 5, 28, false) ∧ NL_law 28 = some (.isub, 29, false)) ∧ (NL_law 29 = some (.if_icmp .gt 1586, 32, false) ∧ NL_law 32 = some (.aload 0, 33, false) ∧ NL_law 33 = some (.iload 4, 35, false) ∧ NL_law 35 = some (.iaload, 36, false) ∧ NL_law 36 = some (.ret 63, 38, false)) ∧ (NL_law 38 = some (.iand, 39, false) ∧ NL_law 39 = some (.tableswitch 1580 0 33 #[188, 237, 314, 363, 440, 465, 542, 607, 672, 725, 762, 799, 836, 861, 898, 923, 948, 973, 1010, 1047, 1084, 1109, 1134, 1171, 1220, 1245, 1270, 1295, 1363, 1400, 1468, 1505, 1530, 1555], 188, false) ∧ NL_law 1580 = some (.multianewarray 4 5, 1583, false) ∧ NL_law 1583 = some (.goto 23, 1586, false) ∧ NL_law 1586 = some (.ret 1, 1587, false)) ∧ (NL_law 1587 = some (.ireturn, 1588, false)) := ⟨by decide +kernel, by decide +kernel, by decide +kernel, by decide +kernel⟩
def lw_cs : List (Nat × sm_SP) := [(115, spM sp_X9_question), (116, spM sp_X9_may), (117, spM sp_X9_mays), (118, spM sp_X9_thing), (119, spM sp_X9_report), (120, spM sp_X9_mark), (121, spM sp_X9_tear), (122, spM sp_X9_known), (123, spM sp_X9_length), (126, spM sp_X9_fits), (127, spM sp_X9_tells), (128, spM sp_X9_strength), (130, spM sp_X9_fitting), (131, spM sp_X9_fit), (133, spM sp_X9_best), (134, spM sp_X9_sum), (135, spM sp_X9_also), (137, spM sp_X9_group), (138, spM sp_X9_like), (139, spM sp_X9_parts), (140, spM sp_X9_ask), (141, spM sp_X9_fewest), (142, spM sp_X9_claim), (143, spM sp_X9_prove), (144, spM sp_X9_give), (145, spM sp_X9_withdraw), (146, spM sp_X9_close), (149, spM sp_X9_into), (151, spM sp_X9_days), (152, spM sp_X9_day), (157, spM sp_X9_count), (158, spM sp_X9_gone), (160, spM sp_X10_thrown), (162, spM (spE sp_X10_question)), (166, spM (spE sp_X10_may)), (167, spM (spE sp_X10_mays)), (172, spM (spE sp_X10_thing)), (173, spM (spE sp_X10_report)), (175, spM (spE sp_X10_mark)), (176, spM (spE sp_X10_tear)), (178, spM (spE sp_X10_known)), (179, spM (spE sp_X10_length)), (183, spM (spE sp_X10_fits)), (184, spM (spE sp_X10_tells)), (186, spM (spE sp_X10_strength)), (188, spM (spE sp_X10_fitting)), (189, spM (spE sp_X10_fit)), (196, spM (spE sp_X10_best)), (197, spM (spE sp_X10_sum)), (198, spM (spE sp_X10_also)), (199, spM (spE sp_X10_group)), (200, spM (spE sp_X10_like)), (203, spM (spE sp_X10_parts)), (204, spM (spE sp_X10_ask)), (207, spM (spE sp_X10_fewest)), (210, spM (spE sp_X10_claim)), (211, spM (spE sp_X10_prove)), (214, spM (spE sp_X10_give)), (215, spM (spE sp_X10_withdraw)), (216, spM (spE sp_X10_close)), (217, spM (spE sp_X10_claimed)), (218, spM (spE sp_X10_into)), (220, spM (spE sp_X10_place)), (221, spM (spE sp_X10_days)), (223, spM (spE sp_X10_day)), (224, spM (spE sp_X10_count)), (225, spM (spE sp_X10_gone))]

set_option maxHeartbeats 4000000 in
set_option maxRecDepth 100000 in
theorem lw_sw (K : Option Value → sm_G → Prop) (J : Nat → sm_Lo → List Value → sm_G → Prop) (S : Nat → Nat → sm_Lo → List Value → sm_G → Prop) (Ls : Nat) (xs : Nat → Int32) (hW : sm_walk lay NL_law (sm_cl lw_cs) (some (Ls, xs)) 1 K J S) (hS0 : ∀ pc ls st g, S 0 pc ls st g = J pc ls st g)
    (i : Nat) (hi : i + 5 ≤ Ls) (hL : Ls ≤ 2560) (g : sm_G) (a b : Option Value) (hg : CP g g) (next : ∀ a b u, CP u u → J 1580 [some (.ref 1000), some (.ref 0), some (.ref 53), some (.ref 52), some (.int (nI i)), a, b] [] u)
    (h27 : J 1309 [some (.ref 1000), some (.ref 0), some (.ref 53), some (.ref 52), some (.int (nI i)), a, b] [.ref 52, .int (xs (i + 2)), .int (xs (i + 1)), .ref 0] g) (h29 : J 1414 [some (.ref 1000), some (.ref 0), some (.ref 53), some (.ref 52), some (.int (nI i)), a, b] [.ref 52, .int (xs (i + 2)), .int (xs (i + 1)), .ref 0] g) (z : Int32) : J 39 [some (.ref 1000), some (.ref 0), some (.ref 53), some (.ref 52), some (.int (nI i)), a, b] [.int z] g := by
  have hW2 := hW
  have hn := nl_t
  have hf := fd_all
  have ha := ar_all
  generalize NL_law = N at hn hW2
  generalize lay = L at hf ha hW2
  obtain ⟨hS, hR⟩ := hW2
  apply hR 0
  simp (maxSteps := 10000000) (disch := omega) only [hS, hn, sm_eqs, hf, ha, sm_b0, Int.reduceToNat, ↓reduceIte, Nat.reduceEqDiff, true_and, and_true, List.length_nil, List.length_cons, Nat.reduceAdd, Nat.reduceLeDiff, Nat.zero_le, false_implies, true_implies, not_true_eq_false, not_false_eq_true, implies_true, Nat.reduceSub, Nat.reduceMul, Nat.reduceDiv, reduceCtorEq, tn_clamp, nI_t, tn_nI, nI_add, pk_mul, rS_gS, rS_gA, rS_gL, rA_gS, rA_gA, rA_gL, rL_gS, rL_gA, rL_gL, and_self, and_false, false_and, if_true, if_false, true_or, or_true, or_false, false_or, sm_in, eqI, sI_s, Int32.toInt_zero, Int.natCast_zero, Int.natCast_one, Int.cast_ofNat_Int, Int.reduceEq, Int.reduceLT, Int.reduceLE, Int.reduceNeg, Int.reduceNe, ne_eq, n_up, g_up, e_cat, fr_A, fr_O, fr_P, fr_L, hS0]
  refine ⟨fun _ => next a b g hg, ?_⟩
  clear hn hf ha hS hR
  repeat' (with_reducible refine And.intro (fun _ => ?_) ?_)
  · exact op_0 K J S (sm_cl lw_cs) Ls xs hW hS0 (by rfl) (by rfl) i hi hL g a b hg (next a b)
  · exact op_1 K J S (sm_cl lw_cs) Ls xs hW hS0 (by rfl) (by rfl) i hi hL g a b hg (next a b)
  · exact op_2 K J S (sm_cl lw_cs) Ls xs hW hS0 (by rfl) (by rfl) i hi hL g a b hg (next a b)
  · exact op_3 K J S (sm_cl lw_cs) Ls xs hW hS0 (by rfl) (by rfl) i hi hL g a b hg (next a b)
  · exact op_4 K J S (sm_cl lw_cs) Ls xs hW hS0 (by rfl) (by rfl) i hi hL g a b hg (next a b)
  · exact op_5 K J S (sm_cl lw_cs) Ls xs hW hS0 (by rfl) (by rfl) i hi hL g a b hg (next a b)
  · exact op_6 K J S (sm_cl lw_cs) Ls xs hW hS0 (by rfl) (by rfl) i hi hL g a b hg (next a b)
  · exact op_7 K J S (sm_cl lw_cs) Ls xs hW hS0 (by rfl) (by rfl) i hi hL g a b hg (next a b)
  · exact op_8 K J S (sm_cl lw_cs) Ls xs hW hS0 (by rfl) (by rfl) i hi hL g a b hg (next a b)
  · exact op_9 K J S (sm_cl lw_cs) Ls xs hW hS0 (by rfl) (by rfl) i hi hL g a b hg (next a b)
  · exact op_10 K J S (sm_cl lw_cs) Ls xs hW hS0 (by rfl) (by rfl) i hi hL g a b hg (next a b)
  · exact op_11 K J S (sm_cl lw_cs) Ls xs hW hS0 (by rfl) (by rfl) i hi hL g a b hg (next a b)
  · exact op_12 K J S (sm_cl lw_cs) Ls xs hW hS0 (by rfl) (by rfl) i hi hL g a b hg (next a b)
  · exact op_13 K J S (sm_cl lw_cs) Ls xs hW hS0 (by rfl) (by rfl) i hi hL g a b hg (next a b)
  · exact op_14 K J S (sm_cl lw_cs) Ls xs hW hS0 (by rfl) (by rfl) i hi hL g a b hg (next a b)
  · exact op_15 K J S (sm_cl lw_cs) Ls xs hW hS0 (by rfl) (by rfl) i hi hL g a b hg (next a b)
  · exact op_16 K J S (sm_cl lw_cs) Ls xs hW hS0 (by rfl) (by rfl) i hi hL g a b hg (next a b)
  · exact op_17 K J S (sm_cl lw_cs) Ls xs hW hS0 (by rfl) (by rfl) i hi hL g a b hg (next a b)
  · exact op_18 K J S (sm_cl lw_cs) Ls xs hW hS0 (by rfl) (by rfl) i hi hL g a b hg (next a b)
  · exact op_19 K J S (sm_cl lw_cs) Ls xs hW hS0 (by rfl) (by rfl) i hi hL g a b hg (next a b)
  · exact op_20 K J S (sm_cl lw_cs) Ls xs hW hS0 (by rfl) (by rfl) i hi hL g a b hg (next a b)
  · exact op_21 K J S (sm_cl lw_cs) Ls xs hW hS0 (by rfl) (by rfl) i hi hL g a b hg (next a b)
  · exact op_22 K J S (sm_cl lw_cs) Ls xs hW hS0 (by rfl) (by rfl) i hi hL g a b hg (next a b)
  · exact op_23 K J S (sm_cl lw_cs) Ls xs hW hS0 (by rfl) (by rfl) i hi hL g a b hg (next a b)
  · exact op_24 K J S (sm_cl lw_cs) Ls xs hW hS0 (by rfl) (by rfl) i hi hL g a b hg (next a b)
  · exact op_25 K J S (sm_cl lw_cs) Ls xs hW hS0 (by rfl) (by rfl) i hi hL g a b hg (next a b)
  · exact op_26 K J S (sm_cl lw_cs) Ls xs hW hS0 (by rfl) (by rfl) i hi hL g a b hg (next a b)
  · exact op_27a K J S (sm_cl lw_cs) Ls xs hW hS0 i hi hL g a b h27
  · exact op_28 K J S (sm_cl lw_cs) Ls xs hW hS0 (by rfl) (by rfl) i hi hL g a b hg (next a b)
  · exact op_29a K J S (sm_cl lw_cs) Ls xs hW hS0 i hi hL g a b h29
  · exact op_30 K J S (sm_cl lw_cs) Ls xs hW hS0 (by rfl) (by rfl) i hi hL g a b hg (next a b)
  · exact op_31 K J S (sm_cl lw_cs) Ls xs hW hS0 (by rfl) (by rfl) i hi hL g a b hg (next a b)
  · exact op_32 K J S (sm_cl lw_cs) Ls xs hW hS0 (by rfl) (by rfl) i hi hL g a b hg (next a b)
  · exact fun _ => op_33 K J S (sm_cl lw_cs) Ls xs hW hS0 (by rfl) (by rfl) i hi hL g a b hg (next a b)

set_option maxHeartbeats 4000000 in
set_option maxRecDepth 100000 in
theorem lw_turn (K : Option Value → sm_G → Prop) (J : Nat → sm_Lo → List Value → sm_G → Prop) (S : Nat → Nat → sm_Lo → List Value → sm_G → Prop) (Ls : Nat) (xs : Nat → Int32) (hW : sm_walk lay NL_law (sm_cl lw_cs) (some (Ls, xs)) 1 K J S) (hS0 : ∀ pc ls st g, S 0 pc ls st g = J pc ls st g)
    (i : Nat) (hi0 : i ≤ 2560) (hL : Ls ≤ 2560) (g : sm_G) (a b : Option Value) (hg : CP g g) (hK : K (some (.int (nI 1))) g) (next : i + 5 ≤ Ls → ∀ a b u, CP u u → J 23 [some (.ref 1000), some (.ref 0), some (.ref 53), some (.ref 52), some (.int (nI (i + 5))), a, b] [] u)
    (h27 : i + 5 ≤ Ls → J 1309 [some (.ref 1000), some (.ref 0), some (.ref 53), some (.ref 52), some (.int (nI i)), a, b] [.ref 52, .int (xs (i + 2)), .int (xs (i + 1)), .ref 0] g) (h29 : i + 5 ≤ Ls → J 1414 [some (.ref 1000), some (.ref 0), some (.ref 53), some (.ref 52), some (.int (nI i)), a, b] [.ref 52, .int (xs (i + 2)), .int (xs (i + 1)), .ref 0] g) : J 23 [some (.ref 1000), some (.ref 0), some (.ref 53), some (.ref 52), some (.int (nI i)), a, b] [] g := by
  have sw : i + 5 ≤ Ls → (∀ a b u, CP u u → J 1580 [some (.ref 1000), some (.ref 0), some (.ref 53), some (.ref 52), some (.int (nI i)), a, b] [] u) → ∀ z, J 39 [some (.ref 1000), some (.ref 0), some (.ref 53), some (.ref 52), some (.int (nI i)), a, b] [.int z] g := fun hi nx z => lw_sw K J S Ls xs hW hS0 i hi hL g a b hg nx (h27 hi) (h29 hi) z
  clear h27 h29
  have hn := nl_t
  have hf := fd_all
  have ha := ar_all
  generalize NL_law = N at hn hW
  generalize lay = L at hf ha hW
  obtain ⟨hS, hR⟩ := hW
  have nx : i + 5 ≤ Ls → ∀ a b u, CP u u → J 1580 [some (.ref 1000), some (.ref 0), some (.ref 53), some (.ref 52), some (.int (nI i)), a, b] [] u := by
    intro hi a b u hu
    have next := next hi a b u hu
    apply hR 1
    simp (maxSteps := 10000000) (disch := omega) only [hS, hn, sm_eqs, hf, ha, sm_b0, Int.reduceToNat, ↓reduceIte, Nat.reduceEqDiff, true_and, and_true, List.length_nil, List.length_cons, Nat.reduceAdd, Nat.reduceLeDiff, Nat.zero_le, false_implies, true_implies, not_true_eq_false, not_false_eq_true, implies_true, Nat.reduceSub, Nat.reduceMul, Nat.reduceDiv, reduceCtorEq, tn_clamp, nI_t, tn_nI, nI_add, pk_mul, rS_gS, rS_gA, rS_gL, rA_gS, rA_gA, rA_gL, rL_gS, rL_gA, rL_gL, and_self, and_false, false_and, if_true, if_false, true_or, or_true, or_false, false_or, sm_in, eqI, sI_s, Int32.toInt_zero, Int.natCast_zero, Int.natCast_one, Int.cast_ofNat_Int, Int.reduceEq, Int.reduceLT, Int.reduceLE, Int.reduceNeg, Int.reduceNe, ne_eq, n_up, g_up, e_cat, fr_A, fr_O, fr_P, fr_L, hS0]
    first
    | exact next
    | fail "G"
  have e5 : (nI Ls - nI 5).toInt = (Ls : Int) - 5 := pk_sub_toInt (by omega) (by omega)
  have s32 : i + 5 ≤ Ls → J 32 [some (.ref 1000), some (.ref 0), some (.ref 53), some (.ref 52), some (.int (nI i)), a, b] [] g := by
    intro hi
    have sw := sw hi (nx hi)
    apply hR 4
    simp (maxSteps := 10000000) (disch := omega) only [hS, hn, sm_eqs, hf, ha, sm_b0, Int.reduceToNat, ↓reduceIte, Nat.reduceEqDiff, true_and, and_true, List.length_nil, List.length_cons, Nat.reduceAdd, Nat.reduceLeDiff, Nat.zero_le, false_implies, true_implies, not_true_eq_false, not_false_eq_true, implies_true, Nat.reduceSub, Nat.reduceMul, Nat.reduceDiv, reduceCtorEq, tn_clamp, nI_t, tn_nI, nI_add, pk_mul, rS_gS, rS_gA, rS_gL, rA_gS, rA_gA, rA_gL, rL_gS, rL_gA, rL_gL, and_self, and_false, false_and, if_true, if_false, true_or, or_true, or_false, false_or, sm_in, eqI, sI_s, Int32.toInt_zero, Int.natCast_zero, Int.natCast_one, Int.cast_ofNat_Int, Int.reduceEq, Int.reduceLT, Int.reduceLE, Int.reduceNeg, Int.reduceNe, ne_eq, n_up, g_up, e_cat, fr_A, fr_O, fr_P, fr_L, hS0]
    repeat' (with_reducible refine And.intro ?_ ?_)
    all_goals (first | exact sw _ | omega | fail "G")
  have s1586 : J 1586 [some (.ref 1000), some (.ref 0), some (.ref 53), some (.ref 52), some (.int (nI i)), a, b] [] g := by
    apply hR 1
    simp (maxSteps := 10000000) (disch := omega) only [hS, hn, sm_eqs, hf, ha, sm_b0, Int.reduceToNat, ↓reduceIte, Nat.reduceEqDiff, true_and, and_true, List.length_nil, List.length_cons, Nat.reduceAdd, Nat.reduceLeDiff, Nat.zero_le, false_implies, true_implies, not_true_eq_false, not_false_eq_true, implies_true, Nat.reduceSub, Nat.reduceMul, Nat.reduceDiv, reduceCtorEq, tn_clamp, nI_t, tn_nI, nI_add, pk_mul, rS_gS, rS_gA, rS_gL, rA_gS, rA_gA, rA_gL, rL_gS, rL_gA, rL_gL, and_self, and_false, false_and, if_true, if_false, true_or, or_true, or_false, false_or, sm_in, eqI, sI_s, Int32.toInt_zero, Int.natCast_zero, Int.natCast_one, Int.cast_ofNat_Int, Int.reduceEq, Int.reduceLT, Int.reduceLE, Int.reduceNeg, Int.reduceNe, ne_eq, n_up, g_up, e_cat, fr_A, fr_O, fr_P, fr_L, hS0]
    first
    | exact hK
    | exact ⟨by decide, hK⟩
    | fail "G"
  apply hR 5
  simp (maxSteps := 10000000) (disch := omega) only [hS, hn, sm_eqs, hf, ha, sm_b0, Int.reduceToNat, ↓reduceIte, Nat.reduceEqDiff, true_and, and_true, List.length_nil, List.length_cons, Nat.reduceAdd, Nat.reduceLeDiff, Nat.zero_le, false_implies, true_implies, not_true_eq_false, not_false_eq_true, implies_true, Nat.reduceSub, Nat.reduceMul, Nat.reduceDiv, reduceCtorEq, tn_clamp, nI_t, tn_nI, nI_add, pk_mul, rS_gS, rS_gA, rS_gL, rA_gS, rA_gA, rA_gL, rL_gS, rL_gA, rL_gL, and_self, and_false, false_and, if_true, if_false, true_or, or_true, or_false, false_or, sm_in, eqI, sI_s, Int32.toInt_zero, Int.natCast_zero, Int.natCast_one, Int.cast_ofNat_Int, Int.reduceEq, Int.reduceLT, Int.reduceLE, Int.reduceNeg, Int.reduceNe, ne_eq, n_up, g_up, e_cat, fr_A, fr_O, fr_P, fr_L, hS0, e5]
  clear hn hf ha hS hR
  first
  | exact ⟨fun _ => s1586, fun h => s32 (by omega)⟩
  | fail "G"

