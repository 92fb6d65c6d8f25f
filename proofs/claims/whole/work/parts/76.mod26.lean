/-! The reference: what a report is worth with a thing. -/
theorem lgc_le (x y : Int64) : ((lg_cmp x y).toInt ≤ 0) = (x.toInt ≤ y.toInt) := by
  have h1 := lgc_lt x y
  have h2 := lgc_0 x y
  have h3 : (x = y) = (x.toInt = y.toInt) := propext Int64.toInt_inj.symm
  rw [h3] at h2
  apply propext
  have h1 := h1.to_iff
  have h2 := h2.to_iff
  omega
def sp_X10_worth (c : sm_G) : sm_SP := fun as g K => match as with
  | [.ref p, .int i, .int j] => p = 53 ∧ CP c g ∧ sm_in i 10 ∧ sm_in j 20 ∧ sm_in (rA g 74 (tn i)) 60 ∧ okT c (rA g 75 (tn j)) ∧ (ftC c (tn (rA g 74 (tn i))) (tn (rA g 75 (tn j))) → K (some (.long (lN (wtN (tn (stC c (tn (rA g 74 (tn i))) (tn (rA g 75 (tn j))))) (tn i) (tn j))))) g) ∧ (¬ ftC c (tn (rA g 74 (tn i))) (tn (rA g 75 (tn j))) → K (some (.long (Int64.ofInt (-1)))) g)
  | _ => False
theorem wf_X10_worth (c : sm_G) : sm_wf lay (yX10_worth, cX10_worth, 8, (some .long)) 3 false (sp_X10_worth c) := by
  intro as g K h
  simp only [sp_X10_worth] at h
  split at h
  · exact ⟨Nat.le_of_ble_eq_true rfl, by simp, rfl, fun _ => by obtain rfl := h.1; exact ⟨53, _, 10, [1, 1, 56, 57, 58, 59, 60, 61, 1, 1, 62, 63, 64, 65, 66, 67, 68, 69, 70, 71, 72, 73, 1, 74, 75, 76, 77, 1, 1, 78, 79, 1, 80, 1, 81, 1, 82, 83, 84, 85, 86, 1], TX10, 42, rfl, rfl, rfl⟩⟩
  · exact h.elim
set_option maxHeartbeats 4000000 in
set_option maxRecDepth 100000 in
theorem b_X10_worth (c : sm_G) : sm_body lay NX10_worth 8 2 (sm_cl [(182, sp_X10_isFitIn c), (185, sp_X10_strengthOf c)]) (sp_X10_worth c) := by
  intro K J S hW as g hs
  have hn := n_X10_worth
  have hf := fd_all
  have ha := ar_all
  generalize NX10_worth = N at hn hW
  generalize lay = L at hf ha hW
  obtain ⟨hS, hR⟩ := hW
  simp only [sp_X10_worth] at hs
  split at hs
  case h_2 => exact hs.elim
  simp only [e_args, sm_pad, List.length_cons, List.length_nil, Nat.reduceAdd, Nat.reduceSub, List.replicate_succ, List.replicate_zero, List.cons_append, List.nil_append]
  rename_i p i j
  obtain ⟨rfl, h, hi9, hj9, hm0, hd0, h1, h2⟩ := hs
  obtain ⟨a, ha9, rfl⟩ := sm_in_nI hi9
  obtain ⟨b, hb9, rfl⟩ := sm_in_nI hj9
  rw [tn_nI (by omega)] at hm0 h1 h2
  rw [tn_nI (by omega)] at hd0 h1 h2
  obtain ⟨m, hm, em⟩ := sm_in_nI hm0
  obtain ⟨d, hd, ed⟩ := ok_nI hd0
  clear hm0 hd0
  have hn2 := CP_n h
  rw [em, ed, tn_nI (by omega), tn_nI (by omega)] at h1 h2
  have hst := stC_bd h.1.1.1 h.1.2.2.1.1 (fun q hq => (h.1.1.2 q hq).2) m d
  have hko : okT c (nI d) := by unfold okT; rw [nI_t (by omega)]; omega
  have e20 : lN 20 - (nI b).toInt64 = lN (20 - b) := by rw [nI_l (by omega), lN_sub (by omega)]
  have eW : lN 16679880978201 * (stC c m d).toInt64 + lN ((20 - b) * 21 ^ (9 - a)) = lN (wtN (tn (stC c m d)) a b) := by
    have e : (stC c m d).toInt64 = lN (tn (stC c m d)) := by
      have h9 : stC c m d = nI (tn (stC c m d)) := nI_tn hst.1
      have h8 : tn (stC c m d) < 2147483648 := by unfold tn; omega
      conv => lhs; rw [h9]
      exact nI_l h8
    rw [e, lN_mul, lN_add, Nat.mul_comm]
    unfold wtN
    exact rfl
  have loop : ftC c m d → ∀ n k, n = 10 - k → a + 1 ≤ k → k ≤ 10 → J 42 [some (.ref 53), some (.int (nI a)), some (.int (nI b)), some (.int (nI m)), some (.int (nI d)), some (.long (lN ((20 - b) * 21 ^ (k - (a + 1))))), none, some (.int (nI k))] [] g := by
    intro hft n
    have h1 := h1 hft
    clear h2
    induction n with
    | zero =>
      intro k hm k1 k2
      obtain rfl : k = 10 := by omega
      have e : 10 - (a + 1) = 9 - a := by omega
      rw [e]
      apply hR 60
      simp (maxSteps := 10000000) (disch := omega) only [hS, hn, sm_eqs, hf, ha, sm_b0, Int.reduceToNat, ↓reduceIte, Nat.reduceEqDiff, true_and, and_true, List.length_nil, List.length_cons, Nat.reduceAdd, Nat.reduceLeDiff, Nat.zero_le, false_implies, true_implies, not_true_eq_false, not_false_eq_true, implies_true, Nat.reduceSub, Nat.reduceMul, Nat.reduceDiv, reduceCtorEq, tn_clamp, nI_t, tn_nI, nI_add, pk_mul, rS_gS, rS_gA, rS_gL, rA_gS, rA_gA, rA_gL, rL_gS, rL_gA, rL_gL, and_self, and_false, false_and, if_true, if_false, true_or, or_true, or_false, false_or, sm_in, eqI, sI_s, Int32.toInt_zero, Int.natCast_zero, Int.natCast_one, Int.cast_ofNat_Int, Int.reduceEq, Int.reduceLT, Int.reduceLE, Int.reduceNeg, Int.reduceNe, ne_eq, n_up, g_up, e_cat, fr_A, fr_O, fr_P, fr_L, sp_X10_isFitIn, sp_X10_strengthOf, h, hko, eW]
      clear hn hf ha hS hR
      repeat' (first | (refine And.intro ?_ ?_) | (intro _))
      all_goals (first | with_reducible assumption | omega | (exfalso; omega))
    | succ n ih =>
      intro k hm k1 k2
      have ih := ih (k + 1) (by omega) (by omega) (by omega)
      have e := pow21 (20 - b) (k - (a + 1))
      rw [show k - (a + 1) + 1 = k + 1 - (a + 1) by omega] at e
      clear h1
      apply hR 60
      simp (maxSteps := 10000000) (disch := omega) only [hS, hn, sm_eqs, hf, ha, sm_b0, Int.reduceToNat, ↓reduceIte, Nat.reduceEqDiff, true_and, and_true, List.length_nil, List.length_cons, Nat.reduceAdd, Nat.reduceLeDiff, Nat.zero_le, false_implies, true_implies, not_true_eq_false, not_false_eq_true, implies_true, Nat.reduceSub, Nat.reduceMul, Nat.reduceDiv, reduceCtorEq, tn_clamp, nI_t, tn_nI, nI_add, pk_mul, rS_gS, rS_gA, rS_gL, rA_gS, rA_gA, rA_gL, rL_gS, rL_gA, rL_gL, and_self, and_false, false_and, if_true, if_false, true_or, or_true, or_false, false_or, sm_in, eqI, sI_s, Int32.toInt_zero, Int.natCast_zero, Int.natCast_one, Int.cast_ofNat_Int, Int.reduceEq, Int.reduceLT, Int.reduceLE, Int.reduceNeg, Int.reduceNe, ne_eq, n_up, g_up, e_cat, fr_A, fr_O, fr_P, fr_L, sp_X10_isFitIn, sp_X10_strengthOf, e]
      clear hn hf ha hS hR
      repeat' (first | (refine And.intro ?_ ?_) | (intro _))
      all_goals (first | with_reducible assumption | omega | (exfalso; omega))
  have h0 : ftC c m d → J 42 [some (.ref 53), some (.int (nI a)), some (.int (nI b)), some (.int (nI m)), some (.int (nI d)), some (.long (lN (20 - b))), none, some (.int (nI (a + 1)))] [] g := fun hft => by
    have h0 := loop hft _ (a + 1) rfl (Nat.le_refl _) (by omega)
    rw [show a + 1 - (a + 1) = 0 by omega, Nat.pow_zero, Nat.mul_one] at h0
    exact h0
  clear h1 loop eW
  apply hR 60
  simp (maxSteps := 10000000) (disch := omega) only [hS, hn, sm_eqs, hf, ha, sm_b0, Int.reduceToNat, ↓reduceIte, Nat.reduceEqDiff, true_and, and_true, List.length_nil, List.length_cons, Nat.reduceAdd, Nat.reduceLeDiff, Nat.zero_le, false_implies, true_implies, not_true_eq_false, not_false_eq_true, implies_true, Nat.reduceSub, Nat.reduceMul, Nat.reduceDiv, reduceCtorEq, tn_clamp, nI_t, tn_nI, nI_add, pk_mul, rS_gS, rS_gA, rS_gL, rA_gS, rA_gA, rA_gL, rL_gS, rL_gA, rL_gL, and_self, and_false, false_and, if_true, if_false, true_or, or_true, or_false, false_or, sm_in, eqI, sI_s, Int32.toInt_zero, Int.natCast_zero, Int.natCast_one, Int.cast_ofNat_Int, Int.reduceEq, Int.reduceLT, Int.reduceLE, Int.reduceNeg, Int.reduceNe, ne_eq, n_up, g_up, e_cat, fr_A, fr_O, fr_P, fr_L, sp_X10_isFitIn, sp_X10_strengthOf, em, ed, h, hko, e20]
  clear hn hf ha hS hR
  exact ⟨⟨by omega, by omega⟩, ⟨by omega, by omega⟩, ⟨by omega, by omega⟩, h0, h2⟩
theorem ok_X10_worth (l : Launch) (c : sm_G) : sm_spok l lay sm_mt 5 192 (sp_X10_worth c) := Or.inr (Or.inr (Or.inr ⟨by decide, by decide, by
  rw [mt_192]
  exact sm_method (T := TX10_) v_cok v_lok v_ka v_tok_X10 mok_X10_worth rfl (by unfold sm_rk; simp) (wf_X10_worth c) (List.forall_mem_cons.mpr ⟨sm_spok_up (Nat.le_of_ble_eq_true rfl : 4 ≤ 4) (ok_X10_isFitIn l c), List.forall_mem_cons.mpr ⟨sm_spok_up (Nat.le_of_ble_eq_true rfl : 2 ≤ 4) (ok_X10_strengthOf l c), fun _ h => absurd h List.not_mem_nil⟩⟩) (b_X10_worth c)⟩))
