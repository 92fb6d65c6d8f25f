/-! The reference: a claim. -/
def sp_X10_claim (c : sm_G) : sm_SP := fun as g K => match as with
  | [.ref p, .int r, .int t] => p = 53 ∧ CP c g ∧ (¬ opn c r → ∀ h, mS g h → CP c h → K (some (.int (sI 0))) h) ∧ (opn c r → (¬ okT c t → ∀ h, mS g h → CP c h → K (some (.int (sI 1))) h) ∧ (okT c t → (¬ whyC c (tn t) = -1 → ∀ h, mS g h → CP c h → K (some (.int (sI 2))) h) ∧ (whyC c (tn t) = -1 →
      (¬ fitC c (tn r) (tn t) → ∀ h, mS g h → CP c h → K (some (.int (sI 3))) h) ∧ (fitC c (tn r) (tn t) → ((∃ k, k < nC c ∧ (rA c 28 k).toInt ≤ 1 ∧ (rA c 26 k).toInt = r.toInt ∧ (rA c 27 k).toInt = t.toInt) → ∀ h, mS g h → CP c h → K (some (.int (sI 4))) h) ∧ ((¬ ∃ k, k < nC c ∧ (rA c 28 k).toInt ≤ 1 ∧ (rA c 26 k).toInt = r.toInt ∧ (rA c 27 k).toInt = t.toInt) →
      (¬ nC c < 100 → ∀ h, mS g h → CP c h → K (some (.int (sI 5))) h) ∧ (nC c < 100 → ∀ h, mS g h → CP (clmG c r t) h → K (some (.int (nI (nC c)))) h))))))
  | _ => False
theorem wf_X10_claim (c : sm_G) : sm_wf lay (yX10_claim, cX10_claim, 4, (some .int)) 3 false (sp_X10_claim c) := by
  intro as g K h
  simp only [sp_X10_claim] at h
  split at h
  · exact ⟨Nat.le_of_ble_eq_true rfl, by simp, rfl, fun _ => by obtain rfl := h.1; exact ⟨53, _, 10, [1, 1, 56, 57, 58, 59, 60, 61, 1, 1, 62, 63, 64, 65, 66, 67, 68, 69, 70, 71, 72, 73, 1, 74, 75, 76, 77, 1, 1, 78, 79, 1, 80, 1, 81, 1, 82, 83, 84, 85, 86, 1], TX10, 42, rfl, rfl, rfl⟩⟩
  · exact h.elim
set_option maxHeartbeats 4000000 in
set_option maxRecDepth 100000 in
theorem b_X10_claim (c : sm_G) : sm_body lay NX10_claim 4 0 (sm_cl [(194, sp_X10_isOpen c), (168, sp_X10_isThing c), (170, sp_X10_isOut c), (181, sp_X10_isFit c), (208, sp_X10_stands)]) (sp_X10_claim c) := by
  intro K J S hW as g hs
  have hn := n_X10_claim
  have hf := fd_all
  have ha := ar_all
  generalize NX10_claim = N at hn hW
  generalize lay = L at hf ha hW
  obtain ⟨hS, hR⟩ := hW
  simp only [sp_X10_claim] at hs
  split at hs
  case h_2 => exact hs.elim
  simp only [e_args, sm_pad, List.length_cons, List.length_nil, Nat.reduceAdd, Nat.reduceSub, List.replicate_succ, List.replicate_zero, List.cons_append, List.nil_append]
  rename_i p r t
  obtain ⟨rfl, h, h1, h2⟩ := hs
  have hn2 := CP_n h
  obtain ⟨z, zn⟩ := CP_zM h
  have zc := h.2.2.2.2.1
  have zf : ∀ v, zM (gS g 53 1000 v) := fun v => z
  have nf : ∀ v, mC (gS g 53 1000 v) = nC c := fun v => zn
  have sf : ∀ v j, stM (gS g 53 1000 v) j = stM g j := fun v j => rfl
  have base : mS g (gS g 53 1000 (nI 0)) := mS_S (mS_rf g)
  by_cases ho : opn c r
  · obtain ⟨h3, h4⟩ := h2 ho
    obtain ⟨r, hr, rfl⟩ := ok_nI ho.1
    by_cases hot : okT c t
    · obtain ⟨t, ht, rfl⟩ := ok_nI hot
      obtain ⟨h5, h6⟩ := h4 hot
      rw [tn_nI (by omega)] at h5 h6
      rw [tn_nI (by omega)] at h6
      by_cases hy : whyC c t = -1
      · obtain ⟨h7, h8⟩ := h6 hy
        by_cases hfi : fitC c r t
        · obtain ⟨h9, h10⟩ := h8 hfi
          rw [nI_t (by omega), nI_t (by omega)] at h9 h10
          have h9 := fun a => h9 a _ base h
          clear h1 h2 h3 h4 h5 h6 h7 h8
          have loop : ∀ m k, m = nC c - k → k ≤ nC c → (∀ u, u < k → ¬ ((rA c 28 u).toInt ≤ 1 ∧ (rA c 26 u).toInt = r ∧ (rA c 27 u).toInt = t)) → J 51 [some (.ref 53), some (.int (nI r)), some (.int (nI t)), some (.int (nI k))] [] (gS g 53 1000 (nI 0)) := by
            intro m
            induction m with
            | zero =>
              intro k hm hk hu
              obtain rfl : k = nC c := by omega
              obtain ⟨h11, h12⟩ := h10 (fun ⟨u, u1, u2⟩ => hu u u1 u2)
              have h11 := fun a => h11 a _ base h
              have h12 := fun a => h12 a _ (mS_S (mS_S (mS_A (mS_A (mS_A (mS_rf g) (by omega)) (by omega)) (by omega)))) (CP_clm h hr ht hy a)
              have hm1 : nI (nC c + 1) - nI 1 = nI (nC c) := by rw [pk_sub (by omega)]; rfl
              clear h9 h10
              by_cases hfull : nC c < 100
              · have h12 := h12 hfull
                have hne : ¬ (nC c : Int) = 100 := by omega
                clear h11
                apply hR 90
                simp (maxSteps := 10000000) (disch := omega) only [hS, hn, sm_eqs, hf, ha, sm_b0, Int.reduceToNat, ↓reduceIte, Nat.reduceEqDiff, true_and, and_true, List.length_nil, List.length_cons, Nat.reduceAdd, Nat.reduceLeDiff, Nat.zero_le, false_implies, true_implies, not_true_eq_false, not_false_eq_true, implies_true, Nat.reduceSub, Nat.reduceMul, Nat.reduceDiv, reduceCtorEq, tn_clamp, nI_t, tn_nI, nI_add, pk_mul, rS_gS, rS_gA, rS_gL, rA_gS, rA_gA, rA_gL, rL_gS, rL_gA, rL_gL, and_self, and_false, false_and, if_true, if_false, true_or, or_true, or_false, false_or, sm_in, eqI, sI_s, Int32.toInt_zero, Int.natCast_zero, Int.natCast_one, Int.cast_ofNat_Int, Int.reduceEq, Int.reduceLT, Int.reduceLE, Int.reduceNeg, Int.reduceNe, ne_eq, n_up, g_up, e_cat, fr_A, fr_O, fr_P, fr_L, sp_X10_isOpen, sp_X10_isThing, sp_X10_isOut, sp_X10_isFit, sp_X10_stands, zc, hm1, hne]
                clear hn hf ha hS hR
                repeat' (first | (refine And.intro ?_ ?_) | (intro _))
                all_goals (first | with_reducible assumption | omega | (exfalso; omega))
              · have h11 := h11 hfull
                have hne : (nC c : Int) = 100 := by omega
                clear h12
                apply hR 90
                simp (maxSteps := 10000000) (disch := omega) only [hS, hn, sm_eqs, hf, ha, sm_b0, Int.reduceToNat, ↓reduceIte, Nat.reduceEqDiff, true_and, and_true, List.length_nil, List.length_cons, Nat.reduceAdd, Nat.reduceLeDiff, Nat.zero_le, false_implies, true_implies, not_true_eq_false, not_false_eq_true, implies_true, Nat.reduceSub, Nat.reduceMul, Nat.reduceDiv, reduceCtorEq, tn_clamp, nI_t, tn_nI, nI_add, pk_mul, rS_gS, rS_gA, rS_gL, rA_gS, rA_gA, rA_gL, rL_gS, rL_gA, rL_gL, and_self, and_false, false_and, if_true, if_false, true_or, or_true, or_false, false_or, sm_in, eqI, sI_s, Int32.toInt_zero, Int.natCast_zero, Int.natCast_one, Int.cast_ofNat_Int, Int.reduceEq, Int.reduceLT, Int.reduceLE, Int.reduceNeg, Int.reduceNe, ne_eq, n_up, g_up, e_cat, fr_A, fr_O, fr_P, fr_L, sp_X10_isOpen, sp_X10_isThing, sp_X10_isOut, sp_X10_isFit, sp_X10_stands, zc, hne]
                clear hn hf ha hS hR
                repeat' (first | (refine And.intro ?_ ?_) | (intro _))
                all_goals (first | with_reducible assumption | omega | (exfalso; omega))
            | succ m ih =>
              intro k hm hk hu
              have hs0 := CP_stM h (show k < nC c by omega)
              have e80 := h.2.2.2.2.2.1 k (by omega)
              have e81 := h.2.2.2.2.2.2.1 k (by omega)
              have h9 : stM g k → (rA c 26 k).toInt = r → (rA c 27 k).toInt = t → _ := fun a b d => h9 ⟨k, by omega, hs0.mp a, b, d⟩
              have ih := fun (a : ¬ ((rA c 28 k).toInt ≤ 1 ∧ (rA c 26 k).toInt = r ∧ (rA c 27 k).toInt = t)) => ih (k + 1) (by omega) (by omega) (fun u hu2 => by
                by_cases e : u = k
                · rw [e]; exact a
                · exact hu u (by omega))
              have ih : ¬ (stM g k ∧ (rA c 26 k).toInt = r ∧ (rA c 27 k).toInt = t) → _ := fun a => ih (fun b => a ⟨hs0.mpr b.1, b.2⟩)
              clear h10
              apply hR 90
              simp (maxSteps := 10000000) (disch := omega) only [hS, hn, sm_eqs, hf, ha, sm_b0, Int.reduceToNat, ↓reduceIte, Nat.reduceEqDiff, true_and, and_true, List.length_nil, List.length_cons, Nat.reduceAdd, Nat.reduceLeDiff, Nat.zero_le, false_implies, true_implies, not_true_eq_false, not_false_eq_true, implies_true, Nat.reduceSub, Nat.reduceMul, Nat.reduceDiv, reduceCtorEq, tn_clamp, nI_t, tn_nI, nI_add, pk_mul, rS_gS, rS_gA, rS_gL, rA_gS, rA_gA, rA_gL, rL_gS, rL_gA, rL_gL, and_self, and_false, false_and, if_true, if_false, true_or, or_true, or_false, false_or, sm_in, eqI, sI_s, Int32.toInt_zero, Int.natCast_zero, Int.natCast_one, Int.cast_ofNat_Int, Int.reduceEq, Int.reduceLT, Int.reduceLE, Int.reduceNeg, Int.reduceNe, ne_eq, n_up, g_up, e_cat, fr_A, fr_O, fr_P, fr_L, sp_X10_isOpen, sp_X10_isThing, sp_X10_isOut, sp_X10_isFit, sp_X10_stands, zc, zf, nf, sf, e80, e81]
              clear hn hf ha hS hR
              have hk3 : 0 ≤ (k : Int) ∧ (k : Int) < nC c := by omega
              grind
          have h0 := loop _ 0 rfl (Nat.zero_le _) (fun u hu => by omega)
          clear loop h9 h10
          apply hR 90
          simp (maxSteps := 10000000) (disch := omega) only [hS, hn, sm_eqs, hf, ha, sm_b0, Int.reduceToNat, ↓reduceIte, Nat.reduceEqDiff, true_and, and_true, List.length_nil, List.length_cons, Nat.reduceAdd, Nat.reduceLeDiff, Nat.zero_le, false_implies, true_implies, not_true_eq_false, not_false_eq_true, implies_true, Nat.reduceSub, Nat.reduceMul, Nat.reduceDiv, reduceCtorEq, tn_clamp, nI_t, tn_nI, nI_add, pk_mul, rS_gS, rS_gA, rS_gL, rA_gS, rA_gA, rA_gL, rL_gS, rL_gA, rL_gL, and_self, and_false, false_and, if_true, if_false, true_or, or_true, or_false, false_or, sm_in, eqI, sI_s, Int32.toInt_zero, Int.natCast_zero, Int.natCast_one, Int.cast_ofNat_Int, Int.reduceEq, Int.reduceLT, Int.reduceLE, Int.reduceNeg, Int.reduceNe, ne_eq, n_up, g_up, e_cat, fr_A, fr_O, fr_P, fr_L, sp_X10_isOpen, sp_X10_isThing, sp_X10_isOut, sp_X10_isFit, sp_X10_stands, h, cp_fr, ho, hot, hy, hfi]
          clear hn hf ha hS hR
          repeat' (first | (refine And.intro ?_ ?_) | (intro _))
          all_goals (first | with_reducible assumption | omega | (exfalso; omega))
        · have h7 := h7 hfi _ base h
          clear h1 h2 h3 h4 h5 h6 h8
          apply hR 90
          simp (maxSteps := 10000000) (disch := omega) only [hS, hn, sm_eqs, hf, ha, sm_b0, Int.reduceToNat, ↓reduceIte, Nat.reduceEqDiff, true_and, and_true, List.length_nil, List.length_cons, Nat.reduceAdd, Nat.reduceLeDiff, Nat.zero_le, false_implies, true_implies, not_true_eq_false, not_false_eq_true, implies_true, Nat.reduceSub, Nat.reduceMul, Nat.reduceDiv, reduceCtorEq, tn_clamp, nI_t, tn_nI, nI_add, pk_mul, rS_gS, rS_gA, rS_gL, rA_gS, rA_gA, rA_gL, rL_gS, rL_gA, rL_gL, and_self, and_false, false_and, if_true, if_false, true_or, or_true, or_false, false_or, sm_in, eqI, sI_s, Int32.toInt_zero, Int.natCast_zero, Int.natCast_one, Int.cast_ofNat_Int, Int.reduceEq, Int.reduceLT, Int.reduceLE, Int.reduceNeg, Int.reduceNe, ne_eq, n_up, g_up, e_cat, fr_A, fr_O, fr_P, fr_L, sp_X10_isOpen, sp_X10_isThing, sp_X10_isOut, sp_X10_isFit, sp_X10_stands, h, cp_fr, ho, hot, hy, hfi]
          clear hn hf ha hS hR
          repeat' (first | (refine And.intro ?_ ?_) | (intro _))
          all_goals (first | with_reducible assumption | omega | (exfalso; omega))
      · have h5 := h5 hy _ base h
        clear h1 h2 h3 h4 h6
        apply hR 90
        simp (maxSteps := 10000000) (disch := omega) only [hS, hn, sm_eqs, hf, ha, sm_b0, Int.reduceToNat, ↓reduceIte, Nat.reduceEqDiff, true_and, and_true, List.length_nil, List.length_cons, Nat.reduceAdd, Nat.reduceLeDiff, Nat.zero_le, false_implies, true_implies, not_true_eq_false, not_false_eq_true, implies_true, Nat.reduceSub, Nat.reduceMul, Nat.reduceDiv, reduceCtorEq, tn_clamp, nI_t, tn_nI, nI_add, pk_mul, rS_gS, rS_gA, rS_gL, rA_gS, rA_gA, rA_gL, rL_gS, rL_gA, rL_gL, and_self, and_false, false_and, if_true, if_false, true_or, or_true, or_false, false_or, sm_in, eqI, sI_s, Int32.toInt_zero, Int.natCast_zero, Int.natCast_one, Int.cast_ofNat_Int, Int.reduceEq, Int.reduceLT, Int.reduceLE, Int.reduceNeg, Int.reduceNe, ne_eq, n_up, g_up, e_cat, fr_A, fr_O, fr_P, fr_L, sp_X10_isOpen, sp_X10_isThing, sp_X10_isOut, sp_X10_isFit, sp_X10_stands, h, cp_fr, ho, hot, hy]
        clear hn hf ha hS hR
        repeat' (first | (refine And.intro ?_ ?_) | (intro _))
        all_goals (first | with_reducible assumption | omega | (exfalso; omega))
    · have h3 := h3 hot _ base h
      clear h1 h2 h4
      apply hR 90
      simp (maxSteps := 10000000) (disch := omega) only [hS, hn, sm_eqs, hf, ha, sm_b0, Int.reduceToNat, ↓reduceIte, Nat.reduceEqDiff, true_and, and_true, List.length_nil, List.length_cons, Nat.reduceAdd, Nat.reduceLeDiff, Nat.zero_le, false_implies, true_implies, not_true_eq_false, not_false_eq_true, implies_true, Nat.reduceSub, Nat.reduceMul, Nat.reduceDiv, reduceCtorEq, tn_clamp, nI_t, tn_nI, nI_add, pk_mul, rS_gS, rS_gA, rS_gL, rA_gS, rA_gA, rA_gL, rL_gS, rL_gA, rL_gL, and_self, and_false, false_and, if_true, if_false, true_or, or_true, or_false, false_or, sm_in, eqI, sI_s, Int32.toInt_zero, Int.natCast_zero, Int.natCast_one, Int.cast_ofNat_Int, Int.reduceEq, Int.reduceLT, Int.reduceLE, Int.reduceNeg, Int.reduceNe, ne_eq, n_up, g_up, e_cat, fr_A, fr_O, fr_P, fr_L, sp_X10_isOpen, sp_X10_isThing, sp_X10_isOut, sp_X10_isFit, sp_X10_stands, h, cp_fr, ho, hot]
      clear hn hf ha hS hR
      repeat' (first | (refine And.intro ?_ ?_) | (intro _))
      all_goals (first | with_reducible assumption | omega | (exfalso; omega))
  · have h1 := h1 ho _ base h
    clear h2
    apply hR 60
    simp (maxSteps := 10000000) (disch := omega) only [hS, hn, sm_eqs, hf, ha, sm_b0, Int.reduceToNat, ↓reduceIte, Nat.reduceEqDiff, true_and, and_true, List.length_nil, List.length_cons, Nat.reduceAdd, Nat.reduceLeDiff, Nat.zero_le, false_implies, true_implies, not_true_eq_false, not_false_eq_true, implies_true, Nat.reduceSub, Nat.reduceMul, Nat.reduceDiv, reduceCtorEq, tn_clamp, nI_t, tn_nI, nI_add, pk_mul, rS_gS, rS_gA, rS_gL, rA_gS, rA_gA, rA_gL, rL_gS, rL_gA, rL_gL, and_self, and_false, false_and, if_true, if_false, true_or, or_true, or_false, false_or, sm_in, eqI, sI_s, Int32.toInt_zero, Int.natCast_zero, Int.natCast_one, Int.cast_ofNat_Int, Int.reduceEq, Int.reduceLT, Int.reduceLE, Int.reduceNeg, Int.reduceNe, ne_eq, n_up, g_up, e_cat, fr_A, fr_O, fr_P, fr_L, sp_X10_isOpen, sp_X10_isThing, sp_X10_isOut, sp_X10_isFit, sp_X10_stands, h, cp_fr, ho]
    exact h1
theorem ok_X10_claim (l : Launch) (c : sm_G) : sm_spok l lay sm_mt 4 210 (sp_X10_claim c) := Or.inr (Or.inr (Or.inr ⟨by decide, by decide, by
  rw [mt_210]
  exact sm_method (T := TX10_) v_cok v_lok v_ka v_tok_X10 mok_X10_claim rfl (by unfold sm_rk; simp) (wf_X10_claim c) (List.forall_mem_cons.mpr ⟨sm_spok_up (Nat.le_of_ble_eq_true rfl : 3 ≤ 3) (ok_X10_isOpen l c), List.forall_mem_cons.mpr ⟨sm_spok_up (Nat.le_of_ble_eq_true rfl : 2 ≤ 3) (ok_X10_isThing l c), List.forall_mem_cons.mpr ⟨sm_spok_up (Nat.le_of_ble_eq_true rfl : 1 ≤ 3) (ok_X10_isOut l c), List.forall_mem_cons.mpr ⟨sm_spok_up (Nat.le_of_ble_eq_true rfl : 3 ≤ 3) (ok_X10_isFit l c), List.forall_mem_cons.mpr ⟨sm_spok_up (Nat.le_of_ble_eq_true rfl : 2 ≤ 3) (ok_X10_stands l), fun _ h => absurd h List.not_mem_nil⟩⟩⟩⟩⟩) (b_X10_claim c)⟩))
