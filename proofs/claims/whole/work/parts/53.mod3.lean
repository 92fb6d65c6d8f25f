/-! The reference: questions. -/
def sp_X10_mayBe (c : sm_G) : sm_SP := fun as g K => match as with
  | [.ref p, .int q, .int a, .int b] => p = 53 ∧ CP c g ∧ okQ c q ∧ vAns (rA c 2 (tn q)) (rA c 3 (tn q)) a ∧ vAns (rA c 2 (tn q)) (rA c 3 (tn q)) b ∧
      (vAg (rA c 2 (tn q)) (rA c 3 (tn q)) (bitL (rL c 5 (tn q * 40 + tn a)) (tn b) = true) a b → K (some (.int (nI 1))) g) ∧ (¬ vAg (rA c 2 (tn q)) (rA c 3 (tn q)) (bitL (rL c 5 (tn q * 40 + tn a)) (tn b) = true) a b → K (some (.int (nI 0))) g)
  | _ => False
theorem wf_X10_mayBe (c : sm_G) : sm_wf lay (yX10_mayBe, cX10_mayBe, 6, (some .boolean)) 4 false (sp_X10_mayBe c) := by
  intro as g K h
  simp only [sp_X10_mayBe] at h
  split at h
  · exact ⟨Nat.le_of_ble_eq_true rfl, by simp, rfl, fun _ => by obtain rfl := h.1; exact ⟨53, _, 10, [1, 1, 56, 57, 58, 59, 60, 61, 1, 1, 62, 63, 64, 65, 66, 67, 68, 69, 70, 71, 72, 73, 1, 74, 75, 76, 77, 1, 1, 78, 79, 1, 80, 1, 81, 1, 82, 83, 84, 85, 86, 1], TX10, 42, rfl, rfl, rfl⟩⟩
  · exact h.elim
set_option maxHeartbeats 4000000 in
set_option maxRecDepth 100000 in
theorem b_X10_mayBe (c : sm_G) : sm_body lay NX10_mayBe 6 1 (sm_cl []) (sp_X10_mayBe c) := by
  intro K J S hW as g hs
  have hn := n_X10_mayBe
  have hf := fd_all
  have ha := ar_all
  generalize NX10_mayBe = N at hn hW
  generalize lay = L at hf ha hW
  obtain ⟨hS, hR⟩ := hW
  simp only [sp_X10_mayBe] at hs
  split at hs
  case h_2 => exact hs.elim
  simp only [e_args, sm_pad, List.length_cons, List.length_nil, Nat.reduceAdd, Nat.reduceSub, List.replicate_succ, List.replicate_zero, List.cons_append, List.nil_append]
  rename_i p q a b
  obtain ⟨rfl, h, hq0, va, vb, h1, h2⟩ := hs
  have hn2 := CP_n h
  obtain ⟨q, hq2, rfl⟩ := ok_nI hq0
  rw [tn_nI (by omega)] at h1 h2 va vb
  have e54 := h.2.1.2.1 q hq2
  have e55 := h.2.1.2.2.1 q hq2
  have hv := (h.1.1.2 q hq2).1
  obtain ⟨i, hi, rfl⟩ : ∃ i, i < 2147483648 ∧ a = nI i := ⟨tn a, by have := va.1; have := Int32.toInt_lt a; unfold tn; omega, nI_tn va.1⟩
  obtain ⟨j, hj, rfl⟩ : ∃ j, j < 2147483648 ∧ b = nI j := ⟨tn b, by have := vb.1; have := Int32.toInt_lt b; unfold tn; omega, nI_tn vb.1⟩
  rw [tn_nI (by omega), tn_nI (by omega)] at h1 h2
  by_cases s0 : (rA c 2 q).toInt = 0
  · have hi40 : i < 40 := by
      have := va.2.1 s0
      rw [nI_t hi] at this; omega
    have hj40 : j < 40 := by
      have := vb.2.1 s0
      rw [nI_t hj] at this; omega
    have e57 := fun hne : i ≠ j => h.2.1.2.2.2.2 q i j (by omega) hi40 hj40 hne
    simp (disch := omega) only [vAg, s0, nI_t, true_implies] at h1 h2
    apply hR 60
    simp (maxSteps := 10000000) (disch := omega) only [hS, hn, sm_eqs, hf, ha, sm_b0, Int.reduceToNat, ↓reduceIte, Nat.reduceEqDiff, true_and, and_true, List.length_nil, List.length_cons, Nat.reduceAdd, Nat.reduceLeDiff, Nat.zero_le, false_implies, true_implies, not_true_eq_false, not_false_eq_true, implies_true, Nat.reduceSub, Nat.reduceMul, Nat.reduceDiv, reduceCtorEq, tn_clamp, nI_t, tn_nI, nI_add, pk_mul, rS_gS, rS_gA, rS_gL, rA_gS, rA_gA, rA_gL, rL_gS, rL_gA, rL_gL, and_self, and_false, false_and, if_true, if_false, true_or, or_true, or_false, false_or, sm_in, eqI, sI_s, Int32.toInt_zero, Int.natCast_zero, Int.natCast_one, Int.cast_ofNat_Int, Int.reduceEq, Int.reduceLT, Int.reduceLE, Int.reduceNeg, Int.reduceNe, ne_eq, n_up, g_up, e_cat, fr_A, fr_O, fr_P, fr_L, e54, e55, s0]
    clear hn hf ha hS hR
    clear va vb
    by_cases e : i = j
    · have h1 := h1 ⟨Or.inl (by omega), fun h => absurd h (by decide), fun h => absurd rfl h⟩
      subst e
      repeat' (first | (with_reducible refine And.intro ?_ ?_) | (with_reducible intro _))
      all_goals (first | with_reducible assumption | omega | (exfalso; omega) | grind)
    · have e57 := e57 e
      cases hb : bitL (rL c 5 (q * 40 + i)) j with
      | true =>
        have h1 := h1 ⟨Or.inr hb, fun h => absurd h (by decide), fun h => absurd rfl h⟩
        rw [hb] at e57
        have e57 : ¬ (rA g 57 ((q * 40 + i) * 40 + j)).toInt = 0 := by rw [e57]; decide
        repeat' (first | (with_reducible refine And.intro ?_ ?_) | (with_reducible intro _))
        all_goals (first | with_reducible assumption | omega | (exfalso; omega) | grind)
      | false =>
        have h2 := h2 (fun h => by
          rcases h.1 with h | h
          · omega
          · rw [hb] at h; cases h)
        rw [hb] at e57
        have e57 : (rA g 57 ((q * 40 + i) * 40 + j)).toInt = 0 := by rw [e57]
        repeat' (first | (with_reducible refine And.intro ?_ ?_) | (with_reducible intro _))
        all_goals (first | with_reducible assumption | omega | (exfalso; omega) | grind)
  · by_cases s1 : (rA c 2 q).toInt = 1
    · simp (disch := omega) only [vAg, s1, nI_t] at h1 h2
      have h1 := fun hx => h1 ⟨fun h => absurd h (by decide), fun _ => hx, fun _ h => absurd rfl h⟩
      have h2 := fun (hx : ¬ _) => h2 (fun h => hx (h.2.1 trivial))
      apply hR 60
      simp (maxSteps := 10000000) (disch := omega) only [hS, hn, sm_eqs, hf, ha, sm_b0, Int.reduceToNat, ↓reduceIte, Nat.reduceEqDiff, true_and, and_true, List.length_nil, List.length_cons, Nat.reduceAdd, Nat.reduceLeDiff, Nat.zero_le, false_implies, true_implies, not_true_eq_false, not_false_eq_true, implies_true, Nat.reduceSub, Nat.reduceMul, Nat.reduceDiv, reduceCtorEq, tn_clamp, nI_t, tn_nI, nI_add, pk_mul, rS_gS, rS_gA, rS_gL, rA_gS, rA_gA, rA_gL, rL_gS, rL_gA, rL_gL, and_self, and_false, false_and, if_true, if_false, true_or, or_true, or_false, false_or, sm_in, eqI, sI_s, Int32.toInt_zero, Int.natCast_zero, Int.natCast_one, Int.cast_ofNat_Int, Int.reduceEq, Int.reduceLT, Int.reduceLE, Int.reduceNeg, Int.reduceNe, ne_eq, n_up, g_up, e_cat, fr_A, fr_O, fr_P, fr_L, e54, e55, s1]
      clear hn hf ha hS hR va vb
      rcases Nat.lt_trichotomy i j with l | l | l
      · rw [if_pos (by omega), if_pos (by omega)] at h1 h2
        repeat' (first | (with_reducible refine And.intro ?_ ?_) | (with_reducible intro _))
        all_goals (first | with_reducible assumption | omega | (exfalso; omega) | grind)
      · subst l
        rw [if_neg (by omega)] at h1 h2
        repeat' (first | (with_reducible refine And.intro ?_ ?_) | (with_reducible intro _))
        all_goals (first | with_reducible assumption | omega | (exfalso; omega) | grind)
      · rw [if_neg (by omega), if_neg (by omega)] at h1 h2
        repeat' (first | (with_reducible refine And.intro ?_ ?_) | (with_reducible intro _))
        all_goals (first | with_reducible assumption | omega | (exfalso; omega) | grind)
    · simp (disch := omega) only [vAg, s0, s1, nI_t] at h1 h2
      have h1 := fun hx => h1 ⟨fun h => h.elim, fun h => h.elim, fun _ _ => hx⟩
      have h2 := fun (hx : ¬ _) => h2 (fun h => hx (h.2.2 s0 s1))
      apply hR 60
      simp (maxSteps := 10000000) (disch := omega) only [hS, hn, sm_eqs, hf, ha, sm_b0, Int.reduceToNat, ↓reduceIte, Nat.reduceEqDiff, true_and, and_true, List.length_nil, List.length_cons, Nat.reduceAdd, Nat.reduceLeDiff, Nat.zero_le, false_implies, true_implies, not_true_eq_false, not_false_eq_true, implies_true, Nat.reduceSub, Nat.reduceMul, Nat.reduceDiv, reduceCtorEq, tn_clamp, nI_t, tn_nI, nI_add, pk_mul, rS_gS, rS_gA, rS_gL, rA_gS, rA_gA, rA_gL, rL_gS, rL_gA, rL_gL, and_self, and_false, false_and, if_true, if_false, true_or, or_true, or_false, false_or, sm_in, eqI, sI_s, Int32.toInt_zero, Int.natCast_zero, Int.natCast_one, Int.cast_ofNat_Int, Int.reduceEq, Int.reduceLT, Int.reduceLE, Int.reduceNeg, Int.reduceNe, ne_eq, n_up, g_up, e_cat, fr_A, fr_O, fr_P, fr_L, e54, e55, s0, s1]
      clear hn hf ha hS hR va vb
      repeat' (first | (with_reducible refine And.intro ?_ ?_) | (with_reducible intro _))
      all_goals (first | with_reducible assumption | omega | (exfalso; omega) | grind)
theorem ok_X10_mayBe (l : Launch) (c : sm_G) : sm_spok l lay sm_mt 1 165 (sp_X10_mayBe c) := Or.inr (Or.inr (Or.inr ⟨by decide, by decide, by
  rw [mt_165]
  exact sm_method (T := TX10_) v_cok v_lok v_ka v_tok_X10 mok_X10_mayBe rfl (by unfold sm_rk; simp) (wf_X10_mayBe c) (fun _ h => absurd h List.not_mem_nil) (b_X10_mayBe c)⟩))
def sp_X10_mays (c : sm_G) : sm_SP := fun as g K => match as with
  | [.ref p, .int q, .int a, .int b] => p = 53 ∧ CP c g ∧ (∀ h, mS g h → CP c h → (okQ c q ∧ vAns (rA c 2 (tn q)) (rA c 3 (tn q)) a ∧ vAns (rA c 2 (tn q)) (rA c 3 (tn q)) b →
      (vAg (rA c 2 (tn q)) (rA c 3 (tn q)) (bitL (rL c 5 (tn q * 40 + tn a)) (tn b) = true) a b → K (some (.int (nI 1))) h) ∧ (¬ vAg (rA c 2 (tn q)) (rA c 3 (tn q)) (bitL (rL c 5 (tn q * 40 + tn a)) (tn b) = true) a b → K (some (.int (nI 0))) h)) ∧
      (¬ (okQ c q ∧ vAns (rA c 2 (tn q)) (rA c 3 (tn q)) a ∧ vAns (rA c 2 (tn q)) (rA c 3 (tn q)) b) → K (some (.int (sI 0))) h))
  | _ => False
theorem wf_X10_mays (c : sm_G) : sm_wf lay (yX10_mays, cX10_mays, 4, (some .int)) 4 false (sp_X10_mays c) := by
  intro as g K h
  simp only [sp_X10_mays] at h
  split at h
  · exact ⟨Nat.le_of_ble_eq_true rfl, by simp, rfl, fun _ => by obtain rfl := h.1; exact ⟨53, _, 10, [1, 1, 56, 57, 58, 59, 60, 61, 1, 1, 62, 63, 64, 65, 66, 67, 68, 69, 70, 71, 72, 73, 1, 74, 75, 76, 77, 1, 1, 78, 79, 1, 80, 1, 81, 1, 82, 83, 84, 85, 86, 1], TX10, 42, rfl, rfl, rfl⟩⟩
  · exact h.elim
set_option maxHeartbeats 4000000 in
set_option maxRecDepth 100000 in
theorem b_X10_mays (c : sm_G) : sm_body lay NX10_mays 4 0 (sm_cl [(163, sp_X10_isQuestion c), (164, sp_X10_isAnswer c), (165, sp_X10_mayBe c)]) (sp_X10_mays c) := by
  intro K J S hW as g hs
  have hn := n_X10_mays
  have hf := fd_all
  have ha := ar_all
  generalize NX10_mays = N at hn hW
  generalize lay = L at hf ha hW
  obtain ⟨hS, hR⟩ := hW
  simp only [sp_X10_mays] at hs
  split at hs
  case h_2 => exact hs.elim
  simp only [e_args, sm_pad, List.length_cons, List.length_nil, Nat.reduceAdd, Nat.reduceSub, List.replicate_succ, List.replicate_zero, List.cons_append, List.nil_append]
  rename_i p q a b
  obtain ⟨rfl, h, hs⟩ := hs
  obtain ⟨h1, h2⟩ := hs (gS g 53 1000 (nI 0)) (mS_S (mS_rf g)) h
  apply hR 60
  simp (maxSteps := 10000000) (disch := omega) only [hS, hn, sm_eqs, hf, ha, sm_b0, Int.reduceToNat, ↓reduceIte, Nat.reduceEqDiff, true_and, and_true, List.length_nil, List.length_cons, Nat.reduceAdd, Nat.reduceLeDiff, Nat.zero_le, false_implies, true_implies, not_true_eq_false, not_false_eq_true, implies_true, Nat.reduceSub, Nat.reduceMul, Nat.reduceDiv, reduceCtorEq, tn_clamp, nI_t, tn_nI, nI_add, pk_mul, rS_gS, rS_gA, rS_gL, rA_gS, rA_gA, rA_gL, rL_gS, rL_gA, rL_gL, and_self, and_false, false_and, if_true, if_false, true_or, or_true, or_false, false_or, sm_in, eqI, sI_s, Int32.toInt_zero, Int.natCast_zero, Int.natCast_one, Int.cast_ofNat_Int, Int.reduceEq, Int.reduceLT, Int.reduceLE, Int.reduceNeg, Int.reduceNe, ne_eq, n_up, g_up, e_cat, fr_A, fr_O, fr_P, fr_L, sp_X10_isQuestion, sp_X10_isAnswer, sp_X10_mayBe, h, cp_fr]
  clear hn hf ha hS hR
  repeat' (first | (with_reducible refine And.intro ?_ ?_) | (with_reducible intro _))
  all_goals (first | with_reducible assumption | omega | (exfalso; omega) | grind)
theorem ok_X10_mays (l : Launch) (c : sm_G) : sm_spok l lay sm_mt 3 167 (sp_X10_mays c) := Or.inr (Or.inr (Or.inr ⟨by decide, by decide, by
  rw [mt_167]
  exact sm_method (T := TX10_) v_cok v_lok v_ka v_tok_X10 mok_X10_mays rfl (by unfold sm_rk; simp) (wf_X10_mays c) (List.forall_mem_cons.mpr ⟨sm_spok_up (Nat.le_of_ble_eq_true rfl : 2 ≤ 2) (ok_X10_isQuestion l c), List.forall_mem_cons.mpr ⟨sm_spok_up (Nat.le_of_ble_eq_true rfl : 2 ≤ 2) (ok_X10_isAnswer l c), List.forall_mem_cons.mpr ⟨sm_spok_up (Nat.le_of_ble_eq_true rfl : 1 ≤ 2) (ok_X10_mayBe l c), fun _ h => absurd h List.not_mem_nil⟩⟩⟩) (b_X10_mays c)⟩))
def qAddG (c : sm_G) (s n w : Int32) : sm_G := gS (gA (gA (gA c 2 (upd (rA c 2) (nQ c) s)) 3 (upd (rA c 3) (nQ c) n)) 4 (upd (rA c 4) (nQ c) w)) 1 504 (nI (nQ c + 1))
theorem iv_qAdd {c : sm_G} (h : iv c) {s n w : Int32} (hq : nQ c < 16) (hv : vQ s n w) : iv (qAddG c s n w) := by
  have en : nQ (qAddG c s n w) = nQ c + 1 := by unfold qAddG; simp (disch := omega) only [n_up, if_true, true_and, tn_nI]
  obtain ⟨iQ, iR, iT, iC⟩ := h
  refine ⟨⟨⟨?_, by omega⟩, fun q hq2 => ?_⟩, ⟨fun x hx => ?_, fun x hx => ?_, fun x q hx hq2 ha => ?_, fun x q hx hq2 ha => ?_, iR.2.2.2.2⟩, iT, iC⟩
  · rw [en]; rfl
  · rw [en] at hq2
    show vQ (upd (rA c 2) (nQ c) s q) (upd (rA c 3) (nQ c) n q) (upd (rA c 4) (nQ c) w q)
    by_cases e : q = nQ c
    · rw [e, pk_us, pk_us, pk_us]; exact hv
    · rw [pk_un e, pk_un e, pk_un e]; exact iQ.2 q (by omega)
  · have := iR.1 x hx; rw [en]; exact ⟨this.1, by have := this.2.1; show (rA c 7 x).toInt ≤ _; simp only [Nat.reduceAdd] at this; omega, this.2.2⟩
  · have := iR.2.1 x hx; rw [en]; exact ⟨this.1, by have := this.2.1; show (rA c 10 x).toInt ≤ _; simp only [Nat.reduceAdd] at this; omega, this.2.2⟩
  · have ha : (anC c 6 x q).toInt ≠ -1 := ha
    have hlt : q ≠ nQ c := fun e => ha (by rw [an_hi iR.1 hx (by omega)]; exact sI_s.1)
    show vAns (upd (rA c 2) (nQ c) s q) (upd (rA c 3) (nQ c) n q) (anC c 6 x q)
    rw [pk_un hlt, pk_un hlt]; exact iR.2.2.1 x q hx hq2 ha
  · have ha : (anC c 9 x q).toInt ≠ -1 := ha
    have hlt : q ≠ nQ c := fun e => ha (by rw [an_hi iR.2.1 hx (by omega)]; exact sI_s.1)
    show vAns (upd (rA c 2) (nQ c) s q) (upd (rA c 3) (nQ c) n q) (anC c 9 x q)
    rw [pk_un hlt, pk_un hlt]; exact iR.2.2.2.1 x q hx hq2 ha
def sp_X10_question (c : sm_G) : sm_SP := fun as g K => match as with
  | [.ref p, .int s, .int n, .int w] => p = 53 ∧ CP c g ∧ (nQ c < 16 ∧ vQ s n w → ∀ h, mS g h → CP (qAddG c s n w) h → K (some (.int (nI (nQ c)))) h) ∧ (¬ (nQ c < 16 ∧ vQ s n w) → ∀ h, mS g h → CP c h → K (some (.int (sI 0))) h)
  | _ => False
theorem wf_X10_question (c : sm_G) : sm_wf lay (yX10_question, cX10_question, 5, (some .int)) 4 false (sp_X10_question c) := by
  intro as g K h
  simp only [sp_X10_question] at h
  split at h
  · exact ⟨Nat.le_of_ble_eq_true rfl, by simp, rfl, fun _ => by obtain rfl := h.1; exact ⟨53, _, 10, [1, 1, 56, 57, 58, 59, 60, 61, 1, 1, 62, 63, 64, 65, 66, 67, 68, 69, 70, 71, 72, 73, 1, 74, 75, 76, 77, 1, 1, 78, 79, 1, 80, 1, 81, 1, 82, 83, 84, 85, 86, 1], TX10, 42, rfl, rfl, rfl⟩⟩
  · exact h.elim
set_option maxHeartbeats 4000000 in
set_option maxRecDepth 100000 in
theorem b_X10_question (c : sm_G) : sm_body lay NX10_question 5 0 (sm_cl [(161, sp_X10_in)]) (sp_X10_question c) := by
  intro K J S hW as g hs
  have hn := n_X10_question
  have hf := fd_all
  have ha := ar_all
  generalize NX10_question = N at hn hW
  generalize lay = L at hf ha hW
  obtain ⟨hS, hR⟩ := hW
  simp only [sp_X10_question] at hs
  split at hs
  case h_2 => exact hs.elim
  simp only [e_args, sm_pad, List.length_cons, List.length_nil, Nat.reduceAdd, Nat.reduceSub, List.replicate_succ, List.replicate_zero, List.cons_append, List.nil_append]
  rename_i p s n w
  obtain ⟨rfl, h, h1, h2⟩ := hs
  have hn2 := CP_n h
  have hq := h.2.1.1
  by_cases hc : nQ c < 16 ∧ vQ s n w
  · have hne : ¬ (nQ c : Int) = 16 := by omega
    have en : nQ (qAddG c s n w) = nQ c + 1 := by unfold qAddG; simp (disch := omega) only [n_up, if_true, true_and, tn_nI]
    have hm : (nI (nQ c + 1) - nI 1) = nI (nQ c) := by rw [pk_sub (by omega)]; rfl
    have h1 := h1 hc (gS (gS (gA (gA (gA g 54 (upd (rA g 54) (nQ c) s)) 55 (upd (rA g 55) (nQ c) n)) 56 (upd (rA g 56) (nQ c) w)) 53 1000 (nI 0)) 53 1001 (nI (nQ c + 1))) (mS_S (mS_S (mS_A (mS_A (mS_A (mS_rf g) (by omega)) (by omega)) (by omega)))) (by
      obtain ⟨i, ⟨q1, q2, q3, q4, q5⟩, cr, ct, cc⟩ := h
      refine ⟨iv_qAdd i hc.1 hc.2, ⟨by rw [en]; rfl, fun q hq2 => ?_, fun q hq2 => ?_, fun q hq2 => ?_, q5⟩, cr, ct, cc⟩
      · rw [en] at hq2
        show upd (rA g 54) (nQ c) s q = upd (rA c 2) (nQ c) s q
        by_cases e : q = nQ c
        · rw [e, pk_us, pk_us]
        · rw [pk_un e, pk_un e]; exact q2 q (by omega)
      · rw [en] at hq2
        show upd (rA g 55) (nQ c) n q = upd (rA c 3) (nQ c) n q
        by_cases e : q = nQ c
        · rw [e, pk_us, pk_us]
        · rw [pk_un e, pk_un e]; exact q3 q (by omega)
      · rw [en] at hq2
        show upd (rA g 56) (nQ c) w q = upd (rA c 4) (nQ c) w q
        by_cases e : q = nQ c
        · rw [e, pk_us, pk_us]
        · rw [pk_un e, pk_un e]; exact q4 q (by omega))
    obtain ⟨hc1, hv⟩ := hc
    unfold vQ at hv
    clear h2 h
    apply hR 90
    simp (maxSteps := 10000000) (disch := omega) only [hS, hn, sm_eqs, hf, ha, sm_b0, Int.reduceToNat, ↓reduceIte, Nat.reduceEqDiff, true_and, and_true, List.length_nil, List.length_cons, Nat.reduceAdd, Nat.reduceLeDiff, Nat.zero_le, false_implies, true_implies, not_true_eq_false, not_false_eq_true, implies_true, Nat.reduceSub, Nat.reduceMul, Nat.reduceDiv, reduceCtorEq, tn_clamp, nI_t, tn_nI, nI_add, pk_mul, rS_gS, rS_gA, rS_gL, rA_gS, rA_gA, rA_gL, rL_gS, rL_gA, rL_gL, and_self, and_false, false_and, if_true, if_false, true_or, or_true, or_false, false_or, sm_in, eqI, sI_s, Int32.toInt_zero, Int.natCast_zero, Int.natCast_one, Int.cast_ofNat_Int, Int.reduceEq, Int.reduceLT, Int.reduceLE, Int.reduceNeg, Int.reduceNe, ne_eq, n_up, g_up, e_cat, fr_A, fr_O, fr_P, fr_L, sp_X10_in, hq, hne, hm]
    clear hn hf ha hS hR
    repeat' (first | (with_reducible refine And.intro ?_ ?_) | (with_reducible intro _))
    all_goals (first | with_reducible assumption | omega | (exfalso; omega) | grind)
  · have h2 := h2 hc (gS g 53 1000 (nI 0)) (mS_S (mS_rf g)) h
    have hc2 : ¬ (nQ c : Int) = 16 → ¬ vQ s n w := fun a b => hc ⟨by omega, b⟩
    unfold vQ at hc2
    clear h1 h
    apply hR 90
    simp (maxSteps := 10000000) (disch := omega) only [hS, hn, sm_eqs, hf, ha, sm_b0, Int.reduceToNat, ↓reduceIte, Nat.reduceEqDiff, true_and, and_true, List.length_nil, List.length_cons, Nat.reduceAdd, Nat.reduceLeDiff, Nat.zero_le, false_implies, true_implies, not_true_eq_false, not_false_eq_true, implies_true, Nat.reduceSub, Nat.reduceMul, Nat.reduceDiv, reduceCtorEq, tn_clamp, nI_t, tn_nI, nI_add, pk_mul, rS_gS, rS_gA, rS_gL, rA_gS, rA_gA, rA_gL, rL_gS, rL_gA, rL_gL, and_self, and_false, false_and, if_true, if_false, true_or, or_true, or_false, false_or, sm_in, eqI, sI_s, Int32.toInt_zero, Int.natCast_zero, Int.natCast_one, Int.cast_ofNat_Int, Int.reduceEq, Int.reduceLT, Int.reduceLE, Int.reduceNeg, Int.reduceNe, ne_eq, n_up, g_up, e_cat, fr_A, fr_O, fr_P, fr_L, sp_X10_in, hq]
    clear hn hf ha hS hR
    repeat' (first | (with_reducible refine And.intro ?_ ?_) | (with_reducible intro _))
    all_goals (first | with_reducible assumption | omega | (exfalso; omega) | grind)
theorem ok_X10_question (l : Launch) (c : sm_G) : sm_spok l lay sm_mt 2 162 (sp_X10_question c) := Or.inr (Or.inr (Or.inr ⟨by decide, by decide, by
  rw [mt_162]
  exact sm_method (T := TX10_) v_cok v_lok v_ka v_tok_X10 mok_X10_question rfl (by unfold sm_rk; simp) (wf_X10_question c) (List.forall_mem_cons.mpr ⟨sm_spok_up (Nat.le_of_ble_eq_true rfl : 1 ≤ 1) (ok_X10_in l), fun _ h => absurd h List.not_mem_nil⟩) (b_X10_question c)⟩))
