/-! The reference: what went out, days, what is inside, moves. -/
def sp_X10_gone (c : sm_G) : sm_SP := fun as g K => match as with
  | [.ref p, .int k] => p = 53 ∧ CP c g ∧ (∀ h, mS g h → CP c h → (0 ≤ k.toInt ∧ k.toInt < nO c → K (some (.int (rA c 24 (tn k)))) h) ∧ (¬ (0 ≤ k.toInt ∧ k.toInt < nO c) → K (some (.int (sI 0))) h))
  | _ => False
theorem wf_X10_gone (c : sm_G) : sm_wf lay (yX10_gone, cX10_gone, 2, (some .int)) 2 false (sp_X10_gone c) := by
  intro as g K h
  simp only [sp_X10_gone] at h
  split at h
  · exact ⟨Nat.le_of_ble_eq_true rfl, by simp, rfl, fun _ => by obtain rfl := h.1; exact ⟨53, _, 10, [1, 1, 56, 57, 58, 59, 60, 61, 1, 1, 62, 63, 64, 65, 66, 67, 68, 69, 70, 71, 72, 73, 1, 74, 75, 76, 77, 1, 1, 78, 79, 1, 80, 1, 81, 1, 82, 83, 84, 85, 86, 1], TX10, 42, rfl, rfl, rfl⟩⟩
  · exact h.elim
set_option maxHeartbeats 4000000 in
set_option maxRecDepth 100000 in
theorem b_X10_gone (c : sm_G) : sm_body lay NX10_gone 2 0 (sm_cl [(161, sp_X10_in)]) (sp_X10_gone c) := by
  intro K J S hW as g hs
  have hn := n_X10_gone
  have hf := fd_all
  have ha := ar_all
  generalize NX10_gone = N at hn hW
  generalize lay = L at hf ha hW
  obtain ⟨hS, hR⟩ := hW
  simp only [sp_X10_gone] at hs
  split at hs
  case h_2 => exact hs.elim
  simp only [e_args, sm_pad, List.length_cons, List.length_nil, Nat.reduceAdd, Nat.reduceSub, List.replicate_succ, List.replicate_zero, List.cons_append, List.nil_append]
  rename_i p k
  obtain ⟨rfl, h, hs⟩ := hs
  obtain ⟨h1, h2⟩ := hs (gS g 53 1000 (nI 0)) (mS_S (mS_rf g)) h
  have hn2 := CP_n h
  have e := h.2.2.2.1.2.2.2.2.2.2.2.2.2.2.2.1
  have e84 : 0 ≤ k.toInt → k.toInt < nO c → rA g 84 (tn k) = rA c 24 (tn k) := fun a b => h.2.2.2.1.2.2.2.2.2.2.2.2.2.2.2.2 (tn k) (by unfold tn; omega)
  have hm := nI_m1 (n := nO c) (by omega)
  by_cases hc : 0 ≤ k.toInt ∧ k.toInt < nO c
  · have h1 := h1 hc
    have e84 := e84 hc.1 hc.2
    clear h2
    apply hR 60
    simp (maxSteps := 10000000) (disch := omega) only [hS, hn, sm_eqs, hf, ha, sm_b0, Int.reduceToNat, ↓reduceIte, Nat.reduceEqDiff, true_and, and_true, List.length_nil, List.length_cons, Nat.reduceAdd, Nat.reduceLeDiff, Nat.zero_le, false_implies, true_implies, not_true_eq_false, not_false_eq_true, implies_true, Nat.reduceSub, Nat.reduceMul, Nat.reduceDiv, reduceCtorEq, tn_clamp, nI_t, tn_nI, nI_add, pk_mul, rS_gS, rS_gA, rS_gL, rA_gS, rA_gA, rA_gL, rL_gS, rL_gA, rL_gL, and_self, and_false, false_and, if_true, if_false, true_or, or_true, or_false, false_or, sm_in, eqI, sI_s, Int32.toInt_zero, Int.natCast_zero, Int.natCast_one, Int.cast_ofNat_Int, Int.reduceEq, Int.reduceLT, Int.reduceLE, Int.reduceNeg, Int.reduceNe, ne_eq, n_up, g_up, e_cat, fr_A, fr_O, fr_P, fr_L, sp_X10_in, e, hm, e84]
    clear hn hf ha hS hR
    repeat' (first | (with_reducible refine And.intro ?_ ?_) | (with_reducible intro _))
    all_goals (first | with_reducible assumption | omega | (exfalso; omega) | grind)
  · have h2 := h2 hc
    clear h1
    apply hR 60
    simp (maxSteps := 10000000) (disch := omega) only [hS, hn, sm_eqs, hf, ha, sm_b0, Int.reduceToNat, ↓reduceIte, Nat.reduceEqDiff, true_and, and_true, List.length_nil, List.length_cons, Nat.reduceAdd, Nat.reduceLeDiff, Nat.zero_le, false_implies, true_implies, not_true_eq_false, not_false_eq_true, implies_true, Nat.reduceSub, Nat.reduceMul, Nat.reduceDiv, reduceCtorEq, tn_clamp, nI_t, tn_nI, nI_add, pk_mul, rS_gS, rS_gA, rS_gL, rA_gS, rA_gA, rA_gL, rL_gS, rL_gA, rL_gL, and_self, and_false, false_and, if_true, if_false, true_or, or_true, or_false, false_or, sm_in, eqI, sI_s, Int32.toInt_zero, Int.natCast_zero, Int.natCast_one, Int.cast_ofNat_Int, Int.reduceEq, Int.reduceLT, Int.reduceLE, Int.reduceNeg, Int.reduceNe, ne_eq, n_up, g_up, e_cat, fr_A, fr_O, fr_P, fr_L, sp_X10_in, e, hm]
    clear hn hf ha hS hR
    repeat' (first | (with_reducible refine And.intro ?_ ?_) | (with_reducible intro _))
    all_goals (first | with_reducible assumption | omega | (exfalso; omega) | grind)
theorem ok_X10_gone (l : Launch) (c : sm_G) : sm_spok l lay sm_mt 2 225 (sp_X10_gone c) := Or.inr (Or.inr (Or.inr ⟨by decide, by decide, by
  rw [mt_225]
  exact sm_method (T := TX10_) v_cok v_lok v_ka v_tok_X10 mok_X10_gone rfl (by unfold sm_rk; simp) (wf_X10_gone c) (List.forall_mem_cons.mpr ⟨sm_spok_up (Nat.le_of_ble_eq_true rfl : 1 ≤ 1) (ok_X10_in l), fun _ h => absurd h List.not_mem_nil⟩) (b_X10_gone c)⟩))
def sp_X10_days (c : sm_G) : sm_SP := fun as g K => match as with
  | [.ref p, .int k, .int n] => p = 53 ∧ CP c g ∧ ((0 ≤ k.toInt ∧ k.toInt < 6) ∧ 1 ≤ n.toInt ∧ n.toInt ≤ 1000 → ∀ h, mS g h → CP (gA c 50 (upd (rA c 50) (tn k) n)) h → K (some (.int (nI 1))) h) ∧ (¬ ((0 ≤ k.toInt ∧ k.toInt < 6) ∧ 1 ≤ n.toInt ∧ n.toInt ≤ 1000) → ∀ h, mS g h → CP c h → K (some (.int (nI 0))) h)
  | _ => False
theorem wf_X10_days (c : sm_G) : sm_wf lay (yX10_days, cX10_days, 3, (some .boolean)) 3 false (sp_X10_days c) := by
  intro as g K h
  simp only [sp_X10_days] at h
  split at h
  · exact ⟨Nat.le_of_ble_eq_true rfl, by simp, rfl, fun _ => by obtain rfl := h.1; exact ⟨53, _, 10, [1, 1, 56, 57, 58, 59, 60, 61, 1, 1, 62, 63, 64, 65, 66, 67, 68, 69, 70, 71, 72, 73, 1, 74, 75, 76, 77, 1, 1, 78, 79, 1, 80, 1, 81, 1, 82, 83, 84, 85, 86, 1], TX10, 42, rfl, rfl, rfl⟩⟩
  · exact h.elim
set_option maxHeartbeats 4000000 in
set_option maxRecDepth 100000 in
theorem b_X10_days (c : sm_G) : sm_body lay NX10_days 3 1 (sm_cl [(161, sp_X10_in)]) (sp_X10_days c) := by
  intro K J S hW as g hs
  have hn := n_X10_days
  have hf := fd_all
  have ha := ar_all
  generalize NX10_days = N at hn hW
  generalize lay = L at hf ha hW
  obtain ⟨hS, hR⟩ := hW
  simp only [sp_X10_days] at hs
  split at hs
  case h_2 => exact hs.elim
  simp only [e_args, sm_pad, List.length_cons, List.length_nil, Nat.reduceAdd, Nat.reduceSub, List.replicate_succ, List.replicate_zero, List.cons_append, List.nil_append]
  rename_i p k n
  obtain ⟨rfl, h, h1, h2⟩ := hs
  by_cases hc : (0 ≤ k.toInt ∧ k.toInt < 6) ∧ 1 ≤ n.toInt ∧ n.toInt ≤ 1000
  · have h1 := h1 hc (gS (gA g 71 (upd (rA g 71) (tn k) n)) 53 1000 (nI 0)) (mS_S (mS_A (mS_rf g) (by omega))) (by
      obtain ⟨i, cq, cr, ⟨q1, q2, q3, q4, q5, q6, q7, q8, q9, q10, q11, q12, q13⟩, cc⟩ := h
      refine ⟨i, cq, cr, ⟨q1, q2, q3, q4, q5, q6, q7, q8, q9, q10, fun j hj => ?_, q12, q13⟩, cc⟩
      show upd (rA g 71) (tn k) n j = upd (rA c 50) (tn k) n j
      by_cases e : j = tn k
      · rw [e, pk_us, pk_us]
      · rw [pk_un e, pk_un e]; exact q11 j hj)
    clear h2
    apply hR 60
    simp (maxSteps := 10000000) (disch := omega) only [hS, hn, sm_eqs, hf, ha, sm_b0, Int.reduceToNat, ↓reduceIte, Nat.reduceEqDiff, true_and, and_true, List.length_nil, List.length_cons, Nat.reduceAdd, Nat.reduceLeDiff, Nat.zero_le, false_implies, true_implies, not_true_eq_false, not_false_eq_true, implies_true, Nat.reduceSub, Nat.reduceMul, Nat.reduceDiv, reduceCtorEq, tn_clamp, nI_t, tn_nI, nI_add, pk_mul, rS_gS, rS_gA, rS_gL, rA_gS, rA_gA, rA_gL, rL_gS, rL_gA, rL_gL, and_self, and_false, false_and, if_true, if_false, true_or, or_true, or_false, false_or, sm_in, eqI, sI_s, Int32.toInt_zero, Int.natCast_zero, Int.natCast_one, Int.cast_ofNat_Int, Int.reduceEq, Int.reduceLT, Int.reduceLE, Int.reduceNeg, Int.reduceNe, ne_eq, n_up, g_up, e_cat, fr_A, fr_O, fr_P, fr_L, sp_X10_in]
    clear hn hf ha hS hR
    repeat' (first | (with_reducible refine And.intro ?_ ?_) | (with_reducible intro _))
    all_goals (first | with_reducible assumption | omega | (exfalso; omega) | grind)
  · have h2 := h2 hc (gS g 53 1000 (nI 0)) (mS_S (mS_rf g)) h
    clear h1
    apply hR 60
    simp (maxSteps := 10000000) (disch := omega) only [hS, hn, sm_eqs, hf, ha, sm_b0, Int.reduceToNat, ↓reduceIte, Nat.reduceEqDiff, true_and, and_true, List.length_nil, List.length_cons, Nat.reduceAdd, Nat.reduceLeDiff, Nat.zero_le, false_implies, true_implies, not_true_eq_false, not_false_eq_true, implies_true, Nat.reduceSub, Nat.reduceMul, Nat.reduceDiv, reduceCtorEq, tn_clamp, nI_t, tn_nI, nI_add, pk_mul, rS_gS, rS_gA, rS_gL, rA_gS, rA_gA, rA_gL, rL_gS, rL_gA, rL_gL, and_self, and_false, false_and, if_true, if_false, true_or, or_true, or_false, false_or, sm_in, eqI, sI_s, Int32.toInt_zero, Int.natCast_zero, Int.natCast_one, Int.cast_ofNat_Int, Int.reduceEq, Int.reduceLT, Int.reduceLE, Int.reduceNeg, Int.reduceNe, ne_eq, n_up, g_up, e_cat, fr_A, fr_O, fr_P, fr_L, sp_X10_in]
    clear hn hf ha hS hR
    repeat' (first | (with_reducible refine And.intro ?_ ?_) | (with_reducible intro _))
    all_goals (first | with_reducible assumption | omega | (exfalso; omega) | grind)
theorem ok_X10_days (l : Launch) (c : sm_G) : sm_spok l lay sm_mt 2 221 (sp_X10_days c) := Or.inr (Or.inr (Or.inr ⟨by decide, by decide, by
  rw [mt_221]
  exact sm_method (T := TX10_) v_cok v_lok v_ka v_tok_X10 mok_X10_days rfl (by unfold sm_rk; simp) (wf_X10_days c) (List.forall_mem_cons.mpr ⟨sm_spok_up (Nat.le_of_ble_eq_true rfl : 1 ≤ 1) (ok_X10_in l), fun _ h => absurd h List.not_mem_nil⟩) (b_X10_days c)⟩))
def sp_X10_inside (c : sm_G) : sm_SP := fun as g K => match as with
  | [.ref p, .int b] => p = 53 ∧ CP c g ∧ okT c b ∧ K (some (.int (nI (cnt (fun t => (rA c 19 t).toInt == b.toInt) (nT c))))) g
  | _ => False
theorem wf_X10_inside (c : sm_G) : sm_wf lay (yX10_inside, cX10_inside, 4, (some .int)) 2 false (sp_X10_inside c) := by
  intro as g K h
  simp only [sp_X10_inside] at h
  split at h
  · exact ⟨Nat.le_of_ble_eq_true rfl, by simp, rfl, fun _ => by obtain rfl := h.1; exact ⟨53, _, 10, [1, 1, 56, 57, 58, 59, 60, 61, 1, 1, 62, 63, 64, 65, 66, 67, 68, 69, 70, 71, 72, 73, 1, 74, 75, 76, 77, 1, 1, 78, 79, 1, 80, 1, 81, 1, 82, 83, 84, 85, 86, 1], TX10, 42, rfl, rfl, rfl⟩⟩
  · exact h.elim
set_option maxHeartbeats 4000000 in
set_option maxRecDepth 100000 in
theorem b_X10_inside (c : sm_G) : sm_body lay NX10_inside 4 0 (sm_cl []) (sp_X10_inside c) := by
  intro K J S hW as g hs
  have hn := n_X10_inside
  have hf := fd_all
  have ha := ar_all
  generalize NX10_inside = N at hn hW
  generalize lay = L at hf ha hW
  obtain ⟨hS, hR⟩ := hW
  simp only [sp_X10_inside] at hs
  split at hs
  case h_2 => exact hs.elim
  simp only [e_args, sm_pad, List.length_cons, List.length_nil, Nat.reduceAdd, Nat.reduceSub, List.replicate_succ, List.replicate_zero, List.cons_append, List.nil_append]
  rename_i p b
  obtain ⟨rfl, h, hb, hs⟩ := hs
  have hn2 := CP_n h
  have ht0 := h.2.2.2.1.1
  have hb0 : 0 ≤ b.toInt := hb.1
  have loop : ∀ m t, m = nT c - t → t ≤ nT c → ∀ n, n = cnt (fun t => (rA c 19 t).toInt == b.toInt) t → J 4 [some (.ref 53), some (.int b), some (.int (nI n)), some (.int (nI t))] [] g := by
    intro m
    induction m with
    | zero =>
      intro t hm ht n hn9
      obtain rfl : t = nT c := by omega
      rw [← hn9] at hs
      apply hR 60
      simp (maxSteps := 10000000) (disch := omega) only [hS, hn, sm_eqs, hf, ha, sm_b0, Int.reduceToNat, ↓reduceIte, Nat.reduceEqDiff, true_and, and_true, List.length_nil, List.length_cons, Nat.reduceAdd, Nat.reduceLeDiff, Nat.zero_le, false_implies, true_implies, not_true_eq_false, not_false_eq_true, implies_true, Nat.reduceSub, Nat.reduceMul, Nat.reduceDiv, reduceCtorEq, tn_clamp, nI_t, tn_nI, nI_add, pk_mul, rS_gS, rS_gA, rS_gL, rA_gS, rA_gA, rA_gL, rL_gS, rL_gA, rL_gL, and_self, and_false, false_and, if_true, if_false, true_or, or_true, or_false, false_or, sm_in, eqI, sI_s, Int32.toInt_zero, Int.natCast_zero, Int.natCast_one, Int.cast_ofNat_Int, Int.reduceEq, Int.reduceLT, Int.reduceLE, Int.reduceNeg, Int.reduceNe, ne_eq, n_up, g_up, e_cat, fr_A, fr_O, fr_P, fr_L, ht0]
      repeat' (first | (refine And.intro ?_ ?_) | (intro _))
      all_goals (first | with_reducible assumption | omega | (exfalso; omega))
    | succ m ih =>
      intro t hm ht n hn9
      have e63 := h.2.2.2.1.2.2.2.2.2.1 t (by omega)
      have e64 := h.2.2.2.1.2.2.2.2.2.2.1 t (by omega)
      obtain ⟨w1, w2, w3, w4⟩ := whC_c c t
      have hy := h.1.2.2.1.2.2.2.2.2.2.1 t (by omega)
      have hw1 : (rA c 19 t).toInt = b.toInt → whC c t = 1 := fun e => w4.mpr ⟨Classical.byContradiction (fun hne => by have := hy hne; unfold bgC at this; omega), by unfold bgC; omega⟩
      have e1 : (rA c 19 t).toInt = b.toInt → J 4 [some (.ref 53), some (.int b), some (.int (nI (n + 1))), some (.int (nI (t + 1)))] [] g := fun a => ih (t + 1) (by omega) (by omega) _ (by show _ = cnt (fun t => (rA c 19 t).toInt == b.toInt) t + (if ((rA c 19 t).toInt == b.toInt) = true then 1 else 0); rw [if_pos (by rw [a]; simp), hn9])
      have e0 : ¬ (rA c 19 t).toInt = b.toInt → J 4 [some (.ref 53), some (.int b), some (.int (nI (n + 0))), some (.int (nI (t + 1)))] [] g := fun a => ih (t + 1) (by omega) (by omega) _ (by show _ = cnt (fun t => (rA c 19 t).toInt == b.toInt) t + (if ((rA c 19 t).toInt == b.toInt) = true then 1 else 0); rw [if_neg (by simpa using a), hn9])
      clear ih hs
      apply hR 60
      simp (maxSteps := 10000000) (disch := omega) only [hS, hn, sm_eqs, hf, ha, sm_b0, Int.reduceToNat, ↓reduceIte, Nat.reduceEqDiff, true_and, and_true, List.length_nil, List.length_cons, Nat.reduceAdd, Nat.reduceLeDiff, Nat.zero_le, false_implies, true_implies, not_true_eq_false, not_false_eq_true, implies_true, Nat.reduceSub, Nat.reduceMul, Nat.reduceDiv, reduceCtorEq, tn_clamp, nI_t, tn_nI, nI_add, pk_mul, rS_gS, rS_gA, rS_gL, rA_gS, rA_gA, rA_gL, rL_gS, rL_gA, rL_gL, and_self, and_false, false_and, if_true, if_false, true_or, or_true, or_false, false_or, sm_in, eqI, sI_s, Int32.toInt_zero, Int.natCast_zero, Int.natCast_one, Int.cast_ofNat_Int, Int.reduceEq, Int.reduceLT, Int.reduceLE, Int.reduceNeg, Int.reduceNe, ne_eq, n_up, g_up, e_cat, fr_A, fr_O, fr_P, fr_L, ht0, e63, e64]
      clear hn hf ha hS hR
      have hw2 : (whC c t : Int) = 1 ↔ whC c t = 1 := by omega
      grind
  have h0 := loop _ 0 rfl (Nat.zero_le _) 0 rfl
  clear loop hs
  apply hR 40
  simp (maxSteps := 10000000) (disch := omega) only [hS, hn, sm_eqs, hf, ha, sm_b0, Int.reduceToNat, ↓reduceIte, Nat.reduceEqDiff, true_and, and_true, List.length_nil, List.length_cons, Nat.reduceAdd, Nat.reduceLeDiff, Nat.zero_le, false_implies, true_implies, not_true_eq_false, not_false_eq_true, implies_true, Nat.reduceSub, Nat.reduceMul, Nat.reduceDiv, reduceCtorEq, tn_clamp, nI_t, tn_nI, nI_add, pk_mul, rS_gS, rS_gA, rS_gL, rA_gS, rA_gA, rA_gL, rL_gS, rL_gA, rL_gL, and_self, and_false, false_and, if_true, if_false, true_or, or_true, or_false, false_or, sm_in, eqI, sI_s, Int32.toInt_zero, Int.natCast_zero, Int.natCast_one, Int.cast_ofNat_Int, Int.reduceEq, Int.reduceLT, Int.reduceLE, Int.reduceNeg, Int.reduceNe, ne_eq, n_up, g_up, e_cat, fr_A, fr_O, fr_P, fr_L]
  exact h0
theorem ok_X10_inside (l : Launch) (c : sm_G) : sm_spok l lay sm_mt 1 219 (sp_X10_inside c) := Or.inr (Or.inr (Or.inr ⟨by decide, by decide, by
  rw [mt_219]
  exact sm_method (T := TX10_) v_cok v_lok v_ka v_tok_X10 mok_X10_inside rfl (by unfold sm_rk; simp) (wf_X10_inside c) (fun _ h => absurd h List.not_mem_nil) (b_X10_inside c)⟩))
def clmG (c : sm_G) (r t : Int32) : sm_G := gS (gA (gA (gA (gA (gA c 26 (upd (rA c 26) (nC c) r)) 27 (upd (rA c 27) (nC c) t)) 28 (upd (rA c 28) (nC c) (nI 0))) 29 (upd (rA c 29) (nC c) (nI 0))) 30 (upd (rA c 30) (tn t) (rA c 30 (tn t) + nI 1))) 25 205 (nI (nC c + 1))
theorem clm_n (c : sm_G) (r t : Int32) (h : nC c < 100) : nC (clmG c r t) = nC c + 1 := by unfold clmG; simp (disch := omega) only [n_up, if_true, true_and, tn_nI]
theorem iv_clm {c : sm_G} (h : iv c) {r t : Nat} (hr : r < nR c) (ht : t < nT c) (hy : whyC c t = -1) (hn : nC c < 100) : iv (clmG c (nI r) (nI t)) := by
  have en := clm_n c (nI r) (nI t) hn
  have zz := iv_z h
  have zt := zz.2.2.1.2
  obtain ⟨iQ, iR, iT, iC⟩ := h
  refine ⟨iQ, iR, iT, ⟨by rw [en]; rfl, by omega⟩, fun i => ?_, fun k hk => ?_, fun u hu => ?_⟩
  · show upd (rA c 29) (nC c) (nI 0) i = nI 0 ∨ upd (rA c 29) (nC c) (nI 0) i = nI 1
    by_cases e : i = nC c
    · rw [e, pk_us]; exact Or.inl rfl
    · rw [pk_un e]; exact iC.2.1 i
  · rw [en] at hk
    show (∃ q, q < nR c ∧ upd (rA c 26) (nC c) (nI r) k = nI q) ∧ (∃ q, q < nT c ∧ upd (rA c 27) (nC c) (nI t) k = nI q) ∧ 0 ≤ (upd (rA c 28) (nC c) (nI 0) k).toInt ∧ (upd (rA c 28) (nC c) (nI 0) k).toInt ≤ 5 ∧ ((upd (rA c 28) (nC c) (nI 0) k).toInt ≤ 1 → whyC c (tn (upd (rA c 27) (nC c) (nI t) k)) = -1)
    by_cases e : k = nC c
    · rw [e, pk_us, pk_us, pk_us]
      exact ⟨⟨r, hr, rfl⟩, ⟨t, ht, rfl⟩, by decide, by decide, fun _ => by rw [tn_nI (by omega)]; exact hy⟩
    · rw [pk_un e, pk_un e, pk_un e]; exact iC.2.2.1 k (by omega)
  · have hst := iC.2.2.2 u hu
    rw [en]
    show upd (rA c 30) (tn (nI t)) (rA c 30 (tn (nI t)) + nI 1) u = nI (cnt (fun k => dc ((upd (rA c 28) (nC c) (nI 0) k).toInt ≤ 1 ∧ (upd (rA c 27) (nC c) (nI t) k).toInt = (u : Int))) (nC c) + (if dc ((upd (rA c 28) (nC c) (nI 0) (nC c)).toInt ≤ 1 ∧ (upd (rA c 27) (nC c) (nI t) (nC c)).toInt = (u : Int)) = true then 1 else 0))
    rw [cnt_congr (h := fun k => dc ((rA c 28 k).toInt ≤ 1 ∧ (rA c 27 k).toInt = (u : Int))) (nC c) (fun i hi => by show dc _ = dc _; rw [pk_un (by omega), pk_un (by omega)]), pk_us, pk_us, tn_nI (by omega), nI_t (show t < 2147483648 by omega)]
    by_cases e : u = t
    · rw [e, pk_us, if_pos (dc_t.mpr ⟨by decide, rfl⟩)]
      rw [e] at hst
      rw [hst, nI_add]
    · rw [pk_un e, if_neg (fun h => e (by have := (dc_t.mp h).2; omega))]
      rw [Nat.add_zero]; exact hst
theorem CP_clm {c g : sm_G} (h : CP c g) {r t : Nat} (hr : r < nR c) (ht : t < nT c) (hy : whyC c t = -1) (hn : nC c < 100) : CP (clmG c (nI r) (nI t)) (gS (gS (gA (gA (gA g 80 (upd (rA g 80) (nC c) (nI r))) 81 (upd (rA g 81) (nC c) (nI t))) 82 (upd (rA g 82) (nC c) (nI 0))) 53 1000 (nI 0)) 53 1035 (nI (nC c + 1))) := by
  have en := clm_n c (nI r) (nI t) hn
  have hiv := iv_clm h.1 hr ht hy hn
  obtain ⟨i, cq, cr, ct, ⟨q1, q2, q3, q4, q5, q6⟩⟩ := h
  have up : ∀ (F G : Nat → Int32) (v : Int32), (∀ k, k < nC c → F k = G k) → ∀ k, k < nC (clmG c (nI r) (nI t)) → upd F (nC c) v k = upd G (nC c) v k := fun F G v hF k hk => by
    rw [en] at hk
    by_cases e : k = nC c
    · rw [e, pk_us, pk_us]
    · rw [pk_un e, pk_un e]; exact hF k (by omega)
  refine ⟨hiv, cq, cr, ct, ⟨by rw [en]; rfl, up _ _ _ q2, up _ _ _ q3, up _ _ _ q4, fun k hk => ?_, fun k hk hk2 => ?_⟩⟩
  · rw [en] at hk
    show rA g 83 k = upd (rA c 29) (nC c) (nI 0) k
    by_cases e : k = nC c
    · rw [e, pk_us]; exact q6 _ (Nat.le_refl _) (by omega)
    · rw [pk_un e]; exact q5 k (by omega)
  · rw [en] at hk; exact q6 k (by omega) hk2

